/-! THE CLASS' CALLS: seed, book, images, undo, clear -/
section RR
variable {L : Nat} {g g' : Nat → Nat → Int32} {c m : Sx} {k : Nat} {hc : Nat → Sx} {kp : Nat → Bool} {ic : Nat → Sx} {is : Nat → Nat} {sd bk : Nat} {ba bv : Nat → Int32} {b po bs r n t N : Nat} {x y : Int32}
theorem im_t {i : Nat} (hi : i < 2) : b2 (0 ≤ nI i ∧ nI i < nI 2) = nI 1 := im_b hi
theorem im_f (hx : ¬ Ix 2 x) : b2 (0 ≤ x ∧ x < nI 2) = nI 0 := if_neg (fun z => by
  obtain ⟨j, hj, e⟩ := nI_of (x := x) (Int32.not_lt.mpr z.1)
  subst e
  have := (nI_ltI hj (by omega)).mp z.2
  exact hx ⟨j, this, rfl⟩)
theorem C_keep1 {i : Nat} (hi : i < 2) (T : KT c k hc kp ic is sd bk ba bv g) : ∃ g', Den 117 [.ref 1, .int (nI i)] (HP L g) = some (some (nI 1), HP L g') ∧ KT c 0 hc (setB kp i) (upf ic i c) (upf is i sd) sd bk ba bv g' ∧ g' 7 = g 7 ∧ g' 53 = g 53 ∧ frC g g' := by
  obtain ⟨t3, t1, ⟨o, ho, o1, o2, o3⟩, t4, t5, t6, t7⟩ := T
  obtain ⟨t, ht⟩ := t7 (80 + i) (by unfold rwI; omega)
  have d := D_imStore (L := L) st_2 hi (x := nI sd) t3 ht
  refine ⟨upf (upf (upf g (80 + i) (lay c)) 82 (upd (g 82) i (nI sd))) 58 (upd (g 58) 2 (nI 0)), ?_, ⟨?_, ?_, ⟨o, ho, ?_, ?_, fun j hj => by omega⟩, fun j hj => ⟨?_, fun z => ?_⟩, ?_, fun j hj => ?_, fun j hj => ?_⟩, ?_, ?_, frC_t (frC_t (frC_upf (by omega) (by omega)) (frC_upf (by omega) (by omega))) (frC_upf (by omega) (by omega))⟩
  · have a5 : upf (upf g (80 + i) (lay c)) 82 (upd (g 82) i (nI sd)) 58 = g 58 := by
      rw [upf_ne (by omega), upf_ne (by omega)]
    rw [D0_117]
    simp only [e117_0, e117_1, e117_4, e117_5, e117_8, e117_11, e117_13, e117_14, e117_15, e117_18, e117_19, e117_20, e117_23, e117_24, e117_27, e117_30, e117_31, e117_34, e117_37, e117_38, en_16, en_18, en_56, i_1, i_58, i_77, f_1_0, f_1_3, f_1_4, D_isImage, im_t hi, one_n0, not_false_eq_true, if_true, Hq_G, t1, d, D_ddForget, a5, lvH_Hq, Option.bind_some, psh_i, psh_n]
  · rw [upf_ne (by omega), upf_ne (by omega), upf_ne (by omega)]
    exact t3
  · rw [upf_ne (by omega), upf_ne (by omega), upf_ne (by omega)]
    exact t1
  · rw [upf_same]
    exact o1
  · rw [upf_same]
    rfl
  · rw [upf_ne (by omega), upf_same]
    unfold upd setB upf
    by_cases e : j = i
    · rw [if_pos e, if_pos e, if_pos e, if_pos rfl]
    · rw [if_neg e, if_neg e, if_neg e]
      exact (t4 j hj).1
  · rw [upf_ne (by omega), upf_ne (by omega)]
    by_cases e : j = i
    · rw [e, upf_same, upf_same]
    · rw [upf_ne (by omega), upf_ne e]
      refine (t4 j hj).2 ?_
      unfold setB at z
      rwa [if_neg e] at z
  · rw [upf_ne (by omega), upf_ne (by omega), upf_ne (by omega)]
    exact t5
  · rw [upf_ne (by omega), upf_ne (by omega), upf_ne (by omega), upf_ne (by omega), upf_ne (by omega), upf_ne (by omega)]
    exact t6 j hj
  · rw [upf_ne (by unfold rwI at hj; omega), upf_ne (by unfold rwI at hj; omega)]
    by_cases e : j = 80 + i
    · rw [e, upf_same]
      exact ⟨c, rfl⟩
    · rw [upf_ne e]
      exact t7 j hj
  · rw [upf_ne (by omega), upf_ne (by omega), upf_ne (by omega)]
  · rw [upf_ne (by omega), upf_ne (by omega), upf_ne (by omega)]
theorem C_keep0 (hx : ¬ Ix 2 x) : Den 117 [.ref 1, .int x] (HP L g) = some (some (-1000000001), HP L g) := by
  rw [D0_117]
  simp only [e117_0, e117_1, e117_4, e117_5, e117_8, e117_11, e117_13, e117_14, e117_15, e117_18, e117_19, e117_20, e117_23, e117_24, e117_27, e117_30, e117_31, e117_34, e117_37, e117_38, en_16, en_18, en_56, i_1, i_77, f_1_4, D_isImage, im_f hx, zz, not_true_eq_false, if_false, lvH_Hq, Option.bind_some, psh_i]
theorem C_back1 {i : Nat} (hi : i < 2) (hk : kp i = true) (hs : is i < 2147483648) (T : KT c k hc kp ic is sd bk ba bv g) : ∃ g', Den 138 [.ref 1, .int (nI i)] (HP L g) = some (some (nI 1), HP L g') ∧ KT (ic i) 0 hc kp ic is (is i) bk ba bv g' ∧ g' 7 5 = nI 0 ∧ frC g g' := by
  have T0 := T
  obtain ⟨t3, t1, ⟨o, ho, o1, o2, o3⟩, t4, t5, t6, t7⟩ := T
  obtain ⟨q1, q2⟩ := t4 i hi
  rw [if_pos hk] at q1
  have d := D_imRestore (L := L) st_2 hi t3 (q2 hk)
  have a1 : b2 (¬ g 82 i = -1) = nI 1 := if_pos (by
    rw [q1]
    exact nI_nm1 hs)
  have a2 : ∀ F, upf g 3 F 82 i = nI (is i) := fun F => q1
  refine ⟨_, ?_, KT_f (KT_58 (KT_1 (KT_c T0))), rfl, frC_t (frC_t (frC_t (frC_upf (by omega) (by omega)) (frC_upf (by omega) (by omega))) (frC_upf (by omega) (by omega))) (frC_upf (by omega) (by omega))⟩
  rw [D0_138]
  simp only [e138_0, e138_1, e138_4, e138_5, e138_8, e138_11, e138_13, e138_14, e138_15, e138_18, e138_19, e138_22, e138_25, e138_27, e138_28, e138_29, e138_32, e138_33, e138_34, e138_37, e138_40, e138_41, e138_42, e138_45, e138_46, e138_49, e138_52, e138_53, e138_56, e138_59, e138_60, e138_63, e138_66, e138_67, en_16, en_18, en_31, en_54, en_55, en_96, i_1, i_7, i_58, i_77, f_1_0, f_1_2, f_1_3, f_1_4, D_isImage, im_t hi, one_n0, not_false_eq_true, if_true, D_isKept hi, a1, d, D_seedOf hi, a2, D_ddForget, C_wForget, Hq_G, Hq_setG, lvH_Hq, Option.bind_some, psh_i, psh_n]
theorem C_back2 {i : Nat} (hi : i < 2) (hk : ¬ kp i = true) (T : KT c k hc kp ic is sd bk ba bv g) : Den 138 [.ref 1, .int (nI i)] (HP L g) = some (some (-1000000003), HP L g) := by
  have q1 := (T.2.2.2.1 i hi).1
  rw [if_neg hk] at q1
  have a1 : b2 (¬ g 82 i = -1) = nI 0 := if_neg (fun z => z q1)
  rw [D0_138]
  simp only [e138_0, e138_1, e138_4, e138_5, e138_8, e138_11, e138_13, e138_14, e138_15, e138_18, e138_19, e138_22, e138_25, e138_27, e138_28, e138_29, e138_32, e138_33, e138_34, e138_37, e138_40, e138_41, e138_42, e138_45, e138_46, e138_49, e138_52, e138_53, e138_56, e138_59, e138_60, e138_63, e138_66, e138_67, en_16, en_18, en_31, en_54, en_55, en_96, i_1, i_77, f_1_4, D_isImage, im_t hi, one_n0, zz, not_true_eq_false, not_false_eq_true, if_true, if_false, D_isKept hi, a1, lvH_Hq, Option.bind_some, psh_i]
theorem C_back0 (hx : ¬ Ix 2 x) : Den 138 [.ref 1, .int x] (HP L g) = some (some (-1000000001), HP L g) := by
  rw [D0_138]
  simp only [e138_0, e138_1, e138_4, e138_5, e138_8, e138_11, e138_13, e138_14, e138_15, e138_18, e138_19, e138_22, e138_25, e138_27, e138_28, e138_29, e138_32, e138_33, e138_34, e138_37, e138_40, e138_41, e138_42, e138_45, e138_46, e138_49, e138_52, e138_53, e138_56, e138_59, e138_60, e138_63, e138_66, e138_67, en_16, en_18, en_31, en_54, en_55, en_96, i_1, i_77, f_1_4, D_isImage, im_f hx, zz, not_true_eq_false, if_false, lvH_Hq, Option.bind_some, psh_i]
theorem C_undo1 {j : Nat} (h1 : 1 ≤ j) (hj : j ≤ k) (hk : k ≤ 16) (T : KT c k hc kp ic is sd bk ba bv g) : ∃ g', Den 119 [.ref 1, .int (nI j)] (HP L g) = some (some (nI (k - j)), HP L g') ∧ KT (hc (j - 1)) (k - j) (fun i => hc (i + j)) kp ic is sd bk ba bv g' ∧ g' 7 5 = nI 0 ∧ frC g g' := by
  have T0 := T
  obtain ⟨t3, t1, ⟨o, ho, o1, o2, o3⟩, t4, t5, t6, t7⟩ := T
  have hr := o3 (j - 1) (by omega)
  rw [show k - 1 - (j - 1) = k - j by omega] at hr
  have d := D_ddTake (L := L) st_2 ho hj hk o1 o2 t3 hr
  have a1 : b2 (nI 1 ≤ nI j ∧ nI j ≤ nI 16) = nI 1 := in_1_16 h1 (by omega)
  have a2 : nI j ≤ nI k := (nI_leI (by omega) (by omega)).mpr hj
  have T1 : KT (hc (j - 1)) (k - j) (fun i => hc (i + j)) kp ic is sd bk ba bv (upf (upf g 58 (upd (g 58) 2 (nI (k - j)))) 3 (lay (hc (j - 1)))) := by
    refine ⟨upf_same, t1, ⟨o, ho, o1, rfl, fun i hi => ?_⟩, fun i hi => ⟨(t4 i hi).1, fun z => ?_⟩, t5, t6, fun i hi => ?_⟩
    · rw [upf_ne (by omega), upf_ne (by omega)]
      have := o3 (i + j) (by omega)
      rwa [show k - 1 - (i + j) = k - j - 1 - i by omega] at this
    · rw [upf_ne (by omega), upf_ne (by omega)]
      exact (t4 i hi).2 z
    · rw [upf_ne (by unfold rwI at hi; omega), upf_ne (by unfold rwI at hi; omega)]
      exact t7 i hi
  refine ⟨_, ?_, KT_f T1, rfl, frC_t (frC_t (frC_upf (by omega) (by omega)) (frC_upf (by omega) (by omega))) (frC_upf (by omega) (by omega))⟩
  have a3 : ∀ F, upf (upf (upf g 58 (upd (g 58) 2 (nI (k - j)))) 3 (lay (hc (j - 1)))) 7 F 58 2 = nI (k - j) := fun F => rfl
  rw [D0_119]
  simp only [e119_0, e119_1, e119_2, e119_4, e119_7, e119_10, e119_12, e119_13, e119_14, e119_15, e119_18, e119_21, e119_24, e119_26, e119_27, e119_28, e119_31, e119_32, e119_33, e119_36, e119_39, e119_40, e119_43, e119_46, e119_47, e119_50, e119_53, en_17, en_31, en_35, en_52, i_1, i_7, i_58, f_1_0, f_1_2, f_1_3, C_within, a1, one_n0, not_false_eq_true, if_true, D_ddSize, o2, a2, d, C_wForget, a3, lvH_Hq, Option.bind_some, psh_i, psh_n]
theorem C_undo2 {j : Nat} (h1 : 1 ≤ j) (hj : j ≤ 16) (hk : ¬ j ≤ k) (hk16 : k ≤ 16) (T : KT c k hc kp ic is sd bk ba bv g) : Den 119 [.ref 1, .int (nI j)] (HP L g) = some (some (-1000000003), HP L g) := by
  obtain ⟨t3, t1, ⟨o, ho, o1, o2, o3⟩, t4, t5, t6, t7⟩ := T
  have a1 : b2 (nI 1 ≤ nI j ∧ nI j ≤ nI 16) = nI 1 := in_1_16 h1 hj
  have a2 : ¬ nI j ≤ nI k := nI_ge (by omega) (by omega)
  rw [D0_119]
  simp only [e119_0, e119_1, e119_2, e119_4, e119_7, e119_10, e119_12, e119_13, e119_14, e119_15, e119_18, e119_21, e119_24, e119_26, e119_27, e119_28, e119_31, e119_32, e119_33, e119_36, e119_39, e119_40, e119_43, e119_46, e119_47, e119_50, e119_53, en_17, en_31, en_35, en_52, i_1, i_58, f_1_3, C_within, a1, one_n0, not_false_eq_true, if_true, if_false, D_ddSize, o2, a2, lvH_Hq, Option.bind_some, psh_i, psh_n]
theorem C_undo0 (hx : ¬ ∃ j, 1 ≤ j ∧ j ≤ 16 ∧ x = nI j) : Den 119 [.ref 1, .int x] (HP L g) = some (some (-1000000002), HP L g) := by
  have e : b2 (nI 1 ≤ x ∧ x ≤ nI 16) = nI 0 := if_neg (fun z => hx ((rng_n (by omega) (by omega)).mp z))
  rw [D0_119]
  simp only [e119_0, e119_1, e119_2, e119_4, e119_7, e119_10, e119_12, e119_13, e119_14, e119_15, e119_18, e119_21, e119_24, e119_26, e119_27, e119_28, e119_31, e119_32, e119_33, e119_36, e119_39, e119_40, e119_43, e119_46, e119_47, e119_50, e119_53, en_17, en_31, en_35, en_52, i_1, C_within, e, zz, not_true_eq_false, if_false, lvH_Hq, Option.bind_some, psh_i]
theorem C_clear (T : KT c k hc kp ic is sd bk ba bv g) : ∃ g', Den 154 [.ref 1] (HP L g) = some (some (c.H 6), HP L g') ∧ KT (rst c) 0 hc kp ic is sd bk ba bv g' ∧ g' 7 5 = nI 0 ∧ frC g g' := by
  obtain ⟨g', d, T', h7, F⟩ := C_beginAnew (L := L) T
  have e0 := HP_3 (L := L) T.1
  refine ⟨g', ?_, T', h7, F⟩
  rw [e0] at d ⊢
  rw [D0_154]
  simp only [e154_0, e154_1, e154_4, e154_6, e154_9, e154_10, e154_11, e154_14, e154_15, en_25, en_136, i_1, i_2, f_1_0, D_get st_2 (show 6 < 7 by omega), d, lvH_Hq, Option.bind_some, psh_i, psh_n]
end RR
