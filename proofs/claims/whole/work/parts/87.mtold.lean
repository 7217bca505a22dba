/-! THE MODEL: what is told -/
def clN (b r n : Nat) : Nat := if b = 2 then r else if b = 4 then n * n else if b = 5 then 2 else 1
theorem clN_9 {b po ba r n : Nat} (ok : okSh b po ba r n) : clN b r n ≤ 9 := by
  obtain ⟨hb, hpo, hba, hr2, hr4, hn1, hn3, -⟩ := ok
  unfold clN
  split
  · omega
  · split
    · have : n = 1 ∨ n = 2 ∨ n = 3 := by omega
      rcases this with e | e | e <;> subst e <;> decide
    · split <;> omega
theorem clls_b {b po ba r n : Nat} {m : Sx} (sh : shH b po ba r n m) (hb : b < 6) : clls m = nI (clN b r n) := by
  unfold clls clN
  rw [sh.1, sh.2.2.2.1, sh.2.2.2.2]
  have e5 : nI b = nI 5 ↔ b = 5 := nI_eq (by omega) (by omega)
  have e4 : nI b = nI 4 ↔ b = 4 := nI_eq (by omega) (by omega)
  have e2 : nI b = nI 2 ↔ b = 2 := nI_eq (by omega) (by omega)
  by_cases h2 : b = 2
  · rw [if_pos (e2.mpr h2), if_pos h2]
  · rw [if_neg (fun z => h2 (e2.mp z)), if_neg h2]
    by_cases h4 : b = 4
    · rw [if_pos (e4.mpr h4), if_pos h4, pk_mul]
    · rw [if_neg (fun z => h4 (e4.mp z)), if_neg h4]
      by_cases h5 : b = 5
      · rw [if_pos (e5.mpr h5), if_pos h5]
      · rw [if_neg (fun z => h5 (e5.mp z)), if_neg h5]
abbrev wrgP (m : Sx) (ba bv : Nat → Int32) (i : Nat) : Prop := ¬ ba i < m.H 6 ∨ ¬ m.A (ix (ba i)) 4 = bv i
abbrev rdP (m : Sx) (N w : Nat) (r : Nat) : Prop := hJm m r ∧ (if w = 0 then ¬ hSf (hyM m) N r else if w = 1 then hGs (hyM m) N r = -1 else hGbM m N r)
noncomputable def tlM (m : Sx) (N np nc k sd bk : Nat) (ba bv : Nat → Int32) (j : Nat) : Int32 :=
  if j < 5 then m.H j else if j = 5 then nI np else if j = 6 then nI nc else if j = 7 then nI N else if j = 8 then cntU m np else if j = 9 then m.H 5 else
  if j = 10 then b2c (hAt (hyM m) N) else if j < 14 then fstF (rdP m N (j - 11)) 0 N else if j = 14 then gst m nc else if j = 15 then nI bk else if j = 16 then fstF (wrgP m ba bv) 0 bk else if j = 17 then nI k else nI sd
section RR
variable {L : Nat} {g : Nat → Nat → Int32} {m : Sx} {k : Nat} {hs : Nat → Sx} {kp : Nat → Bool} {im : Nat → Sx} {is : Nat → Nat} {sd bk : Nat} {ba bv : Nat → Int32} {rs : Nat → Sx} {b po bs r n t N : Nat} {f : Nat → Int32}
theorem M_ofAt {a x : Nat} {y : Int32} (e : y = nI a) (ha : a < 7) (hx : x < 5) : Den 45 [.ref 86, .int y, .int (nI x), .int (nI 0)] (HM L g m f) = some (some (m.A (ix y) x), HM L g m f) := by
  subst e
  rw [M_ofRow ha hx, ix_nI (by omega)]
theorem L_wrong (hb : bk ≤ 20) (h7 : g 86 7 = nI bk) (hbk : ∀ i, i < bk → g 89 i = ba i ∧ g 90 i = bv i ∧ Ix 7 (ba i)) : ∀ d j, j + d = bk → Rr 95 2 [.ref 86, .int (nI j)] [] (HM L g m f) = some (some (fstF (wrgP m ba bv) j d), HM L g m f)
  | 0, j, h => by
    have : j = bk := by omega
    subst this
    rw [e95_2]
    simp only [e95_0, e95_1, e95_3, e95_4, e95_7, e95_10, e95_11, e95_14, e95_15, e95_16, e95_17, e95_20, e95_22, e95_23, e95_26, e95_27, e95_28, e95_31, e95_32, e95_33, e95_34, e95_35, e95_38, e95_39, e95_42, e95_43, e95_44, e95_47, e95_48, e95_49, e95_52, e95_55, e95_56, en_45, i_86, gMn (show ¬ 86 = 87 by decide), h7, Int32.le_refl, if_true]
    rfl
  | d + 1, j, h => by
    have hj : j < bk := by omega
    have h1 : ¬ nI bk ≤ nI j := nI_ge hj (by omega)
    have ih := L_wrong hb h7 hbk d (j + 1) (by omega)
    obtain ⟨q1, q2, a, ha, ea⟩ := hbk j hj
    have a3 : (nI j).toNatClampNeg = j := nI_clamp (by omega)
    have a4 : ¬ (nI j < 0 ∨ 20 ≤ j) := fun z => z.elim (nI_pos (by omega)) (by omega)
    have s9 := gMn (L := L) (g := g) (F := layM m f) (show ¬ 89 = 87 by decide)
    have s0 := gMn (L := L) (g := g) (F := layM m f) (show ¬ 90 = 87 by decide)
    rw [fstF, e95_2]
    generalize fstF (wrgP m ba bv) (j + 1) d = T at ih ⊢
    simp only [e95_0, e95_1, e95_3, e95_4, e95_7, e95_10, e95_11, e95_14, e95_15, e95_16, e95_17, e95_20, e95_22, e95_23, e95_26, e95_27, e95_28, e95_31, e95_32, e95_33, e95_34, e95_35, e95_38, e95_39, e95_42, e95_43, e95_44, e95_47, e95_48, e95_49, e95_52, e95_55, e95_56, en_45, i_86, f_86_0, f_86_5, f_86_6, a_87, n_87, a_89, n_89, a_90, n_90, gMn (show ¬ 86 = 87 by decide), s9, s0, upf_same, h7, h1, if_false, a3, a4, q1, q2, in_H, rM_H, M_ofAt ea ha (show 4 < 5 by omega), nI_add, not_false_eq_true, lvH_Hq, Option.bind_some, psh_i, psh_n, gM, Nat.reduceLT, Nat.reduceLeDiff, Nat.reduceAdd, Nat.reduceMul]
    unfold wrgP
    by_cases c : m.H 6 ≤ ba j
    · rw [if_pos c, if_pos (Or.inl (Int32.not_lt.mpr c))]
    · rw [if_neg c]
      by_cases c2 : m.A (ix (ba j)) 4 = bv j
      · rw [if_pos c2, if_neg (fun z => z.elim (fun z => z (Int32.not_le.mp c)) (fun z => z c2))]
        exact ih
      · rw [if_neg c2, if_pos (Or.inr c2)]
theorem M_wrong (hb : bk ≤ 20) (h7 : g 86 7 = nI bk) (hbk : ∀ i, i < bk → g 89 i = ba i ∧ g 90 i = bv i ∧ Ix 7 (ba i)) : Den 95 [.ref 86] (HM L g m f) = some (some (fstF (wrgP m ba bv) 0 bk), HM L g m f) := by
  rw [D0_95]
  simp only [e95_0, e95_1, e95_3, e95_4, e95_7, e95_10, e95_11, e95_14, e95_15, e95_16, e95_17, e95_20, e95_22, e95_23, e95_26, e95_27, e95_28, e95_31, e95_32, e95_33, e95_34, e95_35, e95_38, e95_39, e95_42, e95_43, e95_44, e95_47, e95_48, e95_49, e95_52, e95_55, e95_56, en_45]
  exact L_wrong hb h7 hbk bk 0 (by omega)
theorem MT_91 {g' : Nat → Nat → Int32} (T : MT m k hs kp im is sd bk ba bv g) (h : ∀ i, ¬ i = 91 → g' i = g i) : MT m k hs kp im is sd bk ba bv g' ∧ frM g g' := by
  obtain ⟨⟨rs, r1, r2, r3⟩, t1, t2, t3, t4, t5, t6⟩ := T
  refine ⟨⟨⟨rs, (h 87 (by decide)).trans r1, r2, r3⟩, ?_, ?_, ?_, ?_, fun i hi hk => ?_, fun i hi => ?_⟩, fun i hi => h i (by omega)⟩
  · rw [h 86 (by decide)]; exact t1
  · rw [h 86 (by decide)]; exact t2
  · rw [h 86 (by decide)]; exact t3
  · rw [h 86 (by decide)]; exact t4
  · rw [h 88 (by decide)]; exact t5 i hi hk
  · rw [h 89 (by decide), h 90 (by decide)]; exact t6 i hi
theorem told_more {x y : Int32} {g' : Nat → Nat → Int32} (hx : ∀ i, i < 10 → ¬ x = nI i) (h : Den 196 [.ref 86, .int x] (HP L g) = some (some y, HP L g')) : Den 198 [.ref 86, .int x] (HP L g) = some (some y, HP L g') := by
  have hne : ∀ i, i < 10 → (x = nI i) = False := fun i hi => eq_false (hx i hi)
  rw [D0_198]
  simp only [e198_0, e198_1, e198_56, e198_57, e198_60, e198_61, e198_62, e198_63, e198_64, e198_67, e198_68, e198_69, e198_72, e198_73, e198_74, e198_77, e198_79, e198_80, e198_81, e198_82, e198_85, e198_86, e198_87, e198_90, e198_91, e198_92, e198_93, e198_94, e198_95, e198_98, en_7, en_46, en_128, en_196, hne 0 (by omega), hne 1 (by omega), hne 2 (by omega), hne 3 (by omega), hne 4 (by omega), hne 5 (by omega), hne 6 (by omega), hne 7 (by omega), hne 8 (by omega), hne 9 (by omega), if_false, i_86, h, Option.bind_some, psh_i, lvH_Hq]
theorem M_told_out {x : Int32} (hx : ∀ i, i < 19 → ¬ x = nI i) : Den 198 [.ref 86, .int x] (HP L g) = some (some (-1000000002), HP L g) := by
  have hne : ∀ i, i < 19 → (x = nI i) = False := fun i hi => eq_false (hx i hi)
  apply told_more (fun i hi => hx i (by omega))
  rw [D0_196]
  simp only [e196_0, e196_1, e196_52, e196_53, e196_54, e196_57, e196_60, e196_61, e196_64, e196_65, e196_66, e196_67, e196_68, e196_70, e196_71, e196_74, e196_75, e196_76, e196_79, e196_80, e196_81, e196_84, e196_85, e196_86, e196_89, e196_90, e196_91, e196_94, e196_95, e196_96, e196_99, e196_100, e196_102, en_48, en_95, en_158, en_189, hne 10 (by omega), hne 11 (by omega), hne 12 (by omega), hne 13 (by omega), hne 14 (by omega), hne 15 (by omega), hne 16 (by omega), hne 17 (by omega), hne 18 (by omega), if_false]
theorem K10_19 : ∀ j, j < 19 → ∀ i, i < 19 → (nI j = nI i) = (j = i) := fun j hj i hi => propext (nI_eq (by omega) (by omega))
theorem M_told (hb : bk ≤ 20) (hbk : ∀ i, i < bk → Ix 7 (ba i)) (I : Iv b po bs r n t N m) {j : Nat} (hj : j < 19) (T : MT m k hs kp im is sd bk ba bv g) : ∃ g', Den 198 [.ref 86, .int (nI j)] (HP L g) = some (some (tlM m N (wN b + n) (clN b r n) k sd bk ba bv j), HP L g') ∧ MT m k hs kp im is sd bk ba bv g' ∧ frM g g' := by
  have T0 := T
  obtain ⟨rs0, e0, -⟩ := M_now (L := L) T
  have HI := Iv_hI I.1
  have HS : ¬ m.H 0 = nI 5 → hSq (hyM m) N := fun z => Iv_hSq I.1 (fun z2 => z (by rw [I.1.2.1.1, z2]))
  obtain ⟨ok, sh, h6, hN, -⟩ := I.1
  have hp := prcs_b sh ok.1
  have hnp := np_le ok
  have hc := clls_b sh ok.1
  have hc9 := clN_9 ok
  obtain ⟨-, t1, t2, t3, t4, t5, t6⟩ := T
  have low : ∀ i, i < 10 → ∀ {j}, 10 ≤ j → j < 19 → ¬ nI j = nI i := fun i hi {j} h10 h19 z => by
    have := (nI_eq (by omega) (by omega)).mp z
    omega
  match j, hj with
  | 0, h | 1, h | 2, h | 3, h | 4, h => exact ⟨g, M_told_1 (by omega) T0, T0, frM_r⟩
  | 5, _ =>
    refine ⟨g, ?_, T0, frM_r⟩
    rw [e0, D0_198]
    simp only [e198_0, e198_1, e198_56, e198_57, e198_60, e198_61, e198_62, e198_63, e198_64, e198_67, e198_68, e198_69, e198_72, e198_73, e198_74, e198_77, e198_79, e198_80, e198_81, e198_82, e198_85, e198_86, e198_87, e198_90, e198_91, e198_92, e198_93, e198_94, e198_95, e198_98, en_7, en_46, en_128, en_196, K10_19 5 (by decide), Nat.reduceEqDiff, Nat.reduceLT, Nat.reduceLeDiff, Nat.reduceAdd, Nat.reduceMul, if_true, if_false, i_86, M_processes, hp, lvH_Hq, Option.bind_some, psh_i, psh_n, Hq_G, Hq_setG, upf_same, upf_upf]
    rfl
  | 6, _ =>
    refine ⟨g, ?_, T0, frM_r⟩
    rw [e0, D0_198]
    simp only [e198_0, e198_1, e198_56, e198_57, e198_60, e198_61, e198_62, e198_63, e198_64, e198_67, e198_68, e198_69, e198_72, e198_73, e198_74, e198_77, e198_79, e198_80, e198_81, e198_82, e198_85, e198_86, e198_87, e198_90, e198_91, e198_92, e198_93, e198_94, e198_95, e198_98, en_7, en_46, en_128, en_196, K10_19 6 (by decide), Nat.reduceEqDiff, Nat.reduceLT, Nat.reduceLeDiff, Nat.reduceAdd, Nat.reduceMul, if_true, if_false, i_86, M_cells, hc, lvH_Hq, Option.bind_some, psh_i, psh_n, Hq_G, Hq_setG, upf_same, upf_upf]
    rfl
  | 7, _ =>
    refine ⟨g, ?_, T0, frM_r⟩
    rw [e0, D0_198]
    simp only [e198_0, e198_1, e198_56, e198_57, e198_60, e198_61, e198_62, e198_63, e198_64, e198_67, e198_68, e198_69, e198_72, e198_73, e198_74, e198_77, e198_79, e198_80, e198_81, e198_82, e198_85, e198_86, e198_87, e198_90, e198_91, e198_92, e198_93, e198_94, e198_95, e198_98, en_7, en_46, en_128, en_196, K10_19 7 (by decide), Nat.reduceEqDiff, Nat.reduceLT, Nat.reduceLeDiff, Nat.reduceAdd, Nat.reduceMul, if_true, if_false, i_86, f_86_0, a_87, n_87, in_H, rM_H, h6, not_false_eq_true, lvH_Hq, Option.bind_some, psh_i, psh_n, Hq_G, Hq_setG, upf_same, upf_upf]
    rfl
  | 8, _ =>
    refine ⟨g, ?_, T0, frM_r⟩
    rw [e0, D0_198]
    simp only [e198_0, e198_1, e198_56, e198_57, e198_60, e198_61, e198_62, e198_63, e198_64, e198_67, e198_68, e198_69, e198_72, e198_73, e198_74, e198_77, e198_79, e198_80, e198_81, e198_82, e198_85, e198_86, e198_87, e198_90, e198_91, e198_92, e198_93, e198_94, e198_95, e198_98, en_7, en_46, en_128, en_196, K10_19 8 (by decide), Nat.reduceEqDiff, Nat.reduceLT, Nat.reduceLeDiff, Nat.reduceAdd, Nat.reduceMul, if_true, if_false, i_86, M_underWay hp hnp, lvH_Hq, Option.bind_some, psh_i, psh_n, Hq_G, Hq_setG, upf_same, upf_upf]
    rfl
  | 9, _ =>
    refine ⟨g, ?_, T0, frM_r⟩
    rw [e0, D0_198]
    simp only [e198_0, e198_1, e198_56, e198_57, e198_60, e198_61, e198_62, e198_63, e198_64, e198_67, e198_68, e198_69, e198_72, e198_73, e198_74, e198_77, e198_79, e198_80, e198_81, e198_82, e198_85, e198_86, e198_87, e198_90, e198_91, e198_92, e198_93, e198_94, e198_95, e198_98, en_7, en_46, en_128, en_196, K10_19 9 (by decide), Nat.reduceEqDiff, Nat.reduceLT, Nat.reduceLeDiff, Nat.reduceAdd, Nat.reduceMul, if_true, if_false, i_86, f_86_0, a_87, n_87, in_H, rM_H, not_false_eq_true, lvH_Hq, Option.bind_some, psh_i, psh_n, Hq_G, Hq_setG, upf_same, upf_upf]
    rfl
  | 10, _ =>
    obtain ⟨g', hg, hf⟩ := M_isAtomic (L := L) (g := g) (f := lyR rs0) HI h6 hN
    have hM : MT m k hs kp im is sd bk ba bv (upf g' 87 (layM m (lyR rs0))) ∧ frM g (upf g' 87 (layM m (lyR rs0))) := by
      refine MT_91 T0 (fun i hi => ?_)
      show (if i = 87 then layM m (lyR rs0) else g' i) = g i
      by_cases e : i = 87
      · rw [if_pos e, e]
        have e1 : Gt (HP L g) 87 = Gt (HM L g m (lyR rs0)) 87 := by rw [e0]
        rw [Hq_G, gM] at e1
        exact e1.symm
      · rw [if_neg e]
        exact hf i hi
    refine ⟨_, ?_, hM⟩
    apply told_more (fun i hi => low i hi (by omega) (by omega))
    rw [e0, D0_196]
    simp only [e196_0, e196_1, e196_52, e196_53, e196_54, e196_57, e196_60, e196_61, e196_64, e196_65, e196_66, e196_67, e196_68, e196_70, e196_71, e196_74, e196_75, e196_76, e196_79, e196_80, e196_81, e196_84, e196_85, e196_86, e196_89, e196_90, e196_91, e196_94, e196_95, e196_96, e196_99, e196_100, e196_102, en_48, en_95, en_158, en_189, K10_19 10 (by decide), Nat.reduceEqDiff, Nat.reduceLT, Nat.reduceLeDiff, Nat.reduceAdd, Nat.reduceMul, if_true, if_false, i_86, hg, lvH_Hq, Option.bind_some, psh_i, psh_n, Hq_G, Hq_setG, upf_same, upf_upf]
    rcases Classical.em (hAt (hyM m) N) with c | c
    · have e : tlM m N (wN b + n) (clN b r n) k sd bk ba bv 10 = nI 1 := b2c_t c
      rw [e, b2c_t c]
      simp only [one_n0, if_false]
    · have e : tlM m N (wN b + n) (clN b r n) k sd bk ba bv 10 = nI 0 := b2c_f c
      rw [e, b2c_f c, if_pos (show nI 0 = 0 from rfl)]
  | 11, _ =>
    refine ⟨g, ?_, T0, frM_r⟩
    apply told_more (fun i hi => low i hi (by omega) (by omega))
    rw [e0, D0_196]
    simp only [e196_0, e196_1, e196_52, e196_53, e196_54, e196_57, e196_60, e196_61, e196_64, e196_65, e196_66, e196_67, e196_68, e196_70, e196_71, e196_74, e196_75, e196_76, e196_79, e196_80, e196_81, e196_84, e196_85, e196_86, e196_89, e196_90, e196_91, e196_94, e196_95, e196_96, e196_99, e196_100, e196_102, en_48, en_95, en_158, en_189, K10_19 11 (by decide), Nat.reduceEqDiff, Nat.reduceLT, Nat.reduceLeDiff, Nat.reduceAdd, Nat.reduceMul, if_true, if_false, i_86, show nI 11 - nI 11 = nI 0 from rfl, M_firstRead HI HS h6 hN (show 0 < 3 by omega), lvH_Hq, Option.bind_some, psh_i, psh_n, Hq_G, Hq_setG, upf_same, upf_upf]
    rfl
  | 12, _ =>
    refine ⟨g, ?_, T0, frM_r⟩
    apply told_more (fun i hi => low i hi (by omega) (by omega))
    rw [e0, D0_196]
    simp only [e196_0, e196_1, e196_52, e196_53, e196_54, e196_57, e196_60, e196_61, e196_64, e196_65, e196_66, e196_67, e196_68, e196_70, e196_71, e196_74, e196_75, e196_76, e196_79, e196_80, e196_81, e196_84, e196_85, e196_86, e196_89, e196_90, e196_91, e196_94, e196_95, e196_96, e196_99, e196_100, e196_102, en_48, en_95, en_158, en_189, K10_19 12 (by decide), Nat.reduceEqDiff, Nat.reduceLT, Nat.reduceLeDiff, Nat.reduceAdd, Nat.reduceMul, if_true, if_false, i_86, show nI 12 - nI 11 = nI 1 from rfl, M_firstRead HI HS h6 hN (show 1 < 3 by omega), lvH_Hq, Option.bind_some, psh_i, psh_n, Hq_G, Hq_setG, upf_same, upf_upf]
    rfl
  | 13, _ =>
    refine ⟨g, ?_, T0, frM_r⟩
    apply told_more (fun i hi => low i hi (by omega) (by omega))
    rw [e0, D0_196]
    simp only [e196_0, e196_1, e196_52, e196_53, e196_54, e196_57, e196_60, e196_61, e196_64, e196_65, e196_66, e196_67, e196_68, e196_70, e196_71, e196_74, e196_75, e196_76, e196_79, e196_80, e196_81, e196_84, e196_85, e196_86, e196_89, e196_90, e196_91, e196_94, e196_95, e196_96, e196_99, e196_100, e196_102, en_48, en_95, en_158, en_189, K10_19 13 (by decide), Nat.reduceEqDiff, Nat.reduceLT, Nat.reduceLeDiff, Nat.reduceAdd, Nat.reduceMul, if_true, if_false, i_86, show nI 13 - nI 11 = nI 2 from rfl, M_firstRead HI HS h6 hN (show 2 < 3 by omega), lvH_Hq, Option.bind_some, psh_i, psh_n, Hq_G, Hq_setG, upf_same, upf_upf]
    rfl
  | 14, _ =>
    refine ⟨g, ?_, T0, frM_r⟩
    apply told_more (fun i hi => low i hi (by omega) (by omega))
    rw [e0, D0_196]
    simp only [e196_0, e196_1, e196_52, e196_53, e196_54, e196_57, e196_60, e196_61, e196_64, e196_65, e196_66, e196_67, e196_68, e196_70, e196_71, e196_74, e196_75, e196_76, e196_79, e196_80, e196_81, e196_84, e196_85, e196_86, e196_89, e196_90, e196_91, e196_94, e196_95, e196_96, e196_99, e196_100, e196_102, en_48, en_95, en_158, en_189, K10_19 14 (by decide), Nat.reduceEqDiff, Nat.reduceLT, Nat.reduceLeDiff, Nat.reduceAdd, Nat.reduceMul, if_true, if_false, i_86, M_stampMost hc hc9, lvH_Hq, Option.bind_some, psh_i, psh_n, Hq_G, Hq_setG, upf_same, upf_upf]
    rfl
  | 15, _ =>
    refine ⟨g, ?_, T0, frM_r⟩
    apply told_more (fun i hi => low i hi (by omega) (by omega))
    rw [D0_196]
    simp only [e196_0, e196_1, e196_52, e196_53, e196_54, e196_57, e196_60, e196_61, e196_64, e196_65, e196_66, e196_67, e196_68, e196_70, e196_71, e196_74, e196_75, e196_76, e196_79, e196_80, e196_81, e196_84, e196_85, e196_86, e196_89, e196_90, e196_91, e196_94, e196_95, e196_96, e196_99, e196_100, e196_102, en_48, en_95, en_158, en_189, K10_19 15 (by decide), Nat.reduceEqDiff, Nat.reduceLT, Nat.reduceLeDiff, Nat.reduceAdd, Nat.reduceMul, if_true, if_false, i_86, t4, lvH_Hq, Option.bind_some, psh_i, psh_n, Hq_G, Hq_setG, upf_same, upf_upf]
    rfl
  | 16, _ =>
    refine ⟨g, ?_, T0, frM_r⟩
    apply told_more (fun i hi => low i hi (by omega) (by omega))
    rw [e0, D0_196]
    simp only [e196_0, e196_1, e196_52, e196_53, e196_54, e196_57, e196_60, e196_61, e196_64, e196_65, e196_66, e196_67, e196_68, e196_70, e196_71, e196_74, e196_75, e196_76, e196_79, e196_80, e196_81, e196_84, e196_85, e196_86, e196_89, e196_90, e196_91, e196_94, e196_95, e196_96, e196_99, e196_100, e196_102, en_48, en_95, en_158, en_189, K10_19 16 (by decide), Nat.reduceEqDiff, Nat.reduceLT, Nat.reduceLeDiff, Nat.reduceAdd, Nat.reduceMul, if_true, if_false, i_86, M_wrong (L := L) (g := g) (m := m) (f := lyR rs0) hb t4 (fun i hi => ⟨(t6 i hi).1, (t6 i hi).2, hbk i hi⟩), lvH_Hq, Option.bind_some, psh_i, psh_n, Hq_G, Hq_setG, upf_same, upf_upf]
    rfl
  | 17, _ =>
    refine ⟨g, ?_, T0, frM_r⟩
    apply told_more (fun i hi => low i hi (by omega) (by omega))
    rw [D0_196]
    simp only [e196_0, e196_1, e196_52, e196_53, e196_54, e196_57, e196_60, e196_61, e196_64, e196_65, e196_66, e196_67, e196_68, e196_70, e196_71, e196_74, e196_75, e196_76, e196_79, e196_80, e196_81, e196_84, e196_85, e196_86, e196_89, e196_90, e196_91, e196_94, e196_95, e196_96, e196_99, e196_100, e196_102, en_48, en_95, en_158, en_189, K10_19 17 (by decide), Nat.reduceEqDiff, Nat.reduceLT, Nat.reduceLeDiff, Nat.reduceAdd, Nat.reduceMul, if_true, if_false, i_86, t1, lvH_Hq, Option.bind_some, psh_i, psh_n, Hq_G, Hq_setG, upf_same, upf_upf]
    rfl
  | 18, _ =>
    refine ⟨g, ?_, T0, frM_r⟩
    apply told_more (fun i hi => low i hi (by omega) (by omega))
    rw [D0_196]
    simp only [e196_0, e196_1, e196_52, e196_53, e196_54, e196_57, e196_60, e196_61, e196_64, e196_65, e196_66, e196_67, e196_68, e196_70, e196_71, e196_74, e196_75, e196_76, e196_79, e196_80, e196_81, e196_84, e196_85, e196_86, e196_89, e196_90, e196_91, e196_94, e196_95, e196_96, e196_99, e196_100, e196_102, en_48, en_95, en_158, en_189, K10_19 18 (by decide), Nat.reduceEqDiff, Nat.reduceLT, Nat.reduceLeDiff, Nat.reduceAdd, Nat.reduceMul, if_true, if_false, i_86, t3, lvH_Hq, Option.bind_some, psh_i, psh_n, Hq_G, Hq_setG, upf_same, upf_upf]
    rfl
  | j + 19, h => omega
end RR
