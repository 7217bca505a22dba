/-! THE MODEL: what may have been told, who goes back -/
section MM
variable {L : Nat} {g : Nat → Nat → Int32} {s : Sx} {f : Nat → Int32} {N : Nat}
theorem L_number {w : Nat} (hw : w < 7) : ∀ k j, j + k = w + 1 → Rr 127 4 [.ref 86, .int (nI w), .int (nI (cW (hyM s) j)), .int (nI j)] [] (HM L g s f) = some (some (nI (cW (hyM s) (w + 1))), HM L g s f)
  | 0, j, h => by
    have : j = w + 1 := by omega
    subst this
    have h1 : nI w < nI (w + 1) := nI_lt (by omega) (by omega)
    rw [e127_4]
    simp only [e127_0, e127_1, e127_2, e127_3, e127_5, e127_6, e127_9, e127_10, e127_11, e127_12, e127_18, e127_19, e127_22, e127_23, e127_24, e127_25, e127_28, e127_31, e127_32, en_88, h1, if_true]
  | k + 1, j, h => by
    have h1 : ¬ nI w < nI j := nI_nlt (by omega) (by omega)
    have ih := L_number hw k (j + 1) (by omega)
    generalize nI (cW (hyM s) (w + 1)) = T at ih ⊢
    rw [e127_4]
    simp only [e127_5, e127_6, e127_9, e127_10, e127_11, e127_12, e127_15, en_88, i_86, h1, if_false, M_isWritten (show j < 7 by omega), lvH_Hq, Option.bind_some, psh_i, psh_n, Hq_G, Hq_setG, upf_same, upf_upf, b2_0, Classical.not_not]
    rw [cW] at ih
    by_cases c : (hyM s).W j = -1
    · rw [if_pos c] at ih ⊢
      simp only [e127_22, e127_23, e127_24, e127_25, e127_28, nI_add, Nat.add_zero]
      exact ih
    · rw [if_neg c] at ih ⊢
      simp only [e127_18, e127_19, e127_23, e127_24, e127_25, e127_28, nI_add]
      exact ih
theorem M_number {w : Nat} (hw : w < 7) : Den 127 [.ref 86, .int (nI w)] (HM L g s f) = some (some (nI (cW (hyM s) (w + 1))), HM L g s f) := by
  rw [D0_127]
  simp only [e127_0, e127_1, e127_2, e127_3]
  exact L_number hw (w + 1) 0 (by omega)
abbrev fndM (h : Hy) (G : Prop) [Decidable G] (n r j : Nat) : Int32 := if G then ph h (hGd h n r j) else ph h (srcL h n r j)
theorem L_may (HI : hI (hyM s) N) (HS : hSq (hyM s) N) (hN : s.H 6 = nI N) (h7 : N ≤ 7) {r : Nat} (hr : r < N) (hE : ¬ (hyM s).E r = -1) {G : Prop} [Decidable G] : ∀ k j (v : Value), j + k = N → Rr 176 42 [.ref 86, .int (nI r), .int (b2 G), .int (fndM (hyM s) G N r j), .int (nI j), v] [] (HM L g s f) = some (some (fndM (hyM s) G N r N), HM L g s f)
  | 0, j, v, h => by
    have : j = N := by omega
    subst this
    rw [e176_42]
    simp only [e176_0, e176_1, e176_2, e176_3, e176_4, e176_7, e176_8, e176_9, e176_10, e176_11, e176_14, e176_17, e176_18, e176_19, e176_25, e176_26, e176_29, e176_30, e176_31, e176_32, e176_35, e176_38, e176_39, e176_40, e176_44, e176_45, e176_48, e176_50, e176_51, e176_54, e176_55, e176_57, e176_58, e176_64, e176_65, e176_67, e176_68, e176_69, e176_72, e176_73, e176_74, e176_75, e176_76, e176_79, e176_82, e176_83, e176_85, e176_88, e176_90, e176_91, e176_94, e176_95, e176_98, e176_100, e176_101, e176_104, e176_107, e176_109, e176_110, e176_113, e176_115, e176_118, e176_119, e176_120, e176_123, e176_126, e176_127, en_45, en_127, en_144, en_146, en_159, i_86, f_86_0, a_87, n_87, in_H, rM_H, hN, not_false_eq_true, lvH_Hq, Option.bind_some, psh_i, psh_n, Hq_G, Hq_setG, upf_same, upf_upf, Nat.reduceLT, Nat.reduceLeDiff, Nat.reduceAdd, Nat.reduceMul, Int32.le_refl, if_true]
  | k + 1, j, v, h => by
    have hj : j < N := by omega
    have h1 : ¬ nI N ≤ nI j := nI_ge (by omega) (by omega)
    have ih := fun w => L_may HI HS hN h7 hr hE (G := G) k (j + 1) w (by omega)
    generalize fndM (hyM s) G N r N = T at ih ⊢
    have no : ∀ w, ¬ hTb (hyM s) j r → Rr 176 120 [.ref 86, .int (nI r), .int (b2 G), .int (fndM (hyM s) G N r j), .int (nI j), w] [] (HM L g s f) = some (some T, HM L g s f) := by
      intro w c
      have e : fndM (hyM s) G N r (j + 1) = fndM (hyM s) G N r j := by
        unfold fndM
        rw [ph_keepG c, ph_keepL (by omega) c]
      rw [e] at ih
      simp only [e176_120, e176_123, nI_add]
      exact ih _
    rw [e176_42]
    simp only [e176_44, e176_45, e176_48, e176_50, e176_51, e176_54, e176_55, e176_57, e176_58, e176_61, en_146, i_86, f_86_0, a_87, n_87, in_H, rM_H, hN, h1, if_false, M_overlaps HI h7 hj hr hE, not_false_eq_true, lvH_Hq, Option.bind_some, psh_i, psh_n, Hq_G, Hq_setG, upf_same, upf_upf, Nat.reduceLT, Nat.reduceLeDiff, Nat.reduceAdd, Nat.reduceMul, b2_0, ite_not]
    by_cases c2 : hBs (hyM s) j r
    · rw [if_pos c2]
      simp only [e176_64, e176_65, e176_67, e176_68, e176_69, e176_72, e176_73, e176_74, e176_75, e176_76, e176_79, en_45, i_86, M_ofRow (show j < 7 by omega), M_ofRow (show r < 7 by omega), lvH_Hq, Option.bind_some, psh_i, psh_n, Hq_G, Hq_setG, upf_same, upf_upf, Nat.reduceLT, Nat.reduceLeDiff, Nat.reduceAdd, Nat.reduceMul, hyM_T, hyM_W, ite_not]
      by_cases c3 : (hyM s).W j = (hyM s).T r
      · rw [if_pos c3]
        have ht : hTb (hyM s) j r := ⟨c2, c3⟩
        obtain ⟨g1, g2⟩ := ph_gd HI HS h7 hj ht
        obtain ⟨l1, l2⟩ := ph_ls HI HS h7 hj ht
        have one0 : ¬ nI 1 = 0 := by decide
        simp only [e176_82, e176_83, e176_85, e176_88, e176_90, e176_91, en_127, i_86, M_number (show j < 7 by omega), lvH_Hq, Option.bind_some, psh_i, psh_n, Hq_G, Hq_setG, upf_same, upf_upf]
        have put : fndM (hyM s) G N r (j + 1) = nI (cW (hyM s) (j + 1)) → Rr 176 113 [.ref 86, .int (nI r), .int (b2 G), .int (fndM (hyM s) G N r j), .int (nI j), .int (nI (cW (hyM s) (j + 1)))] [] (HM L g s f) = some (some T, HM L g s f) := by
          intro e
          rw [e] at ih
          simp only [e176_113, e176_115, e176_119, e176_120, e176_123, nI_add]
          exact ih _
        have keep : fndM (hyM s) G N r (j + 1) = fndM (hyM s) G N r j → Rr 176 118 [.ref 86, .int (nI r), .int (b2 G), .int (fndM (hyM s) G N r j), .int (nI j), .int (nI (cW (hyM s) (j + 1)))] [] (HM L g s f) = some (some T, HM L g s f) := by
          intro e
          rw [e] at ih
          simp only [e176_118, e176_119, e176_120, e176_123, nI_add]
          exact ih _
        by_cases cG : G
        · have e1 : ∀ k, fndM (hyM s) G N r k = ph (hyM s) (hGd (hyM s) N r k) := fun k => if_pos cG
          rw [e1, e1] at put
          rw [e1]
          by_cases cn : ph (hyM s) (hGd (hyM s) N r j) < 0
          · rw [if_pos cn]
            exact put g2
          · rw [if_neg cn]
            simp only [e176_94, e176_95, b2_0]
            rw [if_neg (fun z => z cG)]
            simp only [e176_98, e176_100, e176_101, if_neg (Int32.not_le.mpr (g1.resolve_left cn)), e176_104]
            exact put g2
        · have e1 : ∀ k, fndM (hyM s) G N r k = ph (hyM s) (srcL (hyM s) N r k) := fun k => if_neg cG
          rw [e1, e1] at put keep
          rw [e1]
          by_cases cn : ph (hyM s) (srcL (hyM s) N r j) < 0
          · rw [if_pos cn]
            exact put (l2 cn)
          · rw [if_neg cn]
            simp only [e176_94, e176_95, b2_0]
            rw [if_pos cG]
            simp only [e176_107, e176_109, e176_110, (l1 cn).1, if_true]
            exact keep (by rw [(l1 cn).2])
      · rw [if_neg c3]
        exact no _ (fun z => c3 z.2)
    · rw [if_neg c2]
      exact no _ (fun z => c2 z.1)
theorem M_may (HI : hI (hyM s) N) (HS : hSq (hyM s) N) (hN : s.H 6 = nI N) (h7 : N ≤ 7) {r : Nat} (hr : r < N) (hE : ¬ (hyM s).E r = -1) {G : Prop} [Decidable G] : Den 176 [.ref 86, .int (nI r), .int (b2 G)] (HM L g s f) = some (some (if G then ph (hyM s) (hGs (hyM s) N r) else ph (hyM s) (hLs (hyM s) N r)), HM L g s f) := by
  have h0 := L_may (L := L) (g := g) (f := f) HI HS hN h7 hr hE (G := G) N 0 (.retAddr 0) (by omega)
  have e0 : fndM (hyM s) G N r 0 = if hTl (hyM s) N r then ph (hyM s) (hLw (hyM s) r N + nI 1) else -1 := by
    unfold fndM srcL
    rw [hGd, hLd]
    by_cases c : hTl (hyM s) N r
    · rw [if_pos c, if_pos c, ite_self]
    · rw [if_neg c, if_neg c, ite_self, ph_m1]
  have e1 : (if G then ph (hyM s) (hGs (hyM s) N r) else ph (hyM s) (hLs (hyM s) N r)) = fndM (hyM s) G N r N := rfl
  have hIx := hLw_p (h := hyM s) (r := r) N
  have hpos := pos_m1 (hLw_ix (h := hyM s) (r := r) N) (by omega)
  rw [e0] at h0
  rw [e1, D0_176]
  refine Eq.trans ?_ h0
  simp only [e176_0, e176_1, e176_2, e176_3, e176_4, e176_7, e176_8, e176_9, e176_10, e176_11, e176_14, en_159, en_45, i_86, M_lastValue HI hN h7 hr, M_ofRow (show r < 7 by omega), lvH_Hq, Option.bind_some, psh_i, psh_n, Hq_G, Hq_setG, upf_same, upf_upf, Nat.reduceLT, Nat.reduceLeDiff, Nat.reduceAdd, Nat.reduceMul, hyM_T, ite_not]
  by_cases c : hTl (hyM s) N r
  · rw [if_pos c.symm, if_pos c]
    simp only [e176_17, e176_18, e176_19, e176_22, en_144, i_86, M_lastOf HI hN h7 hr, lvH_Hq, Option.bind_some, psh_i, psh_n, Hq_G, Hq_setG, upf_same, upf_upf, hpos, ite_not]
    rcases hIx with e | ⟨m, hm, e, -⟩
    · rw [if_pos e, e]
      have e2 : ph (hyM s) (-1 + nI 1) = nI 0 := ph_n (k := 0) (by omega)
      rw [e2]
      simp only [e176_25, e176_26, e176_38, e176_39, e176_40]
    · rw [e, if_neg (nI_nm1 (by omega))]
      have e2 : ph (hyM s) (nI m + nI 1) = nI (cW (hyM s) (m + 1)) := by rw [nI_add, ph_n (by omega)]
      rw [e2]
      simp only [e176_29, e176_30, e176_31, e176_32, e176_35, e176_38, e176_39, e176_40, en_144, en_127, i_86, M_lastOf HI hN h7 hr, e, M_number (show m < 7 by omega), lvH_Hq, Option.bind_some, psh_i, psh_n, Hq_G, Hq_setG, upf_same, upf_upf]
  · rw [if_neg (fun z => c z.symm), if_neg c]
    simp only [e176_39, e176_40]
theorem L_mback (HI : hI (hyM s) N) (HS : hSq (hyM s) N) (hN : s.H 6 = nI N) (h7 : N ≤ 7) {r : Nat} (hr : r < N) (hE : ¬ (hyM s).E r = -1) (hG : ¬ hGs (hyM s) N r = -1) : ∀ k j (v : Value), j + k = N → Rr 183 14 [.ref 86, .int (nI r), .int (b2 (∃ q, q < j ∧ (hJm s q ∧ hAh (hyM s) q r ∧ hGs (hyM s) N r < hLs (hyM s) N q))), .int (nI j), v] [] (HM L g s f) = some (some (b2 (∃ q, q < N ∧ (hJm s q ∧ hAh (hyM s) q r ∧ hGs (hyM s) N r < hLs (hyM s) N q))), HM L g s f)
  | 0, j, v, h => by
    have : j = N := by omega
    subst this
    rw [e183_14]
    simp only [e183_0, e183_1, e183_2, e183_5, e183_8, e183_9, e183_10, e183_11, e183_12, e183_13, e183_15, e183_16, e183_19, e183_21, e183_22, e183_25, e183_26, e183_27, e183_33, e183_34, e183_35, e183_38, e183_41, e183_42, e183_43, e183_44, e183_45, e183_48, e183_51, e183_52, e183_55, e183_56, e183_58, e183_59, e183_62, e183_64, e183_67, e183_68, e183_69, e183_70, e183_73, e183_74, e183_75, e183_76, e183_79, e183_82, e183_83, e183_86, e183_87, e183_88, e183_91, e183_94, e183_95, en_123, en_126, en_174, en_176, i_86, f_86_0, a_87, n_87, in_H, rM_H, hN, not_false_eq_true, lvH_Hq, Option.bind_some, psh_i, psh_n, Hq_G, Hq_setG, upf_same, upf_upf, Nat.reduceLT, Nat.reduceLeDiff, Nat.reduceAdd, Nat.reduceMul, Int32.le_refl, if_true, b2_01]
  | k + 1, j, v, h => by
    have hj : j < N := by omega
    have h1 : ¬ nI N ≤ nI j := nI_ge (by omega) (by omega)
    have ih := fun w => L_mback HI HS hN h7 hr hE hG k (j + 1) w (by omega)
    generalize b2 (∃ q, q < N ∧ (hJm s q ∧ hAh (hyM s) q r ∧ hGs (hyM s) N r < hLs (hyM s) N q)) = T at ih ⊢
    have es := ex_succ (P := fun q => hJm s q ∧ hAh (hyM s) q r ∧ hGs (hyM s) N r < hLs (hyM s) N q) (j := j)
    have hcmp := ph_cmp (h := hyM s) (n := N) (r := r) (q := j) h7 hG
    have yes : (∃ q, q < j + 1 ∧ (hJm s q ∧ hAh (hyM s) q r ∧ hGs (hyM s) N r < hLs (hyM s) N q)) → ∀ w, Rr 183 82 [.ref 86, .int (nI r), .int (b2 (∃ q, q < j ∧ (hJm s q ∧ hAh (hyM s) q r ∧ hGs (hyM s) N r < hLs (hyM s) N q))), .int (nI j), w] [] (HM L g s f) = some (some T, HM L g s f) := by
      intro c w
      have e : b2 (∃ q, q < j + 1 ∧ (hJm s q ∧ hAh (hyM s) q r ∧ hGs (hyM s) N r < hLs (hyM s) N q)) = nI 1 := if_pos c
      rw [e] at ih
      simp only [e183_82, e183_83, e183_87, e183_88, e183_91, nI_add]
      exact ih _
    have no : ¬ (∃ q, q < j + 1 ∧ (hJm s q ∧ hAh (hyM s) q r ∧ hGs (hyM s) N r < hLs (hyM s) N q)) → ∀ w, Rr 183 86 [.ref 86, .int (nI r), .int (b2 (∃ q, q < j ∧ (hJm s q ∧ hAh (hyM s) q r ∧ hGs (hyM s) N r < hLs (hyM s) N q))), .int (nI j), w] [] (HM L g s f) = some (some T, HM L g s f) := by
      intro c w
      have e : b2 (∃ q, q < j + 1 ∧ (hJm s q ∧ hAh (hyM s) q r ∧ hGs (hyM s) N r < hLs (hyM s) N q)) = nI 0 := if_neg c
      rw [e] at ih
      simp only [e183_86, e183_87, e183_88, e183_91, nI_add]
      exact ih _
    -- behind 'is'
    have pass : ∀ q : Prop, ∀ [Decidable q], (hJm s j ∧ ¬ hGs (hyM s) N j = -1 ∧ hAh (hyM s) j r ↔ q) → Rr 183 56 [.ref 86, .int (nI r), .int (b2 (∃ q, q < j ∧ (hJm s q ∧ hAh (hyM s) q r ∧ hGs (hyM s) N r < hLs (hyM s) N q))), .int (nI j), v] [.int (b2 q)] (HM L g s f) = some (some T, HM L g s f) := by
      intro q _ hq
      simp only [e183_56, e183_58, e183_59, b2_0, Classical.not_not]
      by_cases c1 : ∃ q, q < j ∧ (hJm s q ∧ hAh (hyM s) q r ∧ hGs (hyM s) N r < hLs (hyM s) N q)
      · rw [if_pos c1]
        exact yes (es.mpr (Or.inl c1)) _
      · rw [if_neg c1]
        simp only [e183_62, e183_64, b2_0, ite_not]
        by_cases c2 : q
        · rw [if_pos c2]
          have hq2 := hq.mpr c2
          have t1 : nI 1 = b2 True := rfl
          have t0 : nI 0 = b2 False := rfl
          have m1 := M_may (L := L) (g := g) (f := f) HI HS hN h7 hr hE (G := True)
          have m0 := M_may (L := L) (g := g) (f := f) HI HS hN h7 hj hq2.1.2.2 (G := False)
          rw [← t1, if_pos trivial] at m1
          rw [← t0, if_neg id] at m0
          simp only [e183_67, e183_68, e183_69, e183_70, e183_73, e183_74, e183_75, e183_76, e183_79, en_176, i_86, m1, m0, lvH_Hq, Option.bind_some, psh_i, psh_n, Hq_G, Hq_setG, upf_same, upf_upf, le32, ite_not]
          by_cases c3 : ph (hyM s) (hGs (hyM s) N r) < ph (hyM s) (hLs (hyM s) N j)
          · rw [if_pos c3]
            exact yes (es.mpr (Or.inr ⟨hq2.1, hq2.2.2, hcmp.mp ⟨hq2.2.1, c3⟩⟩)) _
          · rw [if_neg c3]
            exact no (fun z => (es.mp z).elim c1 (fun z => c3 (hcmp.mpr z.2.2).2)) _
        · rw [if_neg c2]
          exact no (fun z => (es.mp z).elim c1 (fun z => c2 (hq.mp ⟨z.1, (hcmp.mpr z.2.2).1, z.2.1⟩))) _
    have passN : ¬ (hJm s j ∧ ¬ hGs (hyM s) N j = -1 ∧ hAh (hyM s) j r) → Rr 183 55 [.ref 86, .int (nI r), .int (b2 (∃ q, q < j ∧ (hJm s q ∧ hAh (hyM s) q r ∧ hGs (hyM s) N r < hLs (hyM s) N q))), .int (nI j), v] [] (HM L g s f) = some (some T, HM L g s f) := by
      intro z
      simp only [e183_55]
      exact pass False (iff_false_intro z)
    rw [e183_14]
    simp only [e183_15, e183_16, e183_19, e183_21, e183_22, e183_25, e183_26, e183_27, e183_30, en_126, i_86, f_86_0, a_87, n_87, in_H, rM_H, hN, h1, if_false, M_isJudged HI h7 hj, not_false_eq_true, lvH_Hq, Option.bind_some, psh_i, psh_n, Hq_G, Hq_setG, upf_same, upf_upf, Nat.reduceLT, Nat.reduceLeDiff, Nat.reduceAdd, Nat.reduceMul, b2_0, ite_not]
    by_cases d1 : hJm s j
    · rw [if_pos d1]
      simp only [e183_33, e183_34, e183_35, e183_38, en_174, i_86, M_isRegular HI hN h7 hj d1.2.2, lvH_Hq, Option.bind_some, psh_i, psh_n, Hq_G, Hq_setG, upf_same, upf_upf, b2_0, Classical.not_not]
      by_cases d2 : hGs (hyM s) N j = -1
      · rw [if_pos d2]
        exact passN (fun z => z.2.1 d2)
      · rw [if_neg d2]
        simp only [e183_41, e183_42, e183_43, e183_44, e183_45, e183_48, en_123, i_86, M_isAhead HI h7 hj hr, lvH_Hq, Option.bind_some, psh_i, psh_n, Hq_G, Hq_setG, upf_same, upf_upf, b2_0, ite_not]
        by_cases d3 : hAh (hyM s) j r
        · rw [if_pos d3]
          simp only [e183_51, e183_52]
          exact pass True (iff_true_intro ⟨d1, d2, d3⟩)
        · rw [if_neg d3]
          exact passN (fun z => d3 z.2.2)
    · rw [if_neg d1]
      exact passN (fun z => d1 z.1)
theorem M_goesBack (HI : hI (hyM s) N) (HS : hSq (hyM s) N) (hN : s.H 6 = nI N) (h7 : N ≤ 7) {r : Nat} (hr : r < N) (hE : ¬ (hyM s).E r = -1) : Den 183 [.ref 86, .int (nI r)] (HM L g s f) = some (some (b2 (hGbM s N r)), HM L g s f) := by
  rw [D0_183, r_b2, if_an, ite_not]
  simp only [e183_0, e183_1, e183_2, e183_5, en_174, i_86, M_isRegular HI hN h7 hr hE, lvH_Hq, Option.bind_some, psh_i, psh_n, Hq_G, Hq_setG, upf_same, upf_upf, b2_0, Classical.not_not, ite_not]
  by_cases c : hGs (hyM s) N r = -1
  · rw [if_pos c, if_pos c]
    simp only [e183_8, e183_9, zero_01]
  · rw [if_neg c, if_neg c]
    have h0 := L_mback (L := L) (g := g) (f := f) HI HS hN h7 hr hE c N 0 (.retAddr 0) (by omega)
    have e : ∀ n : Nat, n = 0 → b2 (∃ q, q < n ∧ (hJm s q ∧ hAh (hyM s) q r ∧ hGs (hyM s) N r < hLs (hyM s) N q)) = nI 0 := fun n hn => if_neg (fun ⟨w, hw, _⟩ => by omega)
    have e := e 0 rfl
    rw [e, r_b2] at h0
    simp only [e183_10, e183_11, e183_12, e183_13]
    exact h0
theorem L_mfirst (HI : hI (hyM s) N) (HS : ¬ s.H 0 = nI 5 → hSq (hyM s) N) (hN : s.H 6 = nI N) (h7 : N ≤ 7) {w : Nat} (hw : w < 3) : ∀ k j, j + k = N → Rr 189 2 [.ref 86, .int (nI w), .int (nI j)] [] (HM L g s f) = some (some (fstF (fun r => hJm s r ∧ (if w = 0 then ¬ hSf (hyM s) N r else if w = 1 then hGs (hyM s) N r = -1 else hGbM s N r)) j k), HM L g s f)
  | 0, j, h => by
    have : j = N := by omega
    subst this
    rw [e189_2]
    simp only [e189_0, e189_1, e189_3, e189_4, e189_7, e189_9, e189_10, e189_13, e189_14, e189_15, e189_21, e189_22, e189_25, e189_26, e189_27, e189_30, e189_33, e189_36, e189_37, e189_38, e189_41, e189_42, e189_43, e189_46, e189_49, e189_52, e189_53, e189_54, e189_57, e189_60, e189_61, e189_62, e189_65, e189_68, e189_69, en_126, en_174, en_175, en_183, i_86, f_86_0, a_87, n_87, in_H, rM_H, hN, not_false_eq_true, lvH_Hq, Option.bind_some, psh_i, psh_n, Hq_G, Hq_setG, upf_same, upf_upf, Nat.reduceLT, Nat.reduceLeDiff, Nat.reduceAdd, Nat.reduceMul, Int32.le_refl, if_true]
    rfl
  | k + 1, j, h => by
    have hj : j < N := by omega
    have h1 : ¬ nI N ≤ nI j := nI_ge (by omega) (by omega)
    have ih := L_mfirst HI HS hN h7 hw k (j + 1) (by omega)
    rw [fstF]
    generalize fstF (fun r => hJm s r ∧ (if w = 0 then ¬ hSf (hyM s) N r else if w = 1 then hGs (hyM s) N r = -1 else hGbM s N r)) (j + 1) k = T at ih ⊢
    have no : Rr 189 62 [.ref 86, .int (nI w), .int (nI j)] [] (HM L g s f) = some (some T, HM L g s f) := by
      simp only [e189_62, e189_65, nI_add]
      exact ih
    rw [e189_2]
    simp only [e189_3, e189_4, e189_7, e189_9, e189_10, e189_13, e189_14, e189_15, e189_18, en_126, i_86, f_86_0, a_87, n_87, in_H, rM_H, hN, h1, if_false, M_isJudged HI h7 hj, not_false_eq_true, lvH_Hq, Option.bind_some, psh_i, psh_n, Hq_G, Hq_setG, upf_same, upf_upf, Nat.reduceLT, Nat.reduceLeDiff, Nat.reduceAdd, Nat.reduceMul, b2_0, ite_not]
    by_cases d1 : hJm s j
    · rw [if_pos d1]
      have w01 : (nI 1 = 0) = False := by decide
      have w02 : (nI 2 = 0) = False := by decide
      have w21 : (nI 2 = nI 1) = False := by decide
      match w, hw with
      | 0, _ =>
        simp only [e189_21, e189_22, K00, if_true, not_true_eq_false, if_false, e189_25, e189_26, e189_27, e189_30, en_175, i_86, M_isSafe HI hN h7 hj d1.2.2, lvH_Hq, Option.bind_some, psh_i, psh_n, Hq_G, Hq_setG, upf_same, upf_upf, b2_0, Classical.not_not, ite_not]
        by_cases d2 : hSf (hyM s) N j
        · rw [if_pos d2, if_neg (fun z => z.2 d2)]
          exact no
        · rw [if_neg d2, if_pos ⟨d1, d2⟩]
          simp only [e189_33, e189_60, e189_61]
      | 1, _ =>
        simp only [e189_21, e189_22, w01, not_false_eq_true, if_true, e189_36, e189_37, e189_38, not_true_eq_false, if_false, e189_41, e189_42, e189_43, e189_46, en_174, i_86, M_isRegular HI hN h7 hj d1.2.2, lvH_Hq, Option.bind_some, psh_i, psh_n, Hq_G, Hq_setG, upf_same, upf_upf, b2_0, Classical.not_not, Nat.one_ne_zero]
        by_cases d2 : hGs (hyM s) N j = -1
        · rw [if_neg (fun z => z d2), if_pos ⟨d1, d2⟩]
          simp only [e189_49, e189_60, e189_61]
        · rw [if_pos d2, if_neg (fun z => d2 z.2)]
          exact no
      | 2, _ =>
        have HS' := HS (by rw [← wrs_5]; exact d1.1)
        simp only [e189_21, e189_22, w02, not_false_eq_true, if_true, e189_36, e189_37, e189_38, w21, e189_52, e189_53, e189_54, e189_57, en_183, i_86, M_goesBack HI HS' hN h7 hj d1.2.2, lvH_Hq, Option.bind_some, psh_i, psh_n, Hq_G, Hq_setG, upf_same, upf_upf, b2_0, ite_not, show ¬ 2 = 0 by decide, show ¬ 2 = 1 by decide, if_false]
        by_cases d2 : hGbM s N j
        · rw [if_pos d2, if_pos ⟨d1, d2⟩]
          simp only [e189_60, e189_61]
        · rw [if_neg d2, if_neg (fun z => d2 z.2)]
          exact no
    · rw [if_neg d1, if_neg (fun z => d1 z.1)]
      exact no
theorem M_firstRead (HI : hI (hyM s) N) (HS : ¬ s.H 0 = nI 5 → hSq (hyM s) N) (hN : s.H 6 = nI N) (h7 : N ≤ 7) {w : Nat} (hw : w < 3) : Den 189 [.ref 86, .int (nI w)] (HM L g s f) = some (some (fstF (fun r => hJm s r ∧ (if w = 0 then ¬ hSf (hyM s) N r else if w = 1 then hGs (hyM s) N r = -1 else hGbM s N r)) 0 N), HM L g s f) := by
  rw [D0_189]
  simp only [e189_0, e189_1]
  exact L_mfirst HI HS hN h7 hw N 0 (by omega)
end MM
