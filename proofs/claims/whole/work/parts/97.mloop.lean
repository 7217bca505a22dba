/-! THE MODEL: its walk -/
section RR
variable {L : Nat} {g g0 : Nat → Nat → Int32} {m m0 z : Sx} {b po bs r n t N : Nat} {f F : Nat → Int32} {X : WX} {rows R0 : Nat → Sx}
theorem u9392 {G : Nat → Int32} : upf g 93 G 92 = g 92 := rfl
theorem u9293 {G : Nat → Int32} : upf g 92 G 93 = g 93 := rfl
theorem turn_push (W : WI b po bs r n N X) (hx : ¬ wEx X) (hm : WM m0 R0 g0 z g X) {d p j : Nat} (hd : wDp X = d + 1) (hl : ¬ lst (wRw X d) = 5) (hf : fnS (wRw X d) (wN b + n - wNp X d) (wNp X d) (wNc X d) = some (p, j)) {tb v4 v5 : Value} : ∃ g' z' w4 w5, Rr 191 43 [.ref 86, .int (nI 500), tb, .int (nI (wDp X) - 1), v4, v5] [] (HP L g) = Rr 191 43 [.ref 86, .int (nI 500), tb, .int (nI (d + 1)), w4, w5] [] (HP L g') ∧ WM m0 R0 g0 z' g' (wStep (wN b + n) N X) ∧ wDp (wStep (wN b + n) N X) = d + 2 := by
  have W0 := W
  obtain ⟨⟨rows, r1, r2, r3, r4, r5⟩, ⟨h11, h12, h13, h14, h15⟩, h16, h17⟩ := hm
  have t1 := turn_1 (L := L) (tb := tb) (v4 := v4) (v5 := v5) W hx hd r1 (r5 d (by omega)) h11
  rw [if_neg hl] at t1
  obtain ⟨w1, w2, w3, w4, w5, w6, w7, w8⟩ := W
  obtain ⟨⟨t, I, R⟩, he40, hnp, hnc⟩ := w2 d (by omega)
  obtain ⟨g1, q1, ⟨q2, q3⟩, q4, q5⟩ := (L_fnd (L := L) (f := lyR rows) I R (show d < 64 by omega) (wN b + n - wNp X d) (wNp X d) (wNc X d) g (by omega) hnc (h16 d (by omega)).1 (h16 d (by omega)).2).2 p j hf
  have h5 := np_le I.1.1
  obtain ⟨f1, f2, f3⟩ := fnS_some _ _ _ hf
  have p5 : p < 5 := by omega
  obtain ⟨kk, k7, ek, eix, hpos⟩ := chs_ix I R p5
  rw [eix] at f3
  have hu := hpos.mp (by omega)
  obtain ⟨s1, s2, s3, s4⟩ := st_ok I R p5 hu ek k7 f3
  have eX : wStep (wN b + n) N X = wPsh X d (mStp (wRw X d) p (wN b + n) (nI j)) p j := by
    unfold wStep
    rw [show wDp X - 1 = d by omega, if_neg hl, hf]
    rfl
  have hF : Den 156 [.ref 86, .int (nI d)] (HM L g (wRw X d) (lyR rows)) = some (some (nI 1), HM L g1 (wRw X d) (lyR rows)) := by
    rw [D0_156]
    exact q1
  have a1 : (nI d).toNatClampNeg = d := nI_clamp (by omega)
  have a2 : ¬ (nI d < 0 ∨ 64 ≤ d) := fun z => z.elim (nI_pos (by omega)) (by omega)
  have a3 : (nI (d + 1)).toNatClampNeg = d + 1 := nI_clamp (by omega)
  have a4 : ¬ (nI (d + 1) < 0 ∨ 64 ≤ d + 1) := fun z => z.elim (nI_pos (by omega)) (by omega)
  have cm := fun g => M_copyM (L := L) (g := g) (m := mStp (wRw X d) p (wN b + n) (nI j)) (rows := rows) (b := 19 + (d + 1)) (by omega) (by omega)
  refine ⟨upf (upf (upf (upf g1 93 (upd (g1 93) d (nI (j + 1)))) 92 (upd (g1 92) (d + 1) (nI 0))) 93 (upd (upd (g1 93) d (nI (j + 1))) (d + 1) (nI 0))) 87 (lyR (upf (upf rows 0 (mStp (wRw X d) p (wN b + n) (nI j))) (19 + (d + 1)) (mStp (wRw X d) p (wN b + n) (nI j)))), mStp (wRw X d) p (wN b + n) (nI j), .int (nI p), .int (nI j), ?_, ⟨⟨_, rfl, ?_, fun i h1 h2 => ?_, ?_, fun e he => ?_⟩, ⟨?_, ?_, ?_, ?_, fun k hk => ?_⟩, fun e he => ?_, fun i h1 h2 h3 h4 h5 => ?_⟩, ?_⟩
  · rw [t1, e191_96]
    simp only [e191_0, e191_1, e191_2, e191_5, e191_6, e191_7, e191_10, e191_11, e191_12, e191_15, e191_16, e191_17, e191_20, e191_21, e191_22, e191_23, e191_24, e191_26, e191_29, e191_30, e191_33, e191_34, e191_35, e191_36, e191_37, e191_40, e191_41, e191_42, e191_44, e191_47, e191_48, e191_51, e191_52, e191_55, e191_56, e191_58, e191_59, e191_60, e191_61, e191_64, e191_65, e191_68, e191_71, e191_72, e191_73, e191_76, e191_77, e191_80, e191_81, e191_84, e191_85, e191_88, e191_89, e191_90, e191_93, e191_97, e191_98, e191_101, e191_104, e191_105, e191_108, e191_109, e191_110, e191_112, e191_113, e191_116, e191_117, e191_118, e191_120, e191_121, e191_124, e191_125, e191_126, e191_127, e191_128, e191_129, e191_130, e191_131, e191_133, e191_135, e191_138, e191_141, e191_142, e191_143, e191_145, e191_146, e191_147, e191_150, e191_151, e191_154, e191_155, e191_156, e191_157, e191_158, e191_161, e191_162, e191_163, e191_164, e191_167, e191_170, e191_173, e191_174, e191_176, e191_177, e191_180, e191_181, en_8, en_124, en_156, en_171, en_184, i_86, f_86_9, f_86_10, a_92, b_92, n_92, a_93, b_93, n_93, hF, one_n0, if_false, s92, s93, w92, w93, u9392, u9293, a1, a2, a3, a4, q4, q5, not_false_eq_true, nI_add, M_stepNow p5 s3, cm, upf_same, upf_upf, lvH_Hq, Option.bind_some, psh_i, psh_n]
  · rw [upf_ne (by omega), upf_same]
  · rw [upf_ne (by omega), upf_ne (by omega)]
    exact r3 i h1 h2
  · rw [upf_ne (by omega), upf_ne (by omega)]
    exact r4
  · rw [eX] at he ⊢
    have he : e < d + 2 := he
    show _ = upf (wRw X) (d + 1) _ e
    by_cases c : e = d + 1
    · subst c
      rw [upf_same, upf_same]
    · rw [upf_ne c, upf_ne (by omega), upf_ne (by omega)]
      exact r5 e (by omega)
  · rw [eX]
    show g1 86 11 = _
    rw [q2 86 (by decide) (by decide)]
    exact h11
  · rw [eX]
    show g1 86 12 = _
    rw [q2 86 (by decide) (by decide)]
    exact h12
  · rw [eX]
    show g1 86 13 = _
    rw [q2 86 (by decide) (by decide)]
    exact h13
  · rw [eX]
    show g1 86 14 = _
    rw [q2 86 (by decide) (by decide)]
    exact h14
  · show g1 86 k = _
    rw [q2 86 (by decide) (by decide)]
    exact h15 k hk
  · rw [eX] at he ⊢
    have he : e < d + 2 := he
    show upd (g1 92) (d + 1) (nI 0) e = nI (upf (upf (wNp X) d p) (d + 1) 0 e) ∧ upd (upd (g1 93) d (nI (j + 1))) (d + 1) (nI 0) e = nI (upf (upf (wNc X) d (j + 1)) (d + 1) 0 e)
    by_cases c : e = d + 1
    · subst c
      rw [upf_same, upf_same]
      exact ⟨if_pos rfl, if_pos rfl⟩
    · rw [upf_ne c, upf_ne c]
      unfold upd
      rw [if_neg c, if_neg c]
      by_cases c2 : e = d
      · subst c2
        rw [upf_same, upf_same, if_pos rfl]
        exact ⟨q4, rfl⟩
      · rw [upf_ne c2, upf_ne c2, if_neg c2, (q3 e c2).1, (q3 e c2).2]
        exact h16 e (by omega)
  · rw [upf_ne h2, upf_ne h5, upf_ne h4, upf_ne h5, q2 i h4 h5]
    exact h17 i h1 h2 h3 h4 h5
  · rw [eX]
    rfl
/-- what the walk leaves once it is through: row 0 is z, the rest as it was -/
theorem wFin_bad : ∀ k X, 1 ≤ wBd X → wFd (wFin (wN b + n) N k X) = wFd X ∧ wFs (wFin (wN b + n) N k X) = wFs X ∧ 1 ≤ wBd (wFin (wN b + n) N k X)
  | 0, X, h => ⟨rfl, rfl, h⟩
  | k + 1, X, h => by
    unfold wFin
    by_cases c : wEx X
    · rw [if_pos c]
      exact ⟨rfl, rfl, h⟩
    · rw [if_neg c]
      have key : wFd (wStep (wN b + n) N X) = wFd X ∧ wFs (wStep (wN b + n) N X) = wFs X ∧ 1 ≤ wBd (wStep (wN b + n) N X) := by
        unfold wStep
        split
        · generalize wOk _ N = ok
          show (if ok = true then wFd X else if wBd X = 0 then _ else wFd X) = wFd X ∧ (if ok = true then wFs X else if wBd X = 0 then _ else wFs X) = wFs X ∧ 1 ≤ (if ok = true then wBd X else wBd X + 1)
          rw [if_neg (show ¬ wBd X = 0 by omega), if_neg (show ¬ wBd X = 0 by omega)]
          refine ⟨by split <;> rfl, by split <;> rfl, by split <;> omega⟩
        · cases fnS (wRw X (wDp X - 1)) (wN b + n - wNp X (wDp X - 1)) (wNp X (wDp X - 1)) (wNc X (wDp X - 1)) with
          | none => exact ⟨rfl, rfl, h⟩
          | some q => exact ⟨rfl, rfl, h⟩
      obtain ⟨h1, h2, h3⟩ := wFin_bad k (wStep (wN b + n) N X) key.2.2
      exact ⟨h1.trans key.1, h2.trans key.2.1, h3⟩
theorem thr_end (hm : WM m0 R0 g0 z g X) {x tb v3 v4 v5 : Value} : ∃ g', Rr 191 173 [.ref 86, x, tb, v3, v4, v5] [] (HP L g) = some (some (-1), HP L g') ∧ WM m0 R0 g0 m0 g' X := by
  obtain ⟨⟨rows, r1, r2, r3, r4, r5⟩, h⟩ := hm
  have hc := M_copy0 (L := L) (show 19 < 80 by omega) r1
  rw [r4] at hc
  refine ⟨upf g 87 (layM m0 (lyR rows)), ?_, ⟨upf rows 0 m0, ?_, rfl, fun i h1 h2 => ?_, ?_, fun e he => ?_⟩, h.1, h.2.1, fun i h1 h2 h3 h4 h5 => ?_⟩
  · rw [e191_173]
    simp only [e191_0, e191_1, e191_2, e191_5, e191_6, e191_7, e191_10, e191_11, e191_12, e191_15, e191_16, e191_17, e191_20, e191_21, e191_22, e191_23, e191_24, e191_26, e191_29, e191_30, e191_33, e191_34, e191_35, e191_36, e191_37, e191_40, e191_41, e191_42, e191_44, e191_47, e191_48, e191_51, e191_52, e191_55, e191_56, e191_58, e191_59, e191_60, e191_61, e191_64, e191_65, e191_68, e191_72, e191_73, e191_76, e191_77, e191_80, e191_81, e191_84, e191_85, e191_88, e191_89, e191_90, e191_93, e191_97, e191_98, e191_101, e191_104, e191_105, e191_108, e191_109, e191_110, e191_112, e191_113, e191_116, e191_117, e191_118, e191_120, e191_121, e191_124, e191_125, e191_126, e191_127, e191_128, e191_129, e191_130, e191_131, e191_133, e191_135, e191_138, e191_141, e191_142, e191_143, e191_145, e191_146, e191_147, e191_150, e191_151, e191_154, e191_155, e191_156, e191_157, e191_158, e191_161, e191_162, e191_163, e191_164, e191_167, e191_170, e191_174, e191_176, e191_177, e191_180, e191_181, en_8, en_124, en_156, en_171, en_184, i_86, hc, lvH_Hq, Option.bind_some, psh_n]
  · show layM m0 (lyR rows) = _
    exact lyR_up
  · rw [upf_ne (by omega)]
    exact r3 i h1 h2
  · rw [upf_ne (by omega)]
    exact r4
  · rw [upf_ne (by omega)]
    exact r5 e he
  · rw [upf_ne h2]
    exact h.2.2 i h1 h2 h3 h4 h5
theorem thr_ex (W : WI b po bs r n N X) (hx : wEx X) (h11 : g 86 11 = nI (wCt X)) {tb v4 v5 : Value} : Rr 191 43 [.ref 86, .int (nI 500), tb, .int (nI (wDp X) - 1), v4, v5] [] (HP L g) = Rr 191 173 [.ref 86, .int (nI 500), tb, .int (nI (wDp X) - 1), v4, v5] [] (HP L g) := by
  by_cases c : wDp X = 0
  · have a1 : nI 0 - 1 < 0 := by decide
    rw [c, e191_43]
    simp only [e191_0, e191_1, e191_2, e191_5, e191_6, e191_7, e191_10, e191_11, e191_12, e191_15, e191_16, e191_17, e191_20, e191_21, e191_22, e191_23, e191_24, e191_26, e191_29, e191_30, e191_33, e191_34, e191_35, e191_36, e191_37, e191_40, e191_41, e191_42, e191_44, e191_47, e191_48, e191_51, e191_52, e191_55, e191_56, e191_58, e191_59, e191_60, e191_61, e191_64, e191_65, e191_68, e191_71, e191_72, e191_73, e191_76, e191_77, e191_80, e191_81, e191_84, e191_85, e191_88, e191_89, e191_90, e191_93, e191_96, e191_97, e191_98, e191_101, e191_104, e191_105, e191_108, e191_109, e191_110, e191_112, e191_113, e191_116, e191_117, e191_118, e191_120, e191_121, e191_124, e191_125, e191_126, e191_127, e191_128, e191_129, e191_130, e191_131, e191_133, e191_135, e191_138, e191_141, e191_142, e191_143, e191_145, e191_146, e191_147, e191_150, e191_151, e191_154, e191_155, e191_156, e191_157, e191_158, e191_161, e191_162, e191_163, e191_164, e191_167, e191_170, e191_174, e191_176, e191_177, e191_180, e191_181, en_8, en_124, en_156, en_171, en_184, a1, if_true]
  · have a2 : nI 500 ≤ nI (wCt X) := (nI_leI (by omega) (by have := W.2.2.2.2.1; omega)).mpr (hx.resolve_left c)
    obtain ⟨d, hd⟩ : ∃ d, wDp X = d + 1 := ⟨wDp X - 1, by omega⟩
    have a4 : nI (d + 1) - 1 = nI d := nI_pred d
    have a1 : ¬ nI d < 0 := nI_pos (by have := W.1; omega)
    rw [hd, a4, e191_43]
    simp only [e191_0, e191_1, e191_2, e191_5, e191_6, e191_7, e191_10, e191_11, e191_12, e191_15, e191_16, e191_17, e191_20, e191_21, e191_22, e191_23, e191_24, e191_26, e191_29, e191_30, e191_33, e191_34, e191_35, e191_36, e191_37, e191_40, e191_41, e191_42, e191_44, e191_47, e191_48, e191_51, e191_52, e191_55, e191_56, e191_58, e191_59, e191_60, e191_61, e191_64, e191_65, e191_68, e191_71, e191_72, e191_73, e191_76, e191_77, e191_80, e191_81, e191_84, e191_85, e191_88, e191_89, e191_90, e191_93, e191_96, e191_97, e191_98, e191_101, e191_104, e191_105, e191_108, e191_109, e191_110, e191_112, e191_113, e191_116, e191_117, e191_118, e191_120, e191_121, e191_124, e191_125, e191_126, e191_127, e191_128, e191_129, e191_130, e191_131, e191_133, e191_135, e191_138, e191_141, e191_142, e191_143, e191_145, e191_146, e191_147, e191_150, e191_151, e191_154, e191_155, e191_156, e191_157, e191_158, e191_161, e191_162, e191_163, e191_164, e191_167, e191_170, e191_174, e191_176, e191_177, e191_180, e191_181, en_8, en_124, en_156, en_171, en_184, i_86, h11, a1, a2, if_true, if_false, Hq_G]
theorem thr_0 : ∀ k X z g v4 v5, WI b po bs r n N X → WM m0 R0 g0 z g X → 41000 ≤ wPsi X + k → ∃ g', Rr 191 43 [.ref 86, .int (nI 500), .int (nI 0), .int (nI (wDp X) - 1), v4, v5] [] (HP L g) = some (some (-1), HP L g') ∧ WM m0 R0 g0 m0 g' (wFin (wN b + n) N k X)
  | 0, X, z, g, v4, v5, W, hm, hk => by
    have hx := wEx_psi W (by omega)
    rw [thr_ex W hx hm.2.1.1]
    exact thr_end hm
  | k + 1, X, z, g, v4, v5, W, hm, hk => by
    unfold wFin
    by_cases c : wEx X
    · rw [if_pos c, thr_ex W c hm.2.1.1]
      exact thr_end hm
    · rw [if_neg c]
      obtain ⟨W2, hpsi⟩ := WI_step W c
      obtain ⟨d, hd⟩ := wd1 c
      by_cases hl : lst (wRw X d) = 5
      · obtain ⟨g1, e1, hm1⟩ := turn_leaf (L := L) (tb := .int (nI 0)) (v4 := v4) (v5 := v5) W c hm hd hl
        obtain ⟨g2, e2, hm2⟩ := thr_0 k _ _ g1 v4 v5 W2 hm1 (by omega)
        have eD : wDp (wStep (wN b + n) N X) = d := by
          unfold wStep
          rw [show wDp X - 1 = d by omega, if_pos hl]
          rfl
        have ep : nI d + (Int32.ofInt (-1)) = nI d - 1 := by
          rw [Int32.sub_eq_add_neg]
          rfl
        refine ⟨g2, ?_, hm2⟩
        rw [e1, ← e2, eD, e191_76]
        simp only [e191_0, e191_1, e191_2, e191_5, e191_6, e191_7, e191_10, e191_11, e191_12, e191_15, e191_16, e191_17, e191_20, e191_21, e191_22, e191_23, e191_24, e191_26, e191_29, e191_30, e191_33, e191_34, e191_35, e191_36, e191_37, e191_40, e191_41, e191_42, e191_44, e191_47, e191_48, e191_51, e191_52, e191_55, e191_56, e191_58, e191_59, e191_60, e191_61, e191_64, e191_65, e191_68, e191_71, e191_72, e191_73, e191_77, e191_80, e191_81, e191_84, e191_85, e191_88, e191_89, e191_90, e191_93, e191_96, e191_97, e191_98, e191_101, e191_104, e191_105, e191_108, e191_109, e191_110, e191_112, e191_113, e191_116, e191_117, e191_118, e191_120, e191_121, e191_124, e191_125, e191_126, e191_127, e191_128, e191_129, e191_130, e191_131, e191_133, e191_135, e191_138, e191_141, e191_142, e191_143, e191_145, e191_146, e191_147, e191_150, e191_151, e191_154, e191_155, e191_156, e191_157, e191_158, e191_161, e191_162, e191_163, e191_164, e191_167, e191_170, e191_173, e191_174, e191_176, e191_177, e191_180, e191_181, en_8, en_124, en_156, en_171, en_184, zz, if_true, ep]
      · cases hf : fnS (wRw X d) (wN b + n - wNp X d) (wNp X d) (wNc X d) with
        | none =>
          obtain ⟨g1, e1, hm1⟩ := turn_pop (L := L) (tb := .int (nI 0)) (v4 := v4) (v5 := v5) W c hm hd hl hf
          obtain ⟨g2, e2, hm2⟩ := thr_0 k _ _ g1 v4 v5 W2 hm1 (by omega)
          have eD : wDp (wStep (wN b + n) N X) = d := by
            unfold wStep
            rw [show wDp X - 1 = d by omega, if_neg hl, hf]
            rfl
          refine ⟨g2, ?_, hm2⟩
          rw [e1, ← e2, eD]
        | some q =>
          obtain ⟨q1, q2⟩ := q
          obtain ⟨g1, z1, y4, y5, e1, hm1, eD⟩ := turn_push (L := L) (tb := .int (nI 0)) (v4 := v4) (v5 := v5) W c hm hd hl hf
          obtain ⟨g2, e2, hm2⟩ := thr_0 k _ _ g1 y4 y5 W2 hm1 (by omega)
          refine ⟨g2, ?_, hm2⟩
          have ep : nI (d + 2) - 1 = nI (d + 1) := nI_pred (d + 1)
          rw [e1, ← e2, eD, ep]
/-- till the first bad one -/
theorem thr_1 : ∀ k X z g v4 v5, WI b po bs r n N X → WM m0 R0 g0 z g X → 41000 ≤ wPsi X + k → wBd X = 0 →
    (wBd (wFin (wN b + n) N k X) = 0 → ∃ g' X', Rr 191 43 [.ref 86, .int (nI 500), .int (nI 1), .int (nI (wDp X) - 1), v4, v5] [] (HP L g) = some (some (-1), HP L g') ∧ WM m0 R0 g0 m0 g' X') ∧
    (¬ wBd (wFin (wN b + n) N k X) = 0 → ∃ g' X', Rr 191 43 [.ref 86, .int (nI 500), .int (nI 1), .int (nI (wDp X) - 1), v4, v5] [] (HP L g) = some (some (nI (wFd (wFin (wN b + n) N k X))), HP L g') ∧ WM m0 R0 g0 (wFs (wFin (wN b + n) N k X)) g' X')
  | 0, X, z, g, v4, v5, W, hm, hk, hb => by
    have hx := wEx_psi W (by omega)
    refine ⟨fun _ => ?_, fun h => absurd hb h⟩
    rw [thr_ex W hx hm.2.1.1]
    obtain ⟨g', h1, h2⟩ := thr_end (L := L) hm
    exact ⟨g', X, h1, h2⟩
  | k + 1, X, z, g, v4, v5, W, hm, hk, hb => by
    unfold wFin
    by_cases c : wEx X
    · rw [if_pos c, thr_ex W c hm.2.1.1]
      refine ⟨fun _ => ?_, fun h => absurd hb h⟩
      obtain ⟨g', h1, h2⟩ := thr_end (L := L) hm
      exact ⟨g', X, h1, h2⟩
    · rw [if_neg c]
      obtain ⟨W2, hpsi⟩ := WI_step W c
      obtain ⟨d, hd⟩ := wd1 c
      by_cases hl : lst (wRw X d) = 5
      · obtain ⟨g1, e1, hm1⟩ := turn_leaf (L := L) (tb := .int (nI 1)) (v4 := v4) (v5 := v5) W c hm hd hl
        have eX : wStep (wN b + n) N X = wLf X d (wRw X d) (wOk (wRw X d) N) := by
          unfold wStep
          rw [show wDp X - 1 = d by omega, if_pos hl]
        have eD : wDp (wStep (wN b + n) N X) = d := by
          rw [eX]
          rfl
        have ep : nI d + (Int32.ofInt (-1)) = nI d - 1 := by
          rw [Int32.sub_eq_add_neg]
          rfl
        have h12 := hm1.2.1.2.1
        by_cases hok : wOk (wRw X d) N = true
        · have hb2 : wBd (wStep (wN b + n) N X) = 0 := by
            rw [eX]
            show (if wOk (wRw X d) N = true then wBd X else wBd X + 1) = 0
            rw [if_pos hok]
            exact hb
          have hne : ¬ nI 0 = nI 1 := by decide
          have er : Rr 191 43 [.ref 86, .int (nI 500), .int (nI 1), .int (nI (wDp X) - 1), v4, v5] [] (HP L g) = Rr 191 43 [.ref 86, .int (nI 500), .int (nI 1), .int (nI (wDp (wStep (wN b + n) N X)) - 1), v4, v5] [] (HP L g1) := by
            rw [e1, eD, e191_76]
            rw [hb2] at h12
            simp only [e191_0, e191_1, e191_2, e191_5, e191_6, e191_7, e191_10, e191_11, e191_12, e191_15, e191_16, e191_17, e191_20, e191_21, e191_22, e191_23, e191_24, e191_26, e191_29, e191_30, e191_33, e191_34, e191_35, e191_36, e191_37, e191_40, e191_41, e191_42, e191_44, e191_47, e191_48, e191_51, e191_52, e191_55, e191_56, e191_58, e191_59, e191_60, e191_61, e191_64, e191_65, e191_68, e191_71, e191_72, e191_73, e191_77, e191_80, e191_81, e191_84, e191_85, e191_88, e191_89, e191_90, e191_93, e191_96, e191_97, e191_98, e191_101, e191_104, e191_105, e191_108, e191_109, e191_110, e191_112, e191_113, e191_116, e191_117, e191_118, e191_120, e191_121, e191_124, e191_125, e191_126, e191_127, e191_128, e191_129, e191_130, e191_131, e191_133, e191_135, e191_138, e191_141, e191_142, e191_143, e191_145, e191_146, e191_147, e191_150, e191_151, e191_154, e191_155, e191_156, e191_157, e191_158, e191_161, e191_162, e191_163, e191_164, e191_167, e191_170, e191_173, e191_174, e191_176, e191_177, e191_180, e191_181, en_8, en_124, en_156, en_171, en_184, i_86, one_n0, if_false, h12, hne, not_false_eq_true, if_true, ep, Hq_G]
          rw [er]
          exact thr_1 k _ _ g1 v4 v5 W2 hm1 (by omega) hb2
        · have hb2 : wBd (wStep (wN b + n) N X) = 1 := by
            rw [eX]
            show (if wOk (wRw X d) N = true then wBd X else wBd X + 1) = 1
            rw [if_neg hok, hb]
          obtain ⟨y1, y2, y3⟩ := wFin_bad (b := b) (n := n) (N := N) k (wStep (wN b + n) N X) (by omega)
          refine ⟨fun h => by omega, fun _ => ⟨g1, wStep (wN b + n) N X, ?_, ?_⟩⟩
          · have efd : wFd (wStep (wN b + n) N X) = d := by
              rw [eX]
              show (if wOk (wRw X d) N = true then wFd X else if wBd X = 0 then d else wFd X) = d
              rw [if_neg hok, if_pos hb]
            rw [y1, efd, e1, e191_76]
            rw [hb2] at h12
            simp only [e191_0, e191_1, e191_2, e191_5, e191_6, e191_7, e191_10, e191_11, e191_12, e191_15, e191_16, e191_17, e191_20, e191_21, e191_22, e191_23, e191_24, e191_26, e191_29, e191_30, e191_33, e191_34, e191_35, e191_36, e191_37, e191_40, e191_41, e191_42, e191_44, e191_47, e191_48, e191_51, e191_52, e191_55, e191_56, e191_58, e191_59, e191_60, e191_61, e191_64, e191_65, e191_68, e191_71, e191_72, e191_73, e191_77, e191_80, e191_81, e191_84, e191_85, e191_88, e191_89, e191_90, e191_93, e191_96, e191_97, e191_98, e191_101, e191_104, e191_105, e191_108, e191_109, e191_110, e191_112, e191_113, e191_116, e191_117, e191_118, e191_120, e191_121, e191_124, e191_125, e191_126, e191_127, e191_128, e191_129, e191_130, e191_131, e191_133, e191_135, e191_138, e191_141, e191_142, e191_143, e191_145, e191_146, e191_147, e191_150, e191_151, e191_154, e191_155, e191_156, e191_157, e191_158, e191_161, e191_162, e191_163, e191_164, e191_167, e191_170, e191_173, e191_174, e191_176, e191_177, e191_180, e191_181, en_8, en_124, en_156, en_171, en_184, i_86, one_n0, if_false, h12, not_true_eq_false, Hq_G]
          · have efs : wFs (wStep (wN b + n) N X) = wRw X d := by
              rw [eX]
              show (if wOk (wRw X d) N = true then wFs X else if wBd X = 0 then wRw X d else wFs X) = wRw X d
              rw [if_neg hok, if_pos hb]
            rw [y2, efs]
            exact hm1
      · cases hf : fnS (wRw X d) (wN b + n - wNp X d) (wNp X d) (wNc X d) with
        | none =>
          obtain ⟨g1, e1, hm1⟩ := turn_pop (L := L) (tb := .int (nI 1)) (v4 := v4) (v5 := v5) W c hm hd hl hf
          have eX : wStep (wN b + n) N X = wPop X d := by
            unfold wStep
            rw [show wDp X - 1 = d by omega, if_neg hl, hf]
            rfl
          have eD : wDp (wStep (wN b + n) N X) = d := by
            rw [eX]
            rfl
          have hb2 : wBd (wStep (wN b + n) N X) = 0 := by
            rw [eX]
            exact hb
          have ih := thr_1 k _ _ g1 v4 v5 W2 hm1 (by omega) hb2
          rw [eD] at ih
          rw [e1]
          exact ih
        | some q =>
          obtain ⟨q1, q2⟩ := q
          obtain ⟨g1, z1, y4, y5, e1, hm1, eD⟩ := turn_push (L := L) (tb := .int (nI 1)) (v4 := v4) (v5 := v5) W c hm hd hl hf
          have eX : wStep (wN b + n) N X = wPsh X d (mStp (wRw X d) q1 (wN b + n) (nI q2)) q1 q2 := by
            unfold wStep
            rw [show wDp X - 1 = d by omega, if_neg hl, hf]
            rfl
          have hb2 : wBd (wStep (wN b + n) N X) = 0 := by
            rw [eX]
            exact hb
          have ih := thr_1 k _ _ g1 y4 y5 W2 hm1 (by omega) hb2
          have ep : nI (d + 2) - 1 = nI (d + 1) := nI_pred (d + 1)
          rw [eD, ep] at ih
          rw [e1]
          exact ih
end RR
