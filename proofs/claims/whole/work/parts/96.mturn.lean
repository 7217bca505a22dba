/-! THE MODEL: one turn of its walk -/
/-- z: row 0; m0: where the walk began; R0: the rows that stay -/
def WM (m0 : Sx) (R0 : Nat → Sx) (g0 : Nat → Nat → Int32) (z : Sx) (g : Nat → Nat → Int32) (X : WX) : Prop :=
  (∃ rows : Nat → Sx, g 87 = lyR rows ∧ rows 0 = z ∧ (∀ i, 1 ≤ i → i < 19 → rows i = R0 i) ∧ rows 19 = m0 ∧ ∀ e, e < wDp X → rows (19 + e) = wRw X e) ∧
  (g 86 11 = nI (wCt X) ∧ g 86 12 = nI (wBd X) ∧ g 86 13 = wFb X ∧ g 86 14 = nI (wLg X) ∧ ∀ k, k < 11 → g 86 k = g0 86 k) ∧
  (∀ e, e < wDp X → g 92 e = nI (wNp X e) ∧ g 93 e = nI (wNc X e)) ∧ (∀ i, ¬ i = 86 → ¬ i = 87 → ¬ i = 91 → ¬ i = 92 → ¬ i = 93 → g i = g0 i)
section RR
variable {L : Nat} {g g0 : Nat → Nat → Int32} {m m0 z : Sx} {b po bs r n t N : Nat} {f F : Nat → Int32} {X : WX} {rows R0 : Nat → Sx}
theorem s86 : Gt (HP L (upf g 87 F)) 86 = g 86 := gMn (by decide)
theorem s92 : Gt (HP L (upf g 87 F)) 92 = g 92 := gMn (by decide)
theorem s93 : Gt (HP L (upf g 87 F)) 93 = g 93 := gMn (by decide)
theorem w86 {G : Nat → Int32} : setG (HP L (upf g 87 F)) 86 G = HP L (upf (upf g 86 G) 87 F) := sMn (by decide)
theorem w92 {G : Nat → Int32} : setG (HP L (upf g 87 F)) 92 G = HP L (upf (upf g 92 G) 87 F) := sMn (by decide)
theorem w93 {G : Nat → Int32} : setG (HP L (upf g 87 F)) 93 G = HP L (upf (upf g 93 G) 87 F) := sMn (by decide)
theorem M_copyM {b : Nat} (h1 : 1 ≤ b) (hb : b < 80) : Den 8 [.ref 86, .int (nI 0), .int (nI b)] (HM L g m (lyR rows)) = some (none, HP L (upf g 87 (lyR (upf (upf rows 0 m) b m)))) := by
  have e : upf rows 0 m 0 = m := if_pos rfl
  have h := M_copyRow (L := L) (g := g) (rs := upf rows 0 m) (a := 0) (b := b) (by omega) hb
  rw [e] at h
  rw [HM_R]
  exact h
theorem M_copy0 {a : Nat} (ha : a < 80) (h : g 87 = lyR rows) : Den 8 [.ref 86, .int (nI a), .int (nI 0)] (HP L g) = some (none, HM L g (rows a) (lyR rows)) := by
  rw [HP_R h, M_copyRow ha (by omega), HM_R]
/-- to where it is seen whether the way has ended -/
theorem turn_1 (W : WI b po bs r n N X) (hx : ¬ wEx X) {d : Nat} (hd : wDp X = d + 1) (hw : g 87 = lyR rows) (hr : rows (19 + d) = wRw X d) (h11 : g 86 11 = nI (wCt X)) {tb v4 v5 : Value} : Rr 191 43 [.ref 86, .int (nI 500), tb, .int (nI (wDp X) - 1), v4, v5] [] (HP L g) =
    if lst (wRw X d) = 5 then Rr 191 71 [.ref 86, .int (nI 500), tb, .int (nI d), v4, v5] [] (HM L g (wRw X d) (lyR rows)) else Rr 191 96 [.ref 86, .int (nI 500), tb, .int (nI d), v4, v5] [] (HM L g (wRw X d) (lyR rows)) := by
  obtain ⟨w1, w2, -⟩ := W
  obtain ⟨⟨t, I, R⟩, -⟩ := w2 d (by omega)
  have hc : ¬ 500 ≤ wCt X := fun z => hx (Or.inr z)
  have a1 : ¬ nI d < 0 := nI_pos (by omega)
  have a2 : ¬ nI 500 ≤ nI (wCt X) := nI_ge (by omega) (by omega)
  have a3 := M_copy0 (L := L) (show 19 + d < 80 by omega) hw
  rw [hr] at a3
  have a4 : nI (d + 1) - 1 = nI d := nI_pred d
  rw [hd, a4, e191_43]
  simp only [e191_0, e191_1, e191_2, e191_5, e191_6, e191_7, e191_10, e191_11, e191_12, e191_15, e191_16, e191_17, e191_20, e191_21, e191_22, e191_23, e191_24, e191_26, e191_29, e191_30, e191_33, e191_34, e191_35, e191_36, e191_37, e191_40, e191_41, e191_42, e191_44, e191_47, e191_48, e191_51, e191_52, e191_55, e191_56, e191_58, e191_59, e191_60, e191_61, e191_64, e191_65, e191_68, e191_72, e191_73, e191_76, e191_77, e191_80, e191_81, e191_84, e191_85, e191_88, e191_89, e191_90, e191_93, e191_97, e191_98, e191_101, e191_104, e191_105, e191_108, e191_109, e191_110, e191_112, e191_113, e191_116, e191_117, e191_118, e191_120, e191_121, e191_124, e191_125, e191_126, e191_127, e191_128, e191_129, e191_130, e191_131, e191_133, e191_135, e191_138, e191_141, e191_142, e191_143, e191_145, e191_146, e191_147, e191_150, e191_151, e191_154, e191_155, e191_156, e191_157, e191_158, e191_161, e191_162, e191_163, e191_164, e191_167, e191_170, e191_173, e191_174, e191_176, e191_177, e191_180, e191_181, en_8, en_124, en_156, en_171, en_184, i_86, a1, a2, if_false, h11, nI_add, a3, M_isAny (prcs_b I.1.2.1 I.1.1.1) (np_le I.1.1), lvH_Hq, Option.bind_some, psh_i, psh_n, Hq_G, Hq_setG, upf_same, upf_upf, b2_0, Classical.not_not]
  by_cases c : lst (wRw X d) = 5
  · rw [if_pos c, if_neg (fun z => (any_lst I).mp z c)]
  · rw [if_neg c, if_pos ((any_lst I).mpr c)]
theorem wd1 (hx : ¬ wEx X) : ∃ d, wDp X = d + 1 := by
  have : ¬ wDp X = 0 := fun z => hx (Or.inl z)
  exact ⟨wDp X - 1, by omega⟩
theorem turn_leaf (W : WI b po bs r n N X) (hx : ¬ wEx X) (hm : WM m0 R0 g0 z g X) {d : Nat} (hd : wDp X = d + 1) (hl : lst (wRw X d) = 5) {tb v4 v5 : Value} : ∃ g', Rr 191 43 [.ref 86, .int (nI 500), tb, .int (nI (wDp X) - 1), v4, v5] [] (HP L g) = Rr 191 76 [.ref 86, .int (nI 500), tb, .int (nI d), v4, v5] [] (HP L g') ∧ WM m0 R0 g0 (wRw X d) g' (wStep (wN b + n) N X) := by
  have W0 := W
  obtain ⟨⟨rows, r1, r2, r3, r4, r5⟩, ⟨h11, h12, h13, h14, h15⟩, h16, h17⟩ := hm
  have t1 := turn_1 (L := L) (tb := tb) (v4 := v4) (v5 := v5) W hx hd r1 (r5 d (by omega)) h11
  rw [if_pos hl] at t1
  obtain ⟨w1, w2, w3, w4, w5, w6, w7, w8⟩ := W
  obtain ⟨⟨t, I, R⟩, -⟩ := w2 d (by omega)
  obtain ⟨g1, q1, q2, q3⟩ := M_count (L := L) (g := g) (f := lyR rows) I (show d ≤ 40 by omega) h11 h12 h13 h14 w6 w7 (fun z => (w8 z).1)
  have eX : wStep (wN b + n) N X = wLf X d (wRw X d) (wOk (wRw X d) N) := by
    unfold wStep
    rw [show wDp X - 1 = d by omega, if_pos hl]
  refine ⟨upf g1 87 (layM (wRw X d) (lyR rows)), ?_, ⟨upf rows 0 (wRw X d), ?_, rfl, fun i h1 h2 => ?_, r4, fun e he => ?_⟩, ⟨?_, ?_, ?_, ?_, fun k hk => ?_⟩, fun e he => ?_, fun i h1 h2 h3 h4 h5 => ?_⟩
  · rw [t1, e191_71]
    simp only [e191_0, e191_1, e191_2, e191_5, e191_6, e191_7, e191_10, e191_11, e191_12, e191_15, e191_16, e191_17, e191_20, e191_21, e191_22, e191_23, e191_24, e191_26, e191_29, e191_30, e191_33, e191_34, e191_35, e191_36, e191_37, e191_40, e191_41, e191_42, e191_43, e191_44, e191_47, e191_48, e191_51, e191_52, e191_55, e191_56, e191_58, e191_59, e191_60, e191_61, e191_64, e191_65, e191_68, e191_72, e191_73, e191_77, e191_80, e191_81, e191_84, e191_85, e191_88, e191_89, e191_90, e191_93, e191_96, e191_97, e191_98, e191_101, e191_104, e191_105, e191_108, e191_109, e191_110, e191_112, e191_113, e191_116, e191_117, e191_118, e191_120, e191_121, e191_124, e191_125, e191_126, e191_127, e191_128, e191_129, e191_130, e191_131, e191_133, e191_135, e191_138, e191_141, e191_142, e191_143, e191_145, e191_146, e191_147, e191_150, e191_151, e191_154, e191_155, e191_156, e191_157, e191_158, e191_161, e191_162, e191_163, e191_164, e191_167, e191_170, e191_173, e191_174, e191_176, e191_177, e191_180, e191_181, en_8, en_124, en_156, en_171, en_184, i_86, q1, lvH_Hq, Option.bind_some, psh_n]
  · show layM (wRw X d) (lyR rows) = _
    exact lyR_up
  · rw [upf_ne (by omega)]
    exact r3 i h1 h2
  · rw [eX] at he ⊢
    have he : e < d := he
    rw [upf_ne (by omega)]
    exact r5 e (by omega)
  · rw [eX]
    show g1 86 11 = nI (wCt X + 1)
    rw [q3]
    exact if_pos rfl
  · rw [eX]
    show g1 86 12 = nI (if wOk (wRw X d) N = true then wBd X else wBd X + 1)
    rw [q3]
    rfl
  · rw [eX]
    show g1 86 13 = if wOk (wRw X d) N = true then wFb X else if wBd X = 0 then nI (wCt X) else wFb X
    rw [q3]
    rfl
  · rw [eX]
    show g1 86 14 = nI (if wLg X < d then d else wLg X)
    rw [q3]
    rfl
  · show g1 86 k = _
    rw [q3]
    unfold upd
    rw [if_neg (by omega), if_neg (by omega), if_neg (by omega), if_neg (by omega)]
    exact h15 k hk
  · rw [eX] at he ⊢
    have he : e < d := he
    show g1 92 e = _ ∧ g1 93 e = _
    rw [q2 92 (by decide) (by decide), q2 93 (by decide) (by decide)]
    exact h16 e (by omega)
  · show upf g1 87 _ i = _
    rw [upf_ne h2, q2 i h1 h3]
    exact h17 i h1 h2 h3 h4 h5
theorem turn_pop (W : WI b po bs r n N X) (hx : ¬ wEx X) (hm : WM m0 R0 g0 z g X) {d : Nat} (hd : wDp X = d + 1) (hl : ¬ lst (wRw X d) = 5) (hf : fnS (wRw X d) (wN b + n - wNp X d) (wNp X d) (wNc X d) = none) {tb v4 v5 : Value} : ∃ g', Rr 191 43 [.ref 86, .int (nI 500), tb, .int (nI (wDp X) - 1), v4, v5] [] (HP L g) = Rr 191 43 [.ref 86, .int (nI 500), tb, .int (nI d - 1), v4, v5] [] (HP L g') ∧ WM m0 R0 g0 (wRw X d) g' (wStep (wN b + n) N X) := by
  have W0 := W
  obtain ⟨⟨rows, r1, r2, r3, r4, r5⟩, ⟨h11, h12, h13, h14, h15⟩, h16, h17⟩ := hm
  have t1 := turn_1 (L := L) (tb := tb) (v4 := v4) (v5 := v5) W hx hd r1 (r5 d (by omega)) h11
  rw [if_neg hl] at t1
  obtain ⟨w1, w2, w3, w4, w5, w6, w7, w8⟩ := W
  obtain ⟨⟨t, I, R⟩, -, hnp, hnc⟩ := w2 d (by omega)
  obtain ⟨g1, q1, q2, q3⟩ := (L_fnd (L := L) (f := lyR rows) I R (show d < 64 by omega) (wN b + n - wNp X d) (wNp X d) (wNc X d) g (by omega) hnc (h16 d (by omega)).1 (h16 d (by omega)).2).1 hf
  have eX : wStep (wN b + n) N X = wPop X d := by
    unfold wStep
    rw [show wDp X - 1 = d by omega, if_neg hl, hf]
    rfl
  have hF : Den 156 [.ref 86, .int (nI d)] (HM L g (wRw X d) (lyR rows)) = some (some (nI 0), HM L g1 (wRw X d) (lyR rows)) := by
    rw [D0_156]
    exact q1
  have ep : nI d + (Int32.ofInt (-1)) = nI d - 1 := by
    rw [Int32.sub_eq_add_neg]
    rfl
  refine ⟨upf g1 87 (layM (wRw X d) (lyR rows)), ?_, ⟨upf rows 0 (wRw X d), ?_, rfl, fun i h1 h2 => ?_, r4, fun e he => ?_⟩, ⟨?_, ?_, ?_, ?_, fun k hk => ?_⟩, fun e he => ?_, fun i h1 h2 h3 h4 h5 => ?_⟩
  · rw [t1, e191_96]
    simp only [e191_0, e191_1, e191_2, e191_5, e191_6, e191_7, e191_10, e191_11, e191_12, e191_15, e191_16, e191_17, e191_20, e191_21, e191_22, e191_23, e191_24, e191_26, e191_29, e191_30, e191_33, e191_34, e191_35, e191_36, e191_37, e191_40, e191_41, e191_42, e191_44, e191_47, e191_48, e191_51, e191_52, e191_55, e191_56, e191_58, e191_59, e191_60, e191_61, e191_64, e191_65, e191_68, e191_71, e191_72, e191_73, e191_76, e191_77, e191_80, e191_81, e191_84, e191_85, e191_88, e191_89, e191_90, e191_93, e191_97, e191_98, e191_101, e191_104, e191_105, e191_108, e191_109, e191_110, e191_112, e191_113, e191_116, e191_117, e191_118, e191_120, e191_121, e191_124, e191_125, e191_126, e191_127, e191_128, e191_129, e191_130, e191_131, e191_133, e191_135, e191_138, e191_141, e191_142, e191_143, e191_145, e191_146, e191_147, e191_150, e191_151, e191_154, e191_155, e191_156, e191_157, e191_158, e191_161, e191_162, e191_163, e191_164, e191_167, e191_170, e191_173, e191_174, e191_176, e191_177, e191_180, e191_181, en_8, en_124, en_156, en_171, en_184, i_86, hF, zz, if_true, ep, lvH_Hq, Option.bind_some, psh_i]
  · show layM (wRw X d) (lyR rows) = _
    exact lyR_up
  · rw [upf_ne (by omega)]
    exact r3 i h1 h2
  · rw [eX] at he ⊢
    have he : e < d := he
    rw [upf_ne (by omega)]
    exact r5 e (by omega)
  · rw [eX]
    show g1 86 11 = _
    rw [q2 86 (by decide) (by decide)]
    exact h11
  · rw [eX]
    show g1 86 12 = _
    rw [q2 86 (by decide) (by decide)]
    exact h12
  · rw [eX]
    show g1 86 13 = _
    rw [q2 86 (by decide) (by decide)]
    exact h13
  · rw [eX]
    show g1 86 14 = _
    rw [q2 86 (by decide) (by decide)]
    exact h14
  · show g1 86 k = _
    rw [q2 86 (by decide) (by decide)]
    exact h15 k hk
  · rw [eX] at he ⊢
    have he : e < d := he
    show g1 92 e = _ ∧ g1 93 e = _
    rw [(q3 e (by omega)).1, (q3 e (by omega)).2]
    exact h16 e (by omega)
  · show upf g1 87 _ i = _
    rw [upf_ne h2, q2 i h4 h5]
    exact h17 i h1 h2 h3 h4 h5
end RR
