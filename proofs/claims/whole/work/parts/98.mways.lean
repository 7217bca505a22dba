/-! THE MODEL'S CALLS: ways, bad -/
def wAns (X : WX) (w : Nat) : Int32 := if w = 0 then nI (wCt X) else if w = 1 then nI (wBd X) else if w = 2 then wFb X else nI (wLg X)
/-- the whole walk from m on -/
noncomputable def wAll (np N : Nat) (m : Sx) : WX := wFin np N 41000 (wSt m)
section RR
variable {L : Nat} {g : Nat → Nat → Int32} {m z : Sx} {k : Nat} {hs : Nat → Sx} {kp : Nat → Bool} {im : Nat → Sx} {is : Nat → Nat} {sd bk : Nat} {ba bv : Nat → Int32} {rs : Nat → Sx} {b po bs r n t N : Nat} {f : Nat → Int32} {x : Int32} {X : WX}
theorem WM_MT {g' : Nat → Nat → Int32} {m' : Sx} (hk16 : k ≤ 16) (T : MT m k hs kp im is sd bk ba bv g) (r3 : ∀ i, i < k → rs (1 + i) = hs i) (r4 : ∀ i, i < 2 → kp i = true → rs (17 + i) = im i) (hm : WM m' rs g z g' X) : MT z k hs kp im is sd bk ba bv g' ∧ frM g g' := by
  obtain ⟨-, t1, t2, t3, t4, t5, t6⟩ := T
  obtain ⟨⟨rows, q1, q2, q3, q4, q5⟩, ⟨h11, h12, h13, h14, h15⟩, h16, h17⟩ := hm
  refine ⟨⟨⟨rows, q1, q2, fun i hi => ?_, fun i hi hk => ?_⟩, ?_, ?_, ?_, ?_, fun i hi hk => ?_, fun i hi => ?_⟩, fun i hi => h17 i (by omega) (by omega) (by omega) (by omega) (by omega)⟩
  · rw [q3 (1 + i) (by omega) (by omega)]
    exact r3 i hi
  · rw [q3 (17 + i) (by omega) (by omega)]
    exact r4 i hi hk
  · rw [h15 1 (by omega)]; exact t1
  · rw [h15 2 (by omega)]; exact t2
  · rw [h15 3 (by omega)]; exact t3
  · rw [h15 7 (by omega)]; exact t4
  · rw [h17 88 (by decide) (by decide) (by decide) (by decide) (by decide)]; exact t5 i hi hk
  · rw [h17 89 (by decide) (by decide) (by decide) (by decide) (by decide), h17 90 (by decide) (by decide) (by decide) (by decide) (by decide)]; exact t6 i hi
theorem thr_go {tb : Value} (hw : g 87 = lyR rs) (h0 : rs 0 = m) : ∃ g1 v4 v5, Rr 191 0 [.ref 86, .int (nI 500), tb, .retAddr 0, .retAddr 0, .retAddr 0] [] (HP L g) = Rr 191 43 [.ref 86, .int (nI 500), tb, .int (nI 0), v4, v5] [] (HP L g1) ∧ WM m rs g m g1 (wSt m) := by
  have e0 : (nI 0).toNatClampNeg = 0 := rfl
  have k1 : ∀ G, upf g 86 G 87 = g 87 := fun G => rfl
  have k2 : ∀ G F H, upf (upf (upf g 86 G) 87 F) 92 H 93 = g 93 := fun G F H => rfl
  have k3 : ∀ G F, upf (upf g 86 G) 87 F 92 = g 92 := fun G F => rfl
  have z64 : ¬ (nI 0 < 0 ∨ 64 ≤ 0) := by decide
  have hc : ∀ G, Den 8 [.ref 86, .int (nI 0), .int (nI 19)] (HP L (upf g 86 G)) = some (none, HP L (upf (upf g 86 G) 87 (lyR (upf rs 19 m)))) := by
    intro G
    rw [HP_R (show upf g 86 G 87 = lyR rs from hw), M_copyRow (by omega) (by omega), h0]
  refine ⟨upf (upf (upf (upf g 86 (upd (upd (upd (upd (g 86) 11 (nI 0)) 12 (nI 0)) 13 (-1)) 14 (nI 0))) 87 (lyR (upf rs 19 m))) 92 (upd (g 92) 0 (nI 0))) 93 (upd (g 93) 0 (nI 0)), .retAddr 0, .retAddr 0, ?_, ⟨upf rs 19 m, rfl, ?_, fun i h1 h2 => ?_, upf_same, fun e he => ?_⟩, ⟨rfl, rfl, rfl, rfl, fun k hk => ?_⟩, fun e he => ?_, fun i h1 h2 h3 h4 h5 => ?_⟩
  · simp only [e191_0, e191_1, e191_2, e191_5, e191_6, e191_7, e191_10, e191_11, e191_12, e191_15, e191_16, e191_17, e191_20, e191_21, e191_22, e191_23, e191_24, e191_26, e191_29, e191_30, e191_33, e191_34, e191_35, e191_36, e191_37, e191_40, e191_41, e191_42, e191_44, e191_47, e191_48, e191_51, e191_52, e191_55, e191_56, e191_58, e191_59, e191_60, e191_61, e191_64, e191_65, e191_68, e191_71, e191_72, e191_73, e191_76, e191_77, e191_80, e191_81, e191_84, e191_85, e191_88, e191_89, e191_90, e191_93, e191_96, e191_97, e191_98, e191_101, e191_104, e191_105, e191_108, e191_109, e191_110, e191_112, e191_113, e191_116, e191_117, e191_118, e191_120, e191_121, e191_124, e191_125, e191_126, e191_127, e191_128, e191_129, e191_130, e191_131, e191_133, e191_135, e191_138, e191_141, e191_142, e191_143, e191_145, e191_146, e191_147, e191_150, e191_151, e191_154, e191_155, e191_156, e191_157, e191_158, e191_161, e191_162, e191_163, e191_164, e191_167, e191_170, e191_173, e191_174, e191_176, e191_177, e191_180, e191_181, en_8, en_124, en_156, en_171, en_184, i_86, f_86_9, f_86_10, a_92, b_92, n_92, a_93, b_93, n_93, hc, e0, z64, k2, k3, not_false_eq_true, upf_same, upf_upf, Hq_G, Hq_setG, lvH_Hq, Option.bind_some, psh_n]
  · rw [upf_ne (by omega)]
    exact h0
  · rw [upf_ne (by omega)]
  · have he : e < 1 := he
    have : e = 0 := by omega
    subst this
    exact upf_same
  · show upd (upd (upd (upd (g 86) 11 (nI 0)) 12 (nI 0)) 13 (-1)) 14 (nI 0) k = g 86 k
    unfold upd
    rw [if_neg (by omega), if_neg (by omega), if_neg (by omega), if_neg (by omega)]
  · have he : e < 1 := he
    have : e = 0 := by omega
    subst this
    exact ⟨rfl, rfl⟩
  · rw [upf_ne h5, upf_ne h4, upf_ne h2, upf_ne h1]
theorem M_ways0 (hx : ¬ ∃ j, 0 ≤ j ∧ j ≤ 3 ∧ x = nI j) : Den 197 [.ref 86, .int x] (HP L g) = some (some (-1000000002), HP L g) := by
  have e : b2 (nI 0 ≤ x ∧ x ≤ nI 3) = nI 0 := if_neg (fun z => hx ((rng_n (by omega) (by omega)).mp z))
  rw [D0_197]
  simp only [e197_0, e197_1, e197_2, e197_3, e197_6, e197_9, e197_12, e197_14, e197_15, e197_16, e197_19, e197_20, e197_23, e197_24, e197_25, e197_28, e197_29, e197_32, e197_35, e197_36, e197_37, e197_40, e197_41, e197_44, e197_47, e197_48, e197_49, e197_52, e197_53, e197_56, e197_59, e197_60, e197_63, e197_64, e197_67, e197_70, e197_71, en_10, en_191, i_86, M_in (x := x) (lo := nI 0) (hi := nI 3) (l := 0) (u := 3) (by decide) (by decide), e, zz, not_true_eq_false, if_false, lvH_Hq, Option.bind_some, psh_i]
theorem M_ways (I : Iv b po bs r n t N m) (R : ∃ c, Rl c m) (hk16 : k ≤ 16) {w : Nat} (hw : w < 4) (T : MT m k hs kp im is sd bk ba bv g) : ∃ g', Den 197 [.ref 86, .int (nI w)] (HP L g) = some (some (wAns (wAll (wN b + n) N m) w), HP L g') ∧ MT m k hs kp im is sd bk ba bv g' ∧ frM g g' := by
  have T0 := T
  obtain ⟨⟨rs, r1, r2, r3, r4⟩, -⟩ := T
  obtain ⟨W, hpsi⟩ := WI_start I R
  obtain ⟨g1, v4, v5, e1, hm1⟩ := thr_go (L := L) (tb := .int (nI 0)) r1 r2
  obtain ⟨g2, e2, hm2⟩ := thr_0 (L := L) 41000 (wSt m) m g1 v4 v5 W hm1 (by omega)
  have ep : nI (wDp (wSt m)) - 1 = nI 0 := nI_pred 0
  rw [ep] at e2
  obtain ⟨T2, F2⟩ := WM_MT hk16 T0 r3 r4 hm2
  refine ⟨g2, ?_, T2, F2⟩
  have hG : Den 191 [.ref 86, .int (nI 500), .int (nI 0)] (HP L g) = some (some (-1), HP L g2) := by
    rw [D0_191, e1, e2]
  have e : b2 (nI 0 ≤ nI w ∧ nI w ≤ nI 3) = nI 1 := if_pos ((rng_n (by omega) (by omega)).mpr ⟨w, by omega, by omega, rfl⟩)
  obtain ⟨-, ⟨h11, h12, h13, h14, -⟩, -⟩ := hm2
  have hn : ¬ (0 : Int32) ≤ -1 := by decide
  rw [D0_197]
  have e' : b2 (nI 0 ≤ nI w ∧ nI w ≤ nI 3) = nI 1 := e
  match w, hw with
  | 0, _ =>
    simp only [e197_0, e197_1, e197_2, e197_3, e197_6, e197_9, e197_12, e197_14, e197_15, e197_16, e197_19, e197_20, e197_23, e197_24, e197_25, e197_28, e197_29, e197_32, e197_35, e197_36, e197_37, e197_40, e197_41, e197_44, e197_47, e197_48, e197_49, e197_52, e197_53, e197_56, e197_59, e197_60, e197_63, e197_64, e197_67, e197_70, e197_71, en_10, en_191, i_86, M_in (x := nI 0) (lo := nI 0) (hi := nI 3) (l := 0) (u := 3) (by decide) (by decide), e', one_n0, zz, not_true_eq_false, not_false_eq_true, if_true, if_false, hG, h11, lvH_Hq, Option.bind_some, psh_i, Hq_G]
    rfl
  | 1, _ =>
    simp only [e197_0, e197_1, e197_2, e197_3, e197_6, e197_9, e197_12, e197_14, e197_15, e197_16, e197_19, e197_20, e197_23, e197_24, e197_25, e197_28, e197_29, e197_32, e197_35, e197_36, e197_37, e197_40, e197_41, e197_44, e197_47, e197_48, e197_49, e197_52, e197_53, e197_56, e197_59, e197_60, e197_63, e197_64, e197_67, e197_70, e197_71, en_10, en_191, i_86, M_in (x := nI 1) (lo := nI 0) (hi := nI 3) (l := 0) (u := 3) (by decide) (by decide), e', one_n0, not_true_eq_false, not_false_eq_true, if_true, if_false, hG, h12, lvH_Hq, Option.bind_some, psh_i, Hq_G]
    rfl
  | 2, _ =>
    simp only [e197_0, e197_1, e197_2, e197_3, e197_6, e197_9, e197_12, e197_14, e197_15, e197_16, e197_19, e197_20, e197_23, e197_24, e197_25, e197_28, e197_29, e197_32, e197_35, e197_36, e197_37, e197_40, e197_41, e197_44, e197_47, e197_48, e197_49, e197_52, e197_53, e197_56, e197_59, e197_60, e197_63, e197_64, e197_67, e197_70, e197_71, en_10, en_191, i_86, M_in (x := nI 2) (lo := nI 0) (hi := nI 3) (l := 0) (u := 3) (by decide) (by decide), e', one_n0, show (nI 2 = 0) = False from eq_false (by decide), show (nI 2 = nI 1) = False from eq_false (by decide), not_true_eq_false, not_false_eq_true, if_true, if_false, hG, h13, lvH_Hq, Option.bind_some, psh_i, Hq_G]
    rfl
  | 3, _ =>
    simp only [e197_0, e197_1, e197_2, e197_3, e197_6, e197_9, e197_12, e197_14, e197_15, e197_16, e197_19, e197_20, e197_23, e197_24, e197_25, e197_28, e197_29, e197_32, e197_35, e197_36, e197_37, e197_40, e197_41, e197_44, e197_47, e197_48, e197_49, e197_52, e197_53, e197_56, e197_59, e197_60, e197_63, e197_64, e197_67, e197_70, e197_71, en_10, en_191, i_86, M_in (x := nI 3) (lo := nI 0) (hi := nI 3) (l := 0) (u := 3) (by decide) (by decide), e', one_n0, show (nI 3 = 0) = False from eq_false (by decide), show (nI 3 = nI 1) = False from eq_false (by decide), show (nI 3 = nI 2) = False from eq_false (by decide), hn, not_true_eq_false, not_false_eq_true, if_true, if_false, hG, h14, lvH_Hq, Option.bind_some, psh_i, Hq_G]
    rfl
  | w + 4, h => omega
theorem M_bad0 (I : Iv b po bs r n t N m) (R : ∃ c, Rl c m) (hk16 : k ≤ 16) (hb : wBd (wAll (wN b + n) N m) = 0) (T : MT m k hs kp im is sd bk ba bv g) : ∃ g', Den 193 [.ref 86] (HP L g) = some (some (-1000000003), HP L g') ∧ MT m k hs kp im is sd bk ba bv g' ∧ frM g g' := by
  have T0 := T
  obtain ⟨⟨rs, r1, r2, r3, r4⟩, -⟩ := T
  obtain ⟨W, hpsi⟩ := WI_start I R
  obtain ⟨g1, v4, v5, e1, hm1⟩ := thr_go (L := L) (tb := .int (nI 1)) r1 r2
  obtain ⟨g2, X2, e2, hm2⟩ := (thr_1 (L := L) 41000 (wSt m) m g1 v4 v5 W hm1 (by omega) rfl).1 hb
  have ep : nI (wDp (wSt m)) - 1 = nI 0 := nI_pred 0
  rw [ep] at e2
  obtain ⟨T2, F2⟩ := WM_MT hk16 T0 r3 r4 hm2
  refine ⟨g2, ?_, T2, F2⟩
  have hG : Den 191 [.ref 86, .int (nI 500), .int (nI 1)] (HP L g) = some (some (-1), HP L g2) := by
    rw [D0_191, e1, e2]
  have hn : ¬ (0 : Int32) ≤ -1 := by decide
  rw [D0_193]
  simp only [e193_0, e193_1, e193_4, e193_5, e193_8, e193_9, e193_10, e193_13, e193_15, e193_16, e193_17, e193_18, e193_20, e193_23, e193_24, e193_26, e193_27, e193_30, e193_31, e193_34, e193_35, e193_37, e193_38, e193_41, e193_42, en_8, en_47, en_191, i_86, hG, hn, if_false, lvH_Hq, Option.bind_some, psh_i]
theorem M_bad (I : Iv b po bs r n t N m) (R : ∃ c, Rl c m) (hk16 : k ≤ 16) (hb : ¬ wBd (wAll (wN b + n) N m) = 0) (T : MT m k hs kp im is sd bk ba bv g) : ∃ g', Den 193 [.ref 86] (HP L g) = some (some (nI (wFd (wAll (wN b + n) N m))), HP L g') ∧ MT (wFs (wAll (wN b + n) N m)) (kup k) (hcons m hs) kp im is sd bk ba bv g' ∧ frM g g' := by
  have T0 := T
  obtain ⟨⟨rs, r1, r2, r3, r4⟩, t1, -⟩ := T
  obtain ⟨W, hpsi⟩ := WI_start I R
  obtain ⟨g1, v4, v5, e1, hm1⟩ := thr_go (L := L) (tb := .int (nI 1)) r1 r2
  obtain ⟨g2, X2, e2, hm2⟩ := (thr_1 (L := L) 41000 (wSt m) m g1 v4 v5 W hm1 (by omega) rfl).2 hb
  have ep : nI (wDp (wSt m)) - 1 = nI 0 := nI_pred 0
  rw [ep] at e2
  have W2 : WI b po bs r n N (wAll (wN b + n) N m) := WI_fin 41000 _ W
  have hfd : wFd (wAll (wN b + n) N m) ≤ 40 := (W2.2.2.2.2.2.2.2 (by omega)).2.1
  have eall : wFin (wN b + n) N 41000 (wSt m) = wAll (wN b + n) N m := rfl
  rw [eall] at e2 hm2
  generalize wFs (wAll (wN b + n) N m) = fs at *
  generalize wFd (wAll (wN b + n) N m) = fd at *
  have hG : Den 191 [.ref 86, .int (nI 500), .int (nI 1)] (HP L g) = some (some (nI fd), HP L g2) := by
    rw [D0_191, e1, e2]
  have hn : (0 : Int32) ≤ nI fd := (nI_leI (a := 0) (by omega) (by omega)).mpr (Nat.zero_le _)
  obtain ⟨⟨rows, q1, q2, q3, q4, q5⟩, ⟨h11, h12, h13, h14, h15⟩, h16, h17⟩ := hm2
  have g1k : g2 86 1 = nI k := (h15 1 (by omega)).trans t1
  have c1 := M_copyRow (L := L) (g := g2) (rs := rows) (a := 0) (b := 79) (by omega) (by omega)
  have c2 := M_copyRow (L := L) (g := g2) (rs := upf rows 79 (rows 0)) (a := 19) (b := 0) (by omega) (by omega)
  have er : upf rows 79 (rows 0) 19 = m := (upf_ne (by omega)).trans q4
  rw [er] at c2
  rw [q2] at c1 c2
  have c3 := M_remember (L := L) (g := g2) (rs := upf (upf rows 79 fs) 0 m) g1k hk16
  have c4 := fun g => M_copyRow (L := L) (g := g) (rs := shR (upf (upf rows 79 fs) 0 m) 0) (a := 79) (b := 0) (by omega) (by omega)
  have er2 : shR (upf (upf rows 79 fs) 0 m) 0 79 = fs := by
    unfold shR
    rw [if_neg (by omega), upf_ne (by omega), upf_same]
  rw [er2] at c4
  have hT : MT fs (kup k) (hcons m hs) kp im is sd bk ba bv (upf (upf g2 86 (upd (g2 86) 1 (nI (if k < 16 then k + 1 else 16)))) 87 (lyR (upf (shR (upf (upf rows 79 fs) 0 m) 0) 0 fs))) := by
    obtain ⟨-, t1, t2, t3, t4, t5, t6⟩ := T0
    refine ⟨⟨_, rfl, upf_same, fun i hi => ?_, fun i hi hk => ?_⟩, rfl, ?_, ?_, ?_, fun i hi hk => ?_, fun i hi => ?_⟩
    · have hi16 : i < 16 := by
        have := kup_16 (k := k)
        omega
      rw [upf_ne (by omega)]
      unfold shR hcons
      rw [if_pos (by omega), Nat.add_sub_cancel_left]
      by_cases e : i = 0
      · rw [if_pos e, e, upf_same]
      · rw [if_neg e, upf_ne e, upf_ne (by omega), q3 i (by omega) (by omega)]
        unfold kup at hi
        have := r3 (i - 1) (by split at hi <;> omega)
        rwa [show 1 + (i - 1) = i by omega] at this
    · rw [upf_ne (by omega)]
      unfold shR
      rw [if_neg (by omega), upf_ne (by omega), upf_ne (by omega), q3 (17 + i) (by omega) (by omega)]
      exact r4 i hi hk
    · exact (h15 2 (by omega)).trans t2
    · exact (h15 3 (by omega)).trans t3
    · exact (h15 7 (by omega)).trans t4
    · exact (congrFun (h17 88 (by decide) (by decide) (by decide) (by decide) (by decide)) i).trans (t5 i hi hk)
    · exact ⟨(congrFun (h17 89 (by decide) (by decide) (by decide) (by decide) (by decide)) i).trans (t6 i hi).1, (congrFun (h17 90 (by decide) (by decide) (by decide) (by decide) (by decide)) i).trans (t6 i hi).2⟩
  refine ⟨_, ?_, hT, fun i hi => ?_⟩
  · rw [HP_R q1] at hG
    rw [D0_193]
    simp only [e193_0, e193_1, e193_4, e193_5, e193_8, e193_9, e193_10, e193_13, e193_15, e193_16, e193_17, e193_18, e193_20, e193_23, e193_24, e193_26, e193_27, e193_30, e193_31, e193_34, e193_35, e193_37, e193_38, e193_41, e193_42, en_8, en_47, en_191, i_86, hG, hn, if_true, c1, c2, c3, c4, lvH_Hq, Option.bind_some, psh_i, psh_n]
  · rw [upf_ne (by omega), upf_ne (by omega)]
    exact h17 i (by omega) (by omega) (by omega) (by omega) (by omega)
end RR
