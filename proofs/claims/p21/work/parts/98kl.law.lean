/-! THE LAW from the two new houses on -/
section LW
variable {L b po bs r n t N k sd : Nat} {m : Sx} {hs im : Nat → Sx} {kp : Nat → Bool} {is : Nat → Nat} {x y v : Int32} {g : Nat → Nat → Int32} {s : Hs}
theorem a_0 : Arr 0 (HP L g) := ⟨Nat.zero_le _, rfl⟩
theorem n_0 : Lng (HP L g) 0 = L := rfl
theorem l_0 : ArL 0 (HP L g) := ⟨Nat.zero_le _, Or.inl rfl⟩
theorem i_86 : Ins 86 (HP L g) 7 := ⟨by decide, Nat.le_of_ble_eq_true rfl, rfl⟩
/-- the script's number j, or what stands for it behind its end -/
def clV (L : Nat) (f : Nat → Int32) (j : Nat) : Int32 := if j < L then f j else nI 747796405 * (nI j + nI 1)
theorem D_cl (hL : L ≤ 260) {j : Nat} (hj : j < 1000) : Den 1 [.ref 0, .int (nI j)] (HP L g) = some (some (clV L (g 0) j), HP L g) := by
  have c : (nI L ≤ nI j) = (L ≤ j) := propext (nI_leI (by omega) (by omega))
  have q2 : (nI j).toNatClampNeg = j := nI_clamp (by omega)
  rw [D0_1]
  unfold clV
  by_cases h : j < L
  · have q1 : ¬ nI j < 0 := nI_pos (by omega)
    rw [if_pos h]
    simp only [e1_0, e1_1, e1_2, e1_3, l_0, n_0, c, show ¬ L ≤ j from by omega, if_false, e1_6, e1_7, e1_8, e1_9, e1_18, a_0, q2, q1, or_self, not_false_eq_true, Hq_G]
  · rw [if_neg h]
    simp only [e1_0, e1_1, e1_2, e1_3, l_0, n_0, c, show L ≤ j from by omega, if_true, e1_12, e1_14, e1_15, e1_16, e1_17, e1_18]
theorem I0 : Ints [] := fun _ => rfl
theorem I1 : Ints [.int x] := fun _ => rfl
theorem I2 : Ints [.int x, .int y] := fun _ => rfl
/-- both houses asked -/
theorem both {yy : Nat} {As : List Value} {s' : Hs} (hA : Ints As) (o : Op L yy As s v s') (w : Tw s s g) : ∃ g1 g2, Den yy (.ref 1 :: As) (HP L g) = some (some v, HP L g1) ∧ Den yy (.ref 86 :: As) (HP L g1) = some (some v, HP L g2) ∧ Tw s' s' g2 ∧ g1 0 = g 0 ∧ g2 0 = g 0 := by
  obtain ⟨g1, d1, w1, e1⟩ := Tw_1 o w
  obtain ⟨g2, d2, w2, e2⟩ := Tw_2 hA o w1
  exact ⟨g1, g2, d1, d2, w2, e1, e2.trans e1⟩
theorem law_turn (hL : L ≤ 260) (H : HI s) (w : Tw s s g) {i : Nat} (hi : i < 34) (v5 : Value) : ∃ s' g', Rr 199 61 [.ref 0, .ref 1, .ref 86, .int v, .int (nI i), v5] [] (HP L g) = Rr 199 61 [.ref 0, .ref 1, .ref 86, .int v, .int (nI (i + 1)), v5] [] (HP L g') ∧ HI s' ∧ Tw s' s' g' := by
  obtain ⟨⟨b, po, bs, r, n⟩, t, N, m, k, hs, kp, im, is, sd⟩ := s
  obtain ⟨u, s', o, H'⟩ := O_deed (L := L) (x := clV L (g 0) (1 + 2 * i)) (y := clV L (g 0) (2 + 2 * i)) H
  have c1 := fun (g' : Nat → Nat → Int32) (e : g' 0 = g 0) => D_cl (L := L) (g := g') hL (show 1 + 2 * i < 1000 by omega)
  have c2 := fun (g' : Nat → Nat → Int32) (e : g' 0 = g 0) => D_cl (L := L) (g := g') hL (show 2 + 2 * i < 1000 by omega)
  obtain ⟨g1, g2, d1, d2, w2, e1, e2⟩ := both I2 o w
  obtain ⟨⟨b', po', bs', r', n'⟩, t', N', m', k', hs', kp', im', is', sd'⟩ := s'
  obtain ⟨g3, d3, w3, e3⟩ := Tw_1 (O_well (L := L) H'.1) w2
  have a1 := c1 g rfl
  have a2 := c2 g rfl
  have b1 := c1 g1 e1
  have b2' := c2 g1 e1
  rw [e1] at b1 b2'
  have h34 : ¬ nI 34 ≤ nI i := nI_ge hi (by omega)
  have n10 : ¬ nI 1 = 0 := by decide
  refine ⟨_, g3, ?_, H', w3⟩
  simp only [e199_61, e199_63, e199_65, e199_68, e199_69, e199_70, e199_71, e199_72, e199_74, e199_75, e199_76, e199_79, e199_80, e199_81, e199_82, e199_84, e199_85, e199_86, e199_89, e199_92, e199_93, e199_94, e199_95, e199_96, e199_98, e199_99, e199_100, e199_103, e199_104, e199_105, e199_106, e199_108, e199_109, e199_110, e199_113, e199_116, e199_119, e199_120, e199_123, e199_126, e199_127, e199_128, e199_131, en_1, en_6, en_7, i_1, i_86, pk_mul, nI_add, h34, a1, a2, b1, b2', d1, d2, d3, n10, not_true_eq_false, not_false_eq_true, if_true, if_false, lvH_Hq, Option.bind_some, psh_i, psh_n, Hq_G, Hq_setG, upf_same, upf_upf]
theorem law_turns (hL : L ≤ 260) (v5 : Value) : ∀ d i (s : Hs) g, i + d = 34 → HI s → Tw s s g → ∃ s' g', Rr 199 61 [.ref 0, .ref 1, .ref 86, .int v, .int (nI i), v5] [] (HP L g) = Rr 199 134 [.ref 0, .ref 1, .ref 86, .int v, .int (nI 34), v5] [] (HP L g') ∧ HI s' ∧ Tw s' s' g'
  | 0, i, s, g, h, H, w => by
    have : i = 34 := by omega
    subst this
    refine ⟨s, g, ?_, H, w⟩
    simp only [e199_61, e199_63, e199_65, Int32.le_refl, if_true]
  | d + 1, i, s, g, h, H, w => by
    obtain ⟨s1, g1, e1, H1, w1⟩ := law_turn (L := L) (v := v) hL H w (show i < 34 by omega) v5
    obtain ⟨s2, g2, e2, H2, w2⟩ := law_turns hL v5 d (i + 1) s1 g1 (by omega) H1 w1
    exact ⟨s2, g2, e1.trans e2, H2, w2⟩
theorem T6 (G : GV b po bs r n t N m) : Op L 186 [.int (nI 6)] (mkH b po bs r n t N m k hs kp im is sd) (nI (clN b r n)) (mkH b po bs r n t N m k hs kp im is sd) := O_told (L := L) G (show 6 < 19 by decide)
theorem T7 (G : GV b po bs r n t N m) : Op L 186 [.int (nI 7)] (mkH b po bs r n t N m k hs kp im is sd) (nI N) (mkH b po bs r n t N m k hs kp im is sd) := O_told (L := L) G (show 7 < 19 by decide)
theorem T18 (G : GV b po bs r n t N m) : Op L 186 [.int (nI 18)] (mkH b po bs r n t N m k hs kp im is sd) (nI sd) (mkH b po bs r n t N m k hs kp im is sd) := O_told (L := L) G (show 18 < 19 by decide)
theorem law_cells (G : GV b po bs r n t N m) : ∀ d i g, i + d = clN b r n → Tw (mkH b po bs r n t N m k hs kp im is sd) (mkH b po bs r n t N m k hs kp im is sd) g → ∃ g', Rr 199 204 [.ref 0, .ref 1, .ref 86, .int v, .int (nI 1), .int (nI i)] [] (HP L g) = Rr 199 248 [.ref 0, .ref 1, .ref 86, .int v, .int (nI 1), .int (nI (clN b r n))] [] (HP L g') ∧ Tw (mkH b po bs r n t N m k hs kp im is sd) (mkH b po bs r n t N m k hs kp im is sd) g'
  | 0, i, g, h, w => by
    have : i = clN b r n := by omega
    subst this
    obtain ⟨g1, d1, w1, e1⟩ := Tw_1 (T6 (L := L) G) w
    refine ⟨g1, ?_, w1⟩
    simp only [e199_204, e199_206, e199_207, e199_209, e199_212, en_186, i_1, d1, Int32.le_refl, if_true, lvH_Hq, Option.bind_some, psh_i, psh_n, Hq_G, Hq_setG, upf_same, upf_upf]
  | d + 1, i, g, h, w => by
    have h9 := clN_9 G.1.1.1
    obtain ⟨g1, d1, w1, e1⟩ := Tw_1 (T6 (L := L) G) w
    obtain ⟨g2, g3, d2, d3, w3, -, -⟩ := both I1 (O_cell (L := L) G (show i < clN b r n by omega)) w1
    obtain ⟨g4, e4, w4⟩ := law_cells G d (i + 1) g3 (by omega) w3
    have h34 : ¬ nI (clN b r n) ≤ nI i := nI_ge (by omega) (by omega)
    have n10 : ¬ nI 1 = 0 := by decide
    refine ⟨g4, ?_, w4⟩
    rw [← e4]
    simp only [e199_204, e199_206, e199_207, e199_209, e199_212, e199_215, e199_217, e199_220, e199_221, e199_223, e199_226, e199_227, e199_229, e199_232, e199_235, e199_236, e199_239, e199_240, e199_242, e199_245, en_137, en_186, i_1, i_86, h34, d1, d2, d3, n10, nI_add, not_true_eq_false, if_false, lvH_Hq, Option.bind_some, psh_i, psh_n, Hq_G, Hq_setG, upf_same, upf_upf]
theorem law_acts (G : GV b po bs r n t N m) : ∀ d i g, i + d = N → Tw (mkH b po bs r n t N m k hs kp im is sd) (mkH b po bs r n t N m k hs kp im is sd) g → ∃ g', Rr 199 251 [.ref 0, .ref 1, .ref 86, .int v, .int (nI 1), .int (nI i)] [] (HP L g) = Rr 199 314 [.ref 0, .ref 1, .ref 86, .int v, .int (nI 1), .int (nI N)] [] (HP L g') ∧ Tw (mkH b po bs r n t N m k hs kp im is sd) (mkH b po bs r n t N m k hs kp im is sd) g'
  | 0, i, g, h, w => by
    have : i = N := by omega
    subst this
    obtain ⟨g1, d1, w1, e1⟩ := Tw_1 (T7 (L := L) G) w
    refine ⟨g1, ?_, w1⟩
    simp only [e199_251, e199_253, e199_254, e199_256, e199_259, en_186, i_1, d1, Int32.le_refl, if_true, lvH_Hq, Option.bind_some, psh_i, psh_n, Hq_G, Hq_setG, upf_same, upf_upf]
  | d + 1, i, g, h, w => by
    have hN := G.1.1.2.2.2.1
    obtain ⟨g1, d1, w1, e1⟩ := Tw_1 (T7 (L := L) G) w
    obtain ⟨g2, g3, d2, d3, w3, -, -⟩ := both I2 (O_act (L := L) G (show i < N by omega) (show 2 < 7 by decide)) w1
    obtain ⟨g4, g5, d4, d5, w5, -, -⟩ := both I2 (O_act (L := L) G (show i < N by omega) (show 4 < 7 by decide)) w3
    obtain ⟨g6, e6, w6⟩ := law_acts G d (i + 1) g5 (by omega) w5
    have h34 : ¬ nI N ≤ nI i := nI_ge (by omega) (by omega)
    have n10 : ¬ nI 1 = 0 := by decide
    refine ⟨g6, ?_, w6⟩
    rw [← e6]
    simp only [e199_251, e199_253, e199_254, e199_256, e199_259, e199_262, e199_264, e199_267, e199_268, e199_270, e199_271, e199_274, e199_275, e199_277, e199_278, e199_281, e199_284, e199_285, e199_287, e199_288, e199_291, e199_292, e199_294, e199_295, e199_298, e199_301, e199_302, e199_305, e199_306, e199_308, e199_311, en_180, en_186, i_1, i_86, h34, d1, d2, d3, d4, d5, n10, nI_add, not_true_eq_false, if_false, lvH_Hq, Option.bind_some, psh_i, psh_n, Hq_G, Hq_setG, upf_same, upf_upf]
theorem law_end (H : HI s) (w : Tw s s g) (v5 : Value) : ∃ h', Rr 199 134 [.ref 0, .ref 1, .ref 86, .int v, .int (nI 34), v5] [] (HP L g) = some (some 1, h') := by
  obtain ⟨⟨b, po, bs, r, n⟩, t, N, m, k, hs, kp, im, is, sd⟩ := s
  have G := H.1
  obtain ⟨g1, g2, d1, d2, w2, -, -⟩ := both I1 (T7 (L := L) G) w
  obtain ⟨g3, g4, d3, d4, w4, -, -⟩ := both I1 (T9 (L := L) G) w2
  obtain ⟨g5, g6, d5, d6, w6, -, -⟩ := both I1 (T17 (L := L) G) w4
  obtain ⟨g7, g8, d7, d8, w8, -, -⟩ := both I1 (T18 (L := L) G) w6
  obtain ⟨g9, e9, w9⟩ := law_cells (L := L) (v := v) G (clN b r n) 0 g8 (by omega) w8
  obtain ⟨g10, e10, w10⟩ := law_acts (L := L) (v := v) G N 0 g9 (by omega) w9
  obtain ⟨g11, d11, w11, -⟩ := Tw_1 (T8 (L := L) G) w10
  obtain ⟨s', o⟩ := O_waysAre (L := L) H
  obtain ⟨g12, d12, w12, -⟩ := Tw_1 o w11
  have n10 : ¬ nI 1 = 0 := by decide
  have fin : ∀ g, Rr 199 336 [.ref 0, .ref 1, .ref 86, .int v, .int (nI 1), .int (nI N)] [] (HP L g) = some (some (nI 1), HP L g) := by
    intro g
    simp only [e199_336, e199_337, e199_341, one_01]
  have A : Rr 199 134 [.ref 0, .ref 1, .ref 86, .int v, .int (nI 34), v5] [] (HP L g) = Rr 199 204 [.ref 0, .ref 1, .ref 86, .int v, .int (nI 1), .int (nI 0)] [] (HP L g8) := by
    simp only [e199_134, e199_135, e199_137, e199_140, e199_141, e199_143, e199_146, e199_149, e199_150, e199_152, e199_155, e199_156, e199_158, e199_161, e199_164, e199_165, e199_167, e199_170, e199_171, e199_173, e199_176, e199_179, e199_180, e199_182, e199_185, e199_186, e199_188, e199_191, e199_194, e199_195, e199_198, e199_199, e199_201, e199_202, en_186, i_1, i_86, d1, d2, d3, d4, d5, d6, d7, d8, not_true_eq_false, if_false, lvH_Hq, Option.bind_some, psh_i, psh_n, Hq_G, Hq_setG, upf_same, upf_upf]
  rw [A, e9]
  have B : Rr 199 248 [.ref 0, .ref 1, .ref 86, .int v, .int (nI 1), .int (nI (clN b r n))] [] (HP L g9) = Rr 199 251 [.ref 0, .ref 1, .ref 86, .int v, .int (nI 1), .int (nI 0)] [] (HP L g9) := by
    simp only [e199_248, e199_249]
  rw [B, e10]
  by_cases c : nI 2 < nI (cnE m N)
  · refine ⟨HP L g11, ?_⟩
    have C : Rr 199 314 [.ref 0, .ref 1, .ref 86, .int v, .int (nI 1), .int (nI N)] [] (HP L g10) = Rr 199 336 [.ref 0, .ref 1, .ref 86, .int v, .int (nI 1), .int (nI N)] [] (HP L g11) := by
      simp only [e199_314, e199_316, e199_319, e199_320, e199_322, e199_325, e199_326, en_186, i_1, d11, c, n10, if_true, if_false, lvH_Hq, Option.bind_some, psh_i, psh_n, Hq_G, Hq_setG, upf_same, upf_upf]
    rw [C, fin]
    rfl
  · refine ⟨HP L g12, ?_⟩
    have C : Rr 199 314 [.ref 0, .ref 1, .ref 86, .int v, .int (nI 1), .int (nI N)] [] (HP L g10) = Rr 199 336 [.ref 0, .ref 1, .ref 86, .int v, .int (nI 1), .int (nI N)] [] (HP L g12) := by
      simp only [e199_314, e199_316, e199_319, e199_320, e199_322, e199_325, e199_326, e199_329, e199_330, e199_333, en_8, en_186, i_1, d11, d12, c, n10, if_false, lvH_Hq, Option.bind_some, psh_i, psh_n, Hq_G, Hq_setG, upf_same, upf_upf]
    rw [C, fin]
    rfl
theorem law_from (hL : L ≤ 260) (H : HI s) (w : Tw s s g) (v3 v4 v5 : Value) : ∃ h', Rr 199 16 [.ref 0, .ref 1, .ref 86, v3, v4, v5] [] (HP L g) = some (some 1, h') := by
  obtain ⟨⟨b, po, bs, r, n⟩, t, N, m, k, hs, kp, im, is, sd⟩ := s
  have a0 := D_cl (L := L) (g := g) hL (show 0 < 1000 by decide)
  obtain ⟨x, hx⟩ : ∃ x, x = clV L (g 0) 0 := ⟨_, rfl⟩
  rw [← hx] at a0
  have hpo : lwN (x >>> (nI 13 &&& 31)) 2 < 2 := lwN_lt (by decide)
  obtain ⟨g1, g2, d1, d2, w2, -, -⟩ := both I2 (O_built (L := L) (x := x) hpo) w
  have ok := bl_ok (x := x) hpo
  have H2 : HI (mkH (blB x) (lwN (x >>> (nI 13 &&& 31)) 2) (blS x) (blR x) (blN x) 0 0 (mNew (nI (blB x)) (nI (lwN (x >>> (nI 13 &&& 31)) 2)) (nI (blS x)) (nI (blR x)) (nI (blN x))) 0 hs kp im is sd) := ⟨GV_new ok, Nat.zero_le _, H.2.2.1, fun i hi => by omega, H.2.2.2.2⟩
  obtain ⟨s3, g3, e3, H3, w3⟩ := law_turns (L := L) (v := x) hL v5 34 0 _ g2 (by omega) H2 w2
  obtain ⟨h', e4⟩ := law_end (L := L) (v := x) H3 w3 v5
  have hnp := np_le ok
  have hn1 : 1 ≤ blN x := ok.2.2.2.2.2.1
  have hw1 := wN_1 (b := blB x)
  have c1 : ¬ nI (wN (blB x) + blN x) < nI 2 := nI_nlt (by omega) (by omega)
  have c2 : nI 2 ≤ nI (wN (blB x) + blN x) := (nI_leI (by omega) (by omega)).mpr (by omega)
  refine ⟨h', ?_⟩
  rw [← e4, ← e3]
  simp only [e199_16, e199_17, e199_18, e199_21, e199_22, e199_23, e199_24, e199_25, e199_27, e199_28, e199_29, e199_32, e199_35, e199_36, e199_39, e199_40, e199_41, e199_42, e199_44, e199_45, e199_46, e199_49, e199_52, e199_53, en_1, en_2, en_4, e199_58, e199_59, a0, i_1, i_86, L2, d1, d2, c1, c2, if_true, if_false, lvH_Hq, Option.bind_some, psh_i, psh_n, Hq_G, Hq_setG, upf_same, upf_upf]
end LW
