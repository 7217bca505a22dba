/-! THE LAW'S HELPERS: low, built, deed -/
def lwN (x : Int32) (n : Nat) : Nat := x.toBitVec.toNat % 2 ^ 31 % n
theorem lwN_lt {x : Int32} {n : Nat} (h : 1 ≤ n) : lwN x n < n := Nat.mod_lt _ (by omega)
theorem D_low {x : Int32} {n : Nat} {h : Hp} (h1 : 1 ≤ n) (hn : n < 1000) : Den 2 [.int x, .int (nI n)] h = some (some (nI (lwN x n)), h) := by
  have e : x &&& nI 2147483647 = nI (x.toBitVec.toNat % 2 ^ 31) := pk_and x 31 (by decide)
  have c : ¬ nI n = 0 := fun z => by
    have := (nI_eq (b := 0) (by omega) (by omega)).mp z
    omega
  rw [D0_2]
  simp only [e2_0, e2_1, e2_3, e2_4, e, e2_5 c, e2_6]
  rw [pk_rem (Nat.mod_lt _ (by decide)) (by omega) (by omega)]
  rfl
section LW
variable {L b po bs r n t N k sd : Nat} {m : Sx} {hs im : Nat → Sx} {kp : Nat → Bool} {is : Nat → Nat} {x y : Int32} {g : Nat → Nat → Int32}
theorem L2 {h : Hp} : Den 2 [.int x, .int (nI 2)] h = some (some (nI (lwN x 2)), h) := D_low (by decide) (by decide)
theorem L3 {h : Hp} : Den 2 [.int x, .int (nI 3)] h = some (some (nI (lwN x 3)), h) := D_low (by decide) (by decide)
theorem L4 {h : Hp} : Den 2 [.int x, .int (nI 4)] h = some (some (nI (lwN x 4)), h) := D_low (by decide) (by decide)
theorem L6 {h : Hp} : Den 2 [.int x, .int (nI 6)] h = some (some (nI (lwN x 6)), h) := D_low (by decide) (by decide)
theorem L7 {h : Hp} : Den 2 [.int x, .int (nI 7)] h = some (some (nI (lwN x 7)), h) := D_low (by decide) (by decide)
theorem L12 {h : Hp} : Den 2 [.int x, .int (nI 12)] h = some (some (nI (lwN x 12)), h) := D_low (by decide) (by decide)
/-- the build by the cell x -/
def blB (x : Int32) : Nat := lwN x 6
def blS (x : Int32) : Nat := if blB x = 5 then 2 else if 2 < blB x then 1 else lwN (x >>> (nI 4 &&& 31)) 3
def blR (x : Int32) : Nat := if blB x = 1 then 2 else 2 + lwN (x >>> (nI 7 &&& 31)) 3
def blN (x : Int32) : Nat := if blB x = 3 then 1 else 1 + lwN (x >>> (nI 10 &&& 31)) 3
theorem bl_ok (hpo : po < 2) : okSh (blB x) po (blS x) (blR x) (blN x) := by
  have h6 : blB x < 6 := lwN_lt (by decide)
  have h4 := lwN_lt (x := x >>> (nI 4 &&& 31)) (n := 3) (by decide)
  have h7 := lwN_lt (x := x >>> (nI 7 &&& 31)) (n := 3) (by decide)
  have h10 := lwN_lt (x := x >>> (nI 10 &&& 31)) (n := 3) (by decide)
  unfold okSh blS blR blN
  refine ⟨h6, hpo, ?_, ?_, ?_, ?_, ?_, ?_, ?_, ?_, ?_⟩
  · repeat' split
    all_goals omega
  · split <;> omega
  · split <;> omega
  · split <;> omega
  · split <;> omega
  · intro z
    rw [if_pos z]
  · intro z
    rw [if_pos z, if_neg (by omega), if_pos (by omega)]
    exact ⟨rfl, rfl⟩
  · intro z
    rw [if_neg (by omega), if_pos (by omega)]
  · intro z
    rw [if_pos z]
theorem O_built (hpo : po < 2) {b' po' bs' r' n' : Nat} : Op L 4 [.int x, .int (nI po)] (mkH b' po' bs' r' n' t N m k hs kp im is sd) (nI (wN (blB x) + blN x)) (mkH (blB x) po (blS x) (blR x) (blN x) 0 0 (mNew (nI (blB x)) (nI po) (nI (blS x)) (nI (blR x)) (nI (blN x))) 0 hs kp im is sd) := by
  intro g w
  have ok := bl_ok (x := x) hpo
  have h6 : blB x < 6 := lwN_lt (by decide)
  obtain ⟨g', d, w', F⟩ := O_build (L := L) ok g w
  have e0 : lwN x 6 = blB x := rfl
  have c5 : (nI (blB x) = nI 5) = (blB x = 5) := propext (nI_eq (by omega) (by omega))
  have c1 : (nI (blB x) = nI 1) = (blB x = 1) := propext (nI_eq (by omega) (by omega))
  have c3 : (nI (blB x) = nI 3) = (blB x = 3) := propext (nI_eq (by omega) (by omega))
  have c2 : (nI (blB x) ≤ nI 2) = (blB x ≤ 2) := propext (nI_leI (by omega) (by omega))
  refine ⟨g', ?_, w', F⟩
  have A : ∀ v4 v5 v6, Rr 4 7 [.ref 1, .int x, .int (nI po), .int (nI (blB x)), v4, v5, v6] [] (HP L g) = Rr 4 32 [.ref 1, .int x, .int (nI po), .int (nI (blB x)), v4, v5, v6] [.int (nI (blS x))] (HP L g) := by
    intro v4 v5 v6
    simp only [e4_7, e4_8, e4_9, c5, ite_not]
    unfold blS
    by_cases z : blB x = 5
    · simp only [if_pos z, e4_12, e4_13]
    · simp only [if_neg z, e4_16, e4_17, e4_18, c2]
      by_cases z2 : blB x ≤ 2
      · simp only [if_pos z2, if_neg (show ¬ 2 < blB x by omega), e4_25, e4_26, e4_27, e4_28, e4_29, en_2, L3, lvH_Hq, Option.bind_some, psh_i, psh_n, Hq_G, Hq_setG, upf_same, upf_upf]
      · simp only [if_neg z2, if_pos (show 2 < blB x by omega), e4_21, e4_22]
  have B : ∀ v4 v5 v6, Rr 4 34 [.ref 1, .int x, .int (nI po), .int (nI (blB x)), v4, v5, v6] [] (HP L g) = Rr 4 53 [.ref 1, .int x, .int (nI po), .int (nI (blB x)), v4, v5, v6] [.int (nI (blR x))] (HP L g) := by
    intro v4 v5 v6
    simp only [e4_34, e4_35, e4_36, c1, ite_not]
    unfold blR
    by_cases z : blB x = 1
    · simp only [if_pos z, e4_39, e4_40]
    · simp only [if_neg z, e4_43, e4_44, e4_45, e4_47, e4_48, e4_49, e4_52, en_2, L3, nI_add, lvH_Hq, Option.bind_some, psh_i, psh_n, Hq_G, Hq_setG, upf_same, upf_upf]
  have C : ∀ v4 v5 v6, Rr 4 55 [.ref 1, .int x, .int (nI po), .int (nI (blB x)), v4, v5, v6] [] (HP L g) = Rr 4 74 [.ref 1, .int x, .int (nI po), .int (nI (blB x)), v4, v5, v6] [.int (nI (blN x))] (HP L g) := by
    intro v4 v5 v6
    simp only [e4_55, e4_56, e4_57, c3, ite_not]
    unfold blN
    by_cases z : blB x = 3
    · simp only [if_pos z, e4_60, e4_61]
    · simp only [if_neg z, e4_64, e4_65, e4_66, e4_68, e4_69, e4_70, e4_73, en_2, L3, nI_add, lvH_Hq, Option.bind_some, psh_i, psh_n, Hq_G, Hq_setG, upf_same, upf_upf]
  rw [D0_4]
  simp only [e4_0, e4_1, e4_3, e4_6, en_2, L6, e0, A, e4_32, B, e4_53, C, e4_74, e4_76, e4_77, e4_78, e4_79, e4_81, e4_83, e4_85, e4_88, en_153, i_1, d, lvH_Hq, Option.bind_some, psh_i, psh_n, Hq_G, Hq_setG, upf_same, upf_upf]
theorem HI_of {b' po' bs' r' n' t' N' : Nat} {m' : Sx} (H : HI (mkH b po bs r n t N m k hs kp im is sd)) (G : GV b' po' bs' r' n' t' N' m') : HI (mkH b' po' bs' r' n' t' N' m' (kup k) (hcons m hs) kp im is sd) :=
  ⟨G, kup_16, H.2.2.1, HI_cons ⟨_, _, _, _, _, _, _, H.1⟩ H.2.2.2.1, H.2.2.2.2⟩
theorem D_deed (H : HI (mkH b po bs r n t N m k hs kp im is sd)) {p kk : Nat} (hp : p = lwN (x >>> (nI 4 &&& 31)) (wN b + n)) (hkk : mChs m p = nI kk) (w : KK (mkH b po bs r n t N m k hs kp im is sd) g) :
    ∃ g2, KK (mkH b po bs r n t N m k hs kp im is sd) g2 ∧ frC g g2 ∧ Den 6 [.ref 1, .int x, .int y] (HP L g) = Rr 6 26 [.ref 1, .int x, .int y, .int (nI p), .int (nI kk)] [.int (nI (lwN x 12))] (HP L g2) := by
  have G := H.1
  have hnp := np_le G.1.1.1
  have hw1 := wN_1 (b := b)
  obtain ⟨g1, d1, w1, F1⟩ := O_told (L := L) (k := k) (hs := hs) (kp := kp) (im := im) (is := is) (sd := sd) G (show 5 < 19 by decide) g w
  have e5 : tlM m N (wN b + n) (clN b r n) k sd 0 (fun _ => 0) (fun _ => 0) 5 = nI (wN b + n) := rfl
  rw [e5] at d1
  have hpl : p < wN b + n := by
    rw [hp]
    exact lwN_lt (by omega)
  obtain ⟨g2, d2, w2, F2⟩ := O_process (L := L) G hpl (show 4 < 6 by decide) g1 w1
  have e4 : prM m p 4 = mChs m p := rfl
  rw [e4, hkk, hp] at d2
  have dl : ∀ {h : Hp}, Den 2 [.int (x >>> (nI 4 &&& 31)), .int (nI (wN b + n))] h = some (some (nI (lwN (x >>> (nI 4 &&& 31)) (wN b + n))), h) := D_low (by omega) (by omega)
  refine ⟨g2, w2, frC_t F1 F2, ?_⟩
  rw [hp, D0_6]
  simp only [e6_0, e6_1, e6_2, e6_3, e6_4, e6_5, e6_8, e6_11, e6_12, e6_13, e6_14, e6_15, e6_18, e6_20, e6_21, e6_23, en_2, en_155, en_186, i_1, d1, dl, d2, L12, lvH_Hq, Option.bind_some, psh_i, psh_n, Hq_G, Hq_setG, upf_same, upf_upf]
theorem O_deed (H : HI (mkH b po bs r n t N m k hs kp im is sd)) : ∃ v s', Op L 6 [.int x, .int y] (mkH b po bs r n t N m k hs kp im is sd) v s' ∧ HI s' := by
  have G := H.1
  obtain ⟨-, hk, hsd, Hh, Hi⟩ := H
  have hnp := np_le G.1.1.1
  have hw1 := wN_1 (b := b)
  have ok := G.1.1.1
  have hr2 := ok.2.2.2.1
  have hr4 := ok.2.2.2.2.1
  obtain ⟨p, hp⟩ : ∃ p, p = lwN (x >>> (nI 4 &&& 31)) (wN b + n) := ⟨_, rfl⟩
  have hpl : p < wN b + n := by
    rw [hp]
    exact lwN_lt (by omega)
  have p5 : p < 5 := by omega
  obtain ⟨kk, k7, ek, eix, hpos⟩ := chs_ix G.1 G.2.1 p5
  suffices T : ∃ v s', (∀ g, KK (mkH b po bs r n t N m k hs kp im is sd) g → ∃ g', Rr 6 26 [.ref 1, .int x, .int y, .int (nI p), .int (nI kk)] [.int (nI (lwN x 12))] (HP L g) = some (some v, HP L g') ∧ KK s' g' ∧ frC g g') ∧ HI s' by
    obtain ⟨v, s', T, Hs'⟩ := T
    refine ⟨v, s', fun g w => ?_, Hs'⟩
    obtain ⟨g2, w2, F2, e⟩ := D_deed (L := L) (x := x) (y := y) ⟨G, hk, hsd, Hh, Hi⟩ hp ek w
    obtain ⟨g3, e3, w3, F3⟩ := T g2 w2
    exact ⟨g3, e.trans e3, w3, frC_t F2 F3⟩
  have hq := lwN_lt (x := x) (n := 12) (by decide)
  generalize lwN x 12 = q at hq ⊢
  have cq : ∀ i, i < 19 → (nI q = nI i) = (q = i) := fun i hi => propext (nI_eq (by omega) (by omega))
  by_cases q0 : q = 0
  · subst q0
    have h6 := lwN_lt (x := y) (n := 6) (by decide)
    obtain ⟨⟨t', N', G'⟩, z1, z2, z3⟩ := GV_dr (b := b) (po := po) (bs := bs) (r := r) (n := n) (1 + lwN y 6) m k hs sd ⟨t, N, G⟩ hk hsd Hh
    refine ⟨(drX (wN b + n) r (wN b) (1 + lwN y 6) m k hs sd).1.H 5, mkH b po bs r n t' N' (drX (wN b + n) r (wN b) (1 + lwN y 6) m k hs sd).1 (drX (wN b + n) r (wN b) (1 + lwN y 6) m k hs sd).2.1 (drX (wN b + n) r (wN b) (1 + lwN y 6) m k hs sd).2.2.1 kp im is (drX (wN b + n) r (wN b) (1 + lwN y 6) m k hs sd).2.2.2, fun g w => ?_, ⟨G', z1, z2, z3, Hi⟩⟩
    obtain ⟨g', d, w', F⟩ := O_drift (L := L) (t' := t') (N' := N') G hk hsd (show 1 ≤ 1 + lwN y 6 by omega) (by omega) g w
    refine ⟨g', ?_, w', F⟩
    simp only [e6_26, cq, Nat.reduceLT, Nat.reduceLeDiff, Nat.reduceAdd, Nat.reduceMul, Nat.reduceEqDiff, if_true, if_false, e6_56, e6_57, e6_58, e6_59, e6_61, e6_64, e6_65, e6_68, en_2, en_181, i_1, L6, nI_add, d, lvH_Hq, Option.bind_some, psh_i, psh_n, Hq_G, Hq_setG, upf_same, upf_upf]
  · by_cases q1 : q = 1
    · subst q1
      have h3 := lwN_lt (x := y) (n := 3) (by decide)
      by_cases hj : 1 + lwN y 3 ≤ k
      · obtain ⟨b', po', bs', r', n', t', N', G'⟩ := Hh (1 + lwN y 3 - 1) (by omega)
        refine ⟨(nI (k - (1 + lwN y 3))), _, fun g w => ?_, (show HI (mkH b' po' bs' r' n' t' N' (hs (1 + lwN y 3 - 1)) (k - (1 + lwN y 3)) (fun i => hs (i + (1 + lwN y 3))) kp im is sd) from ⟨G', by omega, hsd, fun i hi => Hh (i + (1 + lwN y 3)) (by omega), Hi⟩)⟩
        obtain ⟨g', d, w', F⟩ := O_undo (L := L) (b' := b') (po' := po') (bs' := bs') (r' := r') (n' := n') (t' := t') (N' := N') hk (show 1 ≤ 1 + lwN y 3 by omega) hj g w
        refine ⟨g', ?_, w', F⟩
        simp only [e6_26, cq, Nat.reduceLT, Nat.reduceLeDiff, Nat.reduceAdd, Nat.reduceMul, Nat.reduceEqDiff, if_true, if_false, e6_69, e6_70, e6_71, e6_72, e6_73, e6_76, e6_77, e6_80, en_2, en_119, i_1, L3, nI_add, d, lvH_Hq, Option.bind_some, psh_i, psh_n, Hq_G, Hq_setG, upf_same, upf_upf]
      · refine ⟨(-1000000003), _, fun g w => ?_, (show HI (mkH b po bs r n t N m k hs kp im is sd) from ⟨G, hk, hsd, Hh, Hi⟩)⟩
        obtain ⟨g', d, w', F⟩ := O_undo2 (L := L) hk (show 1 ≤ 1 + lwN y 3 by omega) (by omega) hj g w
        refine ⟨g', ?_, w', F⟩
        simp only [e6_26, cq, Nat.reduceLT, Nat.reduceLeDiff, Nat.reduceAdd, Nat.reduceMul, Nat.reduceEqDiff, if_true, if_false, e6_69, e6_70, e6_71, e6_72, e6_73, e6_76, e6_77, e6_80, en_2, en_119, i_1, L3, nI_add, d, lvH_Hq, Option.bind_some, psh_i, psh_n, Hq_G, Hq_setG, upf_same, upf_upf]
    · by_cases q2 : q = 2
      · subst q2
        have c7 : (nI (lwN y 7) = 0) = (lwN y 7 = 0) := propext (nI_eq (b := 0) (by have := lwN_lt (x := y) (n := 7) (by decide); omega) (by omega))
        have c2 : (nI (lwN y 2) = 0) = (lwN y 2 = 0) := propext (nI_eq (b := 0) (by have := lwN_lt (x := y) (n := 2) (by decide); omega) (by omega))
        by_cases z7 : lwN y 7 = 0
        · refine ⟨(nI N), _, fun g w => ?_, (show HI (mkH b po bs r n 0 0 (mNew (nI b) (nI po) (nI bs) (nI r) (nI n)) 0 hs kp im is sd) from ⟨GV_new ok, Nat.zero_le _, hsd, fun i hi => by omega, Hi⟩)⟩
          obtain ⟨g', d, w', F⟩ := O_clear (L := L) G g w
          refine ⟨g', ?_, w', F⟩
          simp only [e6_26, cq, Nat.reduceLT, Nat.reduceLeDiff, Nat.reduceAdd, Nat.reduceMul, Nat.reduceEqDiff, if_true, if_false, e6_81, e6_82, e6_84, e6_87, en_2, L7, c7, z7, zz, not_true_eq_false, e6_90, e6_91, e6_94, en_154, e6_118, i_1, d, lvH_Hq, Option.bind_some, psh_i, psh_n, Hq_G, Hq_setG, upf_same, upf_upf]
        · by_cases z2 : lwN y 2 = 0
          · refine ⟨(nI 1), _, fun g w => ?_, (show HI (mkH b po bs r n t N m 0 hs (setB kp 0) (upf im 0 m) (upf is 0 sd) sd) from ⟨G, Nat.zero_le _, hsd, fun i hi => by omega, fun i hi z => ?_⟩)⟩
            · obtain ⟨g', d, w', F⟩ := O_keep (L := L) G (show 0 < 2 by decide) g w
              refine ⟨g', ?_, w', F⟩
              simp only [e6_26, cq, Nat.reduceLT, Nat.reduceLeDiff, Nat.reduceAdd, Nat.reduceMul, Nat.reduceEqDiff, if_true, if_false, e6_81, e6_82, e6_84, e6_87, en_2, L7, c7, z7, zz, not_false_eq_true, e6_97, e6_98, e6_99, e6_102, en_2, L2, c2, z2, zz, not_true_eq_false, e6_105, e6_106, e6_107, e6_110, en_117, e6_118, i_1, d, lvH_Hq, Option.bind_some, psh_i, psh_n, Hq_G, Hq_setG, upf_same, upf_upf]
            · by_cases e : i = 0
              · rw [e, upf_same, upf_same]
                exact ⟨⟨_, _, _, _, _, _, _, G⟩, hsd⟩
              · rw [upf_ne e, upf_ne e]
                refine Hi i hi ?_
                unfold setB at z
                rwa [if_neg e] at z
          · by_cases zk : kp 0 = true
            · obtain ⟨⟨b', po', bs', r', n', t', N', G'⟩, his⟩ := Hi 0 (by decide) zk
              refine ⟨(nI 1), _, fun g w => ?_, (show HI (mkH b' po' bs' r' n' t' N' (im 0) 0 hs kp im is (is 0)) from ⟨G', Nat.zero_le _, his, fun i hi => by omega, Hi⟩)⟩
              obtain ⟨g', d, w', F⟩ := O_back (L := L) (b' := b') (po' := po') (bs' := bs') (r' := r') (n' := n') (t' := t') (N' := N') (show 0 < 2 by decide) zk his g w
              refine ⟨g', ?_, w', F⟩
              simp only [e6_26, cq, Nat.reduceLT, Nat.reduceLeDiff, Nat.reduceAdd, Nat.reduceMul, Nat.reduceEqDiff, if_true, if_false, e6_81, e6_82, e6_84, e6_87, en_2, L7, c7, z7, zz, not_false_eq_true, e6_97, e6_98, e6_99, e6_102, en_2, L2, c2, z2, zz, e6_113, e6_114, e6_115, e6_118, en_138, i_1, d, lvH_Hq, Option.bind_some, psh_i, psh_n, Hq_G, Hq_setG, upf_same, upf_upf]
            · refine ⟨(-1000000003), _, fun g w => ?_, (show HI (mkH b po bs r n t N m k hs kp im is sd) from ⟨G, hk, hsd, Hh, Hi⟩)⟩
              obtain ⟨g', d, w', F⟩ := O_back2 (L := L) (show 0 < 2 by decide) zk g w
              refine ⟨g', ?_, w', F⟩
              simp only [e6_26, cq, Nat.reduceLT, Nat.reduceLeDiff, Nat.reduceAdd, Nat.reduceMul, Nat.reduceEqDiff, if_true, if_false, e6_81, e6_82, e6_84, e6_87, en_2, L7, c7, z7, zz, not_false_eq_true, e6_97, e6_98, e6_99, e6_102, en_2, L2, c2, z2, zz, e6_113, e6_114, e6_115, e6_118, en_138, i_1, d, lvH_Hq, Option.bind_some, psh_i, psh_n, Hq_G, Hq_setG, upf_same, upf_upf]
      · by_cases q3 : q = 3
        · subst q3
          have c4 : (nI (lwN y 4) = 0) = (lwN y 4 = 0) := propext (nI_eq (b := 0) (by have := lwN_lt (x := y) (n := 4) (by decide); omega) (by omega))
          by_cases z4 : lwN y 4 = 0
          · by_cases hl : lst m = 5
            · refine ⟨(-1000000003), _, fun g w => ?_, (show HI (mkH b po bs r n t N m k hs kp im is sd) from ⟨G, hk, hsd, Hh, Hi⟩)⟩
              obtain ⟨g', d, w', F⟩ := O_run0 (L := L) hl g w
              refine ⟨g', ?_, w', F⟩
              simp only [e6_26, cq, Nat.reduceLT, Nat.reduceLeDiff, Nat.reduceAdd, Nat.reduceMul, Nat.reduceEqDiff, if_true, if_false, e6_119, e6_120, e6_121, e6_124, en_2, L4, c4, z4, zz, not_true_eq_false, e6_127, e6_128, e6_131, en_168, e6_140, i_1, d, lvH_Hq, Option.bind_some, psh_i, psh_n, Hq_G, Hq_setG, upf_same, upf_upf]
            · obtain ⟨t', G'⟩ := GV_fw 41 m 0 t G
              refine ⟨(nI (fw (wN b + n) 41 m 0).2), _, fun g w => ?_, HI_of (t' := t') ⟨G, hk, hsd, Hh, Hi⟩ G'⟩
              obtain ⟨g', d, w', F⟩ := O_run (L := L) (t' := t') G hk hl g w
              refine ⟨g', ?_, w', F⟩
              simp only [e6_26, cq, Nat.reduceLT, Nat.reduceLeDiff, Nat.reduceAdd, Nat.reduceMul, Nat.reduceEqDiff, if_true, if_false, e6_119, e6_120, e6_121, e6_124, en_2, L4, c4, z4, zz, not_true_eq_false, e6_127, e6_128, e6_131, en_168, e6_140, i_1, d, lvH_Hq, Option.bind_some, psh_i, psh_n, Hq_G, Hq_setG, upf_same, upf_upf]
          · refine ⟨(tlM m N (wN b + n) (clN b r n) k sd 0 (fun _ => 0) (fun _ => 0) 9), _, fun g w => ?_, (show HI (mkH b po bs r n t N m k hs kp im is sd) from ⟨G, hk, hsd, Hh, Hi⟩)⟩
            obtain ⟨g', d, w', F⟩ := O_told (L := L) G (show 9 < 19 by decide) g w
            refine ⟨g', ?_, w', F⟩
            simp only [e6_26, cq, Nat.reduceLT, Nat.reduceLeDiff, Nat.reduceAdd, Nat.reduceMul, Nat.reduceEqDiff, if_true, if_false, e6_119, e6_120, e6_121, e6_124, en_2, L4, c4, z4, zz, not_false_eq_true, e6_134, e6_135, e6_137, e6_140, en_186, i_1, d, lvH_Hq, Option.bind_some, psh_i, psh_n, Hq_G, Hq_setG, upf_same, upf_upf]
        · -- step, begin
          have ckk : (nI kk ≤ 0) = (kk ≤ 0) := propext (nI_leI (b := 0) (by omega) (by omega))
          by_cases zk : kk = 0
          · subst zk
            have hu : m.P p 0 = -1 := by
              by_cases z : m.P p 0 = -1
              · exact z
              · have := hpos.mpr z
                omega
            have dl : ∀ {h : Hp}, Den 2 [.int y, .int (nI r)] h = some (some (nI (lwN y r)), h) := D_low (by omega) (by omega)
            have hvr := lwN_lt (x := y) (n := r) (by omega)
            have e3 : tlM m N (wN b + n) (clN b r n) k sd 0 (fun _ => 0) (fun _ => 0) 3 = nI r := G.1.1.2.1.2.2.2.1
            by_cases hN : N < 7
            · refine ⟨(nI N), _, fun g w => ?_, HI_of ⟨G, hk, hsd, Hh, Hi⟩ (GV_beg G hpl hu hN hvr (x := nI (lwN y r)) (fun _ => rfl))⟩
              obtain ⟨g1, d1, w1, F1⟩ := O_told (L := L) G (show 3 < 19 by decide) g w
              rw [e3] at d1
              obtain ⟨g', d, w', F⟩ := O_beg (L := L) G hk hpl (y := nI (lwN y r)) (fun _ => ⟨_, hvr, rfl⟩) hu hN g1 w1
              refine ⟨g', ?_, w', frC_t F1 F⟩
              simp only [e6_26, cq, q0, q1, q2, q3, Nat.reduceLT, Nat.reduceLeDiff, Nat.reduceAdd, Nat.reduceMul, Nat.reduceEqDiff, if_true, if_false, e6_141, e6_143, ckk, Nat.le_refl, e6_160, e6_161, e6_162, e6_163, e6_164, e6_165, e6_168, e6_171, e6_174, en_2, en_166, en_186, i_1, d1, dl, d, lvH_Hq, Option.bind_some, psh_i, psh_n, Hq_G, Hq_setG, upf_same, upf_upf]
            · have hN7 : N = 7 := by
                have := G.1.1.2.2.2.1
                omega
              subst hN7
              refine ⟨(-1000000004), _, fun g w => ?_, (show HI (mkH b po bs r n t 7 m k hs kp im is sd) from ⟨G, hk, hsd, Hh, Hi⟩)⟩
              obtain ⟨g1, d1, w1, F1⟩ := O_told (L := L) G (show 3 < 19 by decide) g w
              rw [e3] at d1
              obtain ⟨g', d, w', F⟩ := O_beg7 (L := L) G hpl (y := nI (lwN y r)) (fun _ => ⟨_, hvr, rfl⟩) hu g1 w1
              refine ⟨g', ?_, w', frC_t F1 F⟩
              simp only [e6_26, cq, q0, q1, q2, q3, Nat.reduceLT, Nat.reduceLeDiff, Nat.reduceAdd, Nat.reduceMul, Nat.reduceEqDiff, if_true, if_false, e6_141, e6_143, ckk, Nat.le_refl, e6_160, e6_161, e6_162, e6_163, e6_164, e6_165, e6_168, e6_171, e6_174, en_2, en_166, en_186, i_1, d1, dl, d, lvH_Hq, Option.bind_some, psh_i, psh_n, Hq_G, Hq_setG, upf_same, upf_upf]
          · have hu : ¬ m.P p 0 = -1 := hpos.mp (by omega)
            have dl : ∀ {h : Hp}, Den 2 [.int y, .int (nI kk)] h = some (some (nI (lwN y kk)), h) := D_low (by omega) (by omega)
            have hvr := lwN_lt (x := y) (n := kk) (by omega)
            refine ⟨(b2 ((mStp m p (wN b + n) (nI (lwN y kk))).P p 0 = -1)), _, fun g w => ?_, HI_of ⟨G, hk, hsd, Hh, Hi⟩ (GV_step G p5 hu ek k7 hvr)⟩
            obtain ⟨g', d, w', F⟩ := O_step (L := L) G hk hpl hu ek k7 hvr g w
            refine ⟨g', ?_, w', F⟩
            simp only [e6_26, cq, q0, q1, q2, q3, Nat.reduceLT, Nat.reduceLeDiff, Nat.reduceAdd, Nat.reduceMul, Nat.reduceEqDiff, if_true, if_false, e6_141, e6_143, ckk, show ¬ kk ≤ 0 from by omega, e6_146, e6_147, e6_148, e6_149, e6_151, e6_154, e6_157, en_2, en_169, e6_174, i_1, dl, d, lvH_Hq, Option.bind_some, psh_i, psh_n, Hq_G, Hq_setG, upf_same, upf_upf]
end LW
