/-! THE MODEL'S CALLS: build -/
abbrev bdIn (x1 x2 x3 x4 x5 : Int32) : Prop := (nI 0 ≤ x1 ∧ x1 ≤ nI 5) ∧ (nI 0 ≤ x2 ∧ x2 ≤ nI 1) ∧ (nI 0 ≤ x3 ∧ x3 ≤ nI 2) ∧ (nI 2 ≤ x4 ∧ x4 ≤ nI 4) ∧ (nI 1 ≤ x5 ∧ x5 ≤ nI 3)
theorem bdIn_n {x1 x2 x3 x4 x5 : Int32} (h : bdIn x1 x2 x3 x4 x5) : ∃ b po ba r n, b < 6 ∧ po < 2 ∧ ba < 3 ∧ 2 ≤ r ∧ r ≤ 4 ∧ 1 ≤ n ∧ n ≤ 3 ∧ x1 = nI b ∧ x2 = nI po ∧ x3 = nI ba ∧ x4 = nI r ∧ x5 = nI n := by
  obtain ⟨h1, h2, h3, h4, h5⟩ := h
  obtain ⟨a1, -, b1, e1⟩ := (rng_n (by omega) (by omega)).mp h1
  obtain ⟨a2, -, b2, e2⟩ := (rng_n (by omega) (by omega)).mp h2
  obtain ⟨a3, -, b3, e3⟩ := (rng_n (by omega) (by omega)).mp h3
  obtain ⟨a4, c4, b4, e4⟩ := (rng_n (by omega) (by omega)).mp h4
  obtain ⟨a5, c5, b5, e5⟩ := (rng_n (by omega) (by omega)).mp h5
  exact ⟨a1, a2, a3, a4, a5, by omega, by omega, by omega, c4, b4, c5, b5, e1, e2, e3, e4, e5⟩
theorem bd_n {b po ba r n : Nat} (hb : b < 6) (hpo : po < 2) (hba : ba < 3) (hr : 2 ≤ r) (hr4 : r ≤ 4) (hn : 1 ≤ n) (hn3 : n ≤ 3) : bdIn (nI b) (nI po) (nI ba) (nI r) (nI n) :=
  ⟨(rng_n (by omega) (by omega)).mpr ⟨b, by omega, by omega, rfl⟩, (rng_n (by omega) (by omega)).mpr ⟨po, by omega, by omega, rfl⟩, (rng_n (by omega) (by omega)).mpr ⟨ba, by omega, by omega, rfl⟩, (rng_n (by omega) (by omega)).mpr ⟨r, by omega, by omega, rfl⟩, (rng_n (by omega) (by omega)).mpr ⟨n, by omega, by omega, rfl⟩⟩
theorem okSh_or {b po ba r n : Nat} : okSh b po ba r n ↔ b < 6 ∧ po < 2 ∧ ba < 3 ∧ 2 ≤ r ∧ r ≤ 4 ∧ 1 ≤ n ∧ n ≤ 3 ∧ (¬ b = 1 ∨ r = 2) ∧ (¬ b = 3 ∨ n = 1 ∧ ba = 1) ∧ (¬ b = 4 ∨ ba = 1) ∧ (¬ b = 5 ∨ ba = 2) := by
  have im : ∀ P Q : Prop, (P → Q) ↔ (¬ P ∨ Q) := fun P Q => ⟨fun h => (Classical.em P).elim (fun p => Or.inr (h p)) Or.inl, fun h p => h.elim (fun z => absurd p z) id⟩
  unfold okSh
  rw [im, im, im, im]
section RR
variable {L : Nat} {g : Nat → Nat → Int32} {m : Sx} {k : Nat} {hs : Nat → Sx} {kp : Nat → Bool} {im : Nat → Sx} {is : Nat → Nat} {sd bk : Nat} {ba bv : Nat → Int32} {rs : Nat → Sx} {b po bs r n t N : Nat} {f : Nat → Int32} {x1 x2 x3 x4 x5 : Int32} {h : Hp}
theorem in05 {x : Int32} {h : Hp} : Den 10 [.long x.toInt64, .long 0, .long 5] h = some (some (b2 (nI 0 ≤ x ∧ x ≤ nI 5)), h) := M_in (by decide) (by decide)
theorem in01' {x : Int32} {h : Hp} : Den 10 [.long x.toInt64, .long 0, .long 1] h = some (some (b2 (nI 0 ≤ x ∧ x ≤ nI 1)), h) := M_in (by decide) (by decide)
theorem in02 {x : Int32} {h : Hp} : Den 10 [.long x.toInt64, .long 0, .long 2] h = some (some (b2 (nI 0 ≤ x ∧ x ≤ nI 2)), h) := M_in (by decide) (by decide)
theorem in24 {x : Int32} {h : Hp} : Den 10 [.long x.toInt64, .long 2, .long 4] h = some (some (b2 (nI 2 ≤ x ∧ x ≤ nI 4)), h) := M_in (by decide) (by decide)
theorem in13 {x : Int32} {h : Hp} : Den 10 [.long x.toInt64, .long 1, .long 3] h = some (some (b2 (nI 1 ≤ x ∧ x ≤ nI 3)), h) := M_in (by decide) (by decide)
theorem M_build0 (hx : ¬ bdIn x1 x2 x3 x4 x5) : Den 79 [.ref 86, .int x1, .int x2, .int x3, .int x4, .int x5] (HP L g) = some (some (-1000000002), HP L g) := by
  rw [D0_79]
  simp only [e79_0, e79_1, e79_2, e79_3, e79_6, e79_9, e79_12, e79_13, e79_14, e79_15, e79_16, e79_19, e79_22, e79_23, e79_24, e79_25, e79_28, e79_31, e79_34, e79_36, e79_37, e79_40, e79_43, e79_46, e79_49, e79_51, e79_52, e79_53, e79_56, e79_59, e79_62, e79_63, e79_67, e79_69, e79_71, e79_74, e79_76, e79_77, e79_78, e79_79, e79_82, e79_84, e79_85, e79_88, e79_89, e79_90, e79_93, e79_95, e79_96, e79_99, e79_100, e79_101, e79_104, e79_105, e79_106, e79_109, e79_110, e79_111, e79_114, e79_115, e79_116, e79_119, e79_120, e79_121, e79_124, e79_125, e79_128, e79_129, e79_131, e79_133, e79_136, e79_138, e79_139, e79_140, e79_141, e79_142, e79_143, e79_145, e79_147, e79_150, e79_151, e79_154, en_10, en_44, en_46, i_86, in05, in01', in02, in24, in13, b2_0, lvH_Hq, Option.bind_some, psh_i, psh_n]
  have e : ∀ {v : Value}, Rr 79 66 [.ref 86, .int x1, .int x2, .int x3, .int x4, .int x5, v, .retAddr 0] [] (HP L g) = some (some (-1000000002), HP L g) := by
    intro v
    rw [e79_66]
    simp only [e79_0, e79_1, e79_2, e79_3, e79_6, e79_9, e79_12, e79_13, e79_14, e79_15, e79_16, e79_19, e79_22, e79_23, e79_24, e79_25, e79_28, e79_31, e79_34, e79_36, e79_37, e79_40, e79_43, e79_46, e79_49, e79_51, e79_52, e79_53, e79_56, e79_59, e79_62, e79_63, e79_67, e79_69, e79_71, e79_74, e79_76, e79_77, e79_78, e79_79, e79_82, e79_84, e79_85, e79_88, e79_89, e79_90, e79_93, e79_95, e79_96, e79_99, e79_100, e79_101, e79_104, e79_105, e79_106, e79_109, e79_110, e79_111, e79_114, e79_115, e79_116, e79_119, e79_120, e79_121, e79_124, e79_125, e79_128, e79_129, e79_131, e79_133, e79_136, e79_138, e79_139, e79_140, e79_141, e79_142, e79_143, e79_145, e79_147, e79_150, e79_151, e79_154, en_10, en_44, en_46, zz, not_true_eq_false, if_false]
  by_cases c1 : nI 0 ≤ x1 ∧ x1 ≤ nI 5
  · by_cases c2 : nI 0 ≤ x2 ∧ x2 ≤ nI 1
    · by_cases c3 : nI 0 ≤ x3 ∧ x3 ≤ nI 2
      · by_cases c4 : nI 2 ≤ x4 ∧ x4 ≤ nI 4
        · by_cases c5 : nI 1 ≤ x5 ∧ x5 ≤ nI 3
          · exact absurd ⟨c1, c2, c3, c4, c5⟩ hx
          · rw [if_neg (fun z => z c1), if_neg (fun z => z c2), if_neg (fun z => z c3), if_neg (fun z => z c4), if_pos c5, e]
        · rw [if_neg (fun z => z c1), if_neg (fun z => z c2), if_neg (fun z => z c3), if_pos c4, e]
      · rw [if_neg (fun z => z c1), if_neg (fun z => z c2), if_pos c3, e]
    · rw [if_neg (fun z => z c1), if_pos c2, e]
  · rw [if_pos c1, e]
theorem L_build (hb : b < 6) (hpo : po < 2) (hba : bs < 3) (hr : 2 ≤ r) (hr4 : r ≤ 4) (hn : 1 ≤ n) (hn3 : n ≤ 3) : (okSh b po bs r n → Den 79 [.ref 86, .int (nI b), .int (nI po), .int (nI bs), .int (nI r), .int (nI n)] (HP L g) = Rr 79 128 [.ref 86, .int (nI b), .int (nI po), .int (nI bs), .int (nI r), .int (nI n), .int (nI 1), .retAddr 0] [] (HP L g)) ∧ (¬ okSh b po bs r n → Den 79 [.ref 86, .int (nI b), .int (nI po), .int (nI bs), .int (nI r), .int (nI n)] (HP L g) = Rr 79 124 [.ref 86, .int (nI b), .int (nI po), .int (nI bs), .int (nI r), .int (nI n), .int (nI 1), .retAddr 0] [] (HP L g)) := by
  obtain ⟨c1, c2, c3, c4, c5⟩ := bd_n hb hpo hba hr hr4 hn hn3
  have d1 : b2 (nI 0 ≤ nI b ∧ nI b ≤ nI 5) = nI 1 := if_pos c1
  have d2 : b2 (nI 0 ≤ nI po ∧ nI po ≤ nI 1) = nI 1 := if_pos c2
  have d3 : b2 (nI 0 ≤ nI bs ∧ nI bs ≤ nI 2) = nI 1 := if_pos c3
  have d4 : b2 (nI 2 ≤ nI r ∧ nI r ≤ nI 4) = nI 1 := if_pos c4
  have d5 : b2 (nI 1 ≤ nI n ∧ nI n ≤ nI 3) = nI 1 := if_pos c5
  have kb : ∀ i, i < 7 → (nI b = nI i) = (b = i) := fun i hi => propext (nI_eq (by omega) (by omega))
  have ka : ∀ i, i < 7 → (nI bs = nI i) = (bs = i) := fun i hi => propext (nI_eq (by omega) (by omega))
  have kr : (nI 2 < nI r) = (2 < r) := propext (nI_ltI (by omega) (by omega))
  have kn : (nI 1 < nI n) = (1 < n) := propext (nI_ltI (by omega) (by omega))
  rw [D0_79]
  simp only [e79_0, e79_1, e79_2, e79_3, e79_6, e79_9, e79_12, e79_13, e79_14, e79_15, e79_16, e79_19, e79_22, e79_23, e79_24, e79_25, e79_28, e79_31, e79_34, e79_36, e79_37, e79_40, e79_43, e79_46, e79_49, e79_51, e79_52, e79_53, e79_56, e79_59, e79_62, e79_63, e79_67, e79_69, e79_71, e79_74, e79_76, e79_77, e79_78, e79_79, e79_82, e79_84, e79_85, e79_88, e79_89, e79_90, e79_93, e79_95, e79_96, e79_99, e79_100, e79_101, e79_104, e79_105, e79_106, e79_109, e79_110, e79_111, e79_114, e79_115, e79_116, e79_119, e79_120, e79_121, e79_125, e79_129, e79_131, e79_133, e79_136, e79_138, e79_139, e79_140, e79_141, e79_142, e79_143, e79_145, e79_147, e79_150, e79_151, e79_154, en_10, en_44, en_46, i_86, in05, in01', in02, in24, in13, d1, d2, d3, d4, d5, one_n0, if_false, not_false_eq_true, if_true, kb 1 (by omega), kb 3 (by omega), kb 4 (by omega), kb 5 (by omega), ka 1 (by omega), ka 2 (by omega), kr, kn, lvH_Hq, Option.bind_some, psh_i, psh_n]
  have b6 : b = 0 ∨ b = 1 ∨ b = 2 ∨ b = 3 ∨ b = 4 ∨ b = 5 := by omega
  constructor
  · intro ok
    obtain ⟨-, -, -, -, -, -, -, o1, o2, o3, o4⟩ := ok
    clear kb d1 c1 hb
    rcases b6 with e | e | e | e | e | e
    · subst e; simp (config := { decide := true }) only [not_false_eq_true, not_true_eq_false, if_true, if_false]
    · have := o1 e
      subst e; subst this; simp (config := { decide := true }) only [not_false_eq_true, not_true_eq_false, if_true, if_false]
    · subst e; simp (config := { decide := true }) only [not_false_eq_true, not_true_eq_false, if_true, if_false]
    · obtain ⟨z1, z2⟩ := o2 e
      subst e; subst z1; subst z2; simp (config := { decide := true }) only [not_false_eq_true, not_true_eq_false, if_true, if_false]
    · have z2 := o3 e
      subst e; subst z2; simp (config := { decide := true }) only [not_false_eq_true, not_true_eq_false, if_true, if_false]
    · have z2 := o4 e
      subst e; subst z2; simp (config := { decide := true }) only [not_false_eq_true, not_true_eq_false, if_true, if_false]
  · intro ok
    have ok := fun z => ok (okSh_or.mpr z)
    clear kb d1 c1
    rcases b6 with e | e | e | e | e | e
    · exact absurd (by omega) ok
    · have z : 2 < r := by
        by_cases z : 2 < r
        · exact z
        · exact absurd (by omega) ok
      subst e; simp (config := { decide := true }) only [z, not_false_eq_true, not_true_eq_false, if_true, if_false]
    · exact absurd (by omega) ok
    · by_cases z : 1 < n
      · subst e; simp (config := { decide := true }) only [z, not_false_eq_true, not_true_eq_false, if_true, if_false]
      · have z2 : ¬ bs = 1 := fun z2 => absurd (by omega) ok
        subst e; simp (config := { decide := true }) only [z, z2, not_false_eq_true, not_true_eq_false, if_true, if_false]
    · have z2 : ¬ bs = 1 := fun z2 => absurd (by omega) ok
      subst e; simp (config := { decide := true }) only [z2, not_false_eq_true, not_true_eq_false, if_true, if_false]
    · have z2 : ¬ bs = 2 := fun z2 => absurd (by omega) ok
      subst e; simp (config := { decide := true }) only [z2, not_false_eq_true, not_true_eq_false, if_true, if_false]
theorem M_build1 (hb : b < 6) (hpo : po < 2) (hba : bs < 3) (hr : 2 ≤ r) (hr4 : r ≤ 4) (hn : 1 ≤ n) (hn3 : n ≤ 3) (ok : ¬ okSh b po bs r n) : Den 79 [.ref 86, .int (nI b), .int (nI po), .int (nI bs), .int (nI r), .int (nI n)] (HP L g) = some (some (-1000000003), HP L g) := by
  rw [(L_build hb hpo hba hr hr4 hn hn3).2 ok, e79_124]
  simp only [e79_1, e79_2, e79_3, e79_6, e79_9, e79_12, e79_13, e79_14, e79_15, e79_16, e79_19, e79_22, e79_23, e79_24, e79_25, e79_28, e79_31, e79_34, e79_36, e79_37, e79_40, e79_43, e79_46, e79_49, e79_51, e79_52, e79_53, e79_56, e79_59, e79_62, e79_63, e79_66, e79_67, e79_69, e79_71, e79_74, e79_76, e79_77, e79_78, e79_79, e79_82, e79_84, e79_85, e79_88, e79_89, e79_90, e79_93, e79_95, e79_96, e79_99, e79_100, e79_101, e79_104, e79_105, e79_106, e79_109, e79_110, e79_111, e79_114, e79_115, e79_116, e79_119, e79_120, e79_121, e79_125, e79_128, e79_129, e79_131, e79_133, e79_136, e79_138, e79_139, e79_140, e79_141, e79_142, e79_143, e79_145, e79_147, e79_150, e79_151, e79_154, en_10, en_44, en_46, one_n0, if_false]
theorem M_build (ok : okSh b po bs r n) (T : MT m k hs kp im is sd bk ba bv g) : ∃ g', Den 79 [.ref 86, .int (nI b), .int (nI po), .int (nI bs), .int (nI r), .int (nI n)] (HP L g) = some (some (nI (wN b + n)), HP L g') ∧ MT (mNew (nI b) (nI po) (nI bs) (nI r) (nI n)) 0 hs kp im is sd bk ba bv g' ∧ frM g g' := by
  obtain ⟨rs, g1, h, h2, h3⟩ := M_new (L := L) T (v1 := nI b) (v2 := nI po) (v3 := nI bs) (v4 := nI r) (v5 := nI n)
  have hn : prcs (mNew (nI b) (nI po) (nI bs) (nI r) (nI n)) = nI (wN b + n) := prcs_b (b := b) (po := po) (ba := bs) (r := r) ⟨rfl, rfl, rfl, rfl, rfl⟩ ok.1
  refine ⟨_, ?_, h2, h3⟩
  have ok2 := ok
  obtain ⟨o1, o2, o3, o4, o5, o6, o7, -⟩ := ok2
  rw [(L_build o1 o2 o3 o4 o5 o6 o7).1 ok, e79_128]
  simp only [e79_1, e79_2, e79_3, e79_6, e79_9, e79_12, e79_13, e79_14, e79_15, e79_16, e79_19, e79_22, e79_23, e79_24, e79_25, e79_28, e79_31, e79_34, e79_36, e79_37, e79_40, e79_43, e79_46, e79_49, e79_51, e79_52, e79_53, e79_56, e79_59, e79_62, e79_63, e79_66, e79_67, e79_69, e79_71, e79_74, e79_76, e79_77, e79_78, e79_79, e79_82, e79_84, e79_85, e79_88, e79_89, e79_90, e79_93, e79_95, e79_96, e79_99, e79_100, e79_101, e79_104, e79_105, e79_106, e79_109, e79_110, e79_111, e79_114, e79_115, e79_116, e79_119, e79_120, e79_121, e79_124, e79_125, e79_129, e79_131, e79_133, e79_136, e79_138, e79_139, e79_140, e79_141, e79_142, e79_143, e79_145, e79_147, e79_150, e79_151, e79_154, en_10, en_44, en_46, zz, if_true, i_86, h, M_processes, hn, lvH_Hq, Option.bind_some, psh_i, psh_n, Hq_G, Hq_setG, upf_same, upf_upf]
end RR
