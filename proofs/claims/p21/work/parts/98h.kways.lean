/-! THE CLASS: all ways gone through -/
theorem ud_s {f : Nat → Int32} {k : Nat} {v : Int32} : upd f k v k = v := if_pos rfl
theorem ud_n {f : Nat → Int32} {k j : Nat} {v : Int32} (h : ¬ j = k) : upd f k v j = f j := if_neg h
/-- cells that the walk writes -/
def wkI (i : Nat) : Prop := i = 5 ∨ i = 6 ∨ i = 7 ∨ (10 ≤ i ∧ i < 51) ∨ i = 53 ∨ i = 55 ∨ i = 56 ∨ i = 57
def WC (g0 g : Nat → Nat → Int32) (X : WX) : Prop :=
  (∀ e, e < wDp X → (∃ s, g (10 + e) = lay s ∧ Rl s (wRw X e)) ∧ g 56 e = nI (wNp X e) ∧ g 57 e = nI (wNc X e)) ∧ KX X g ∧ g 7 5 = nI 1 ∧ (∀ i, rwI i → ∃ t, g i = lay t) ∧ ∀ i, ¬ wkI i → g i = g0 i
section RR
variable {L : Nat} {g g' g0 : Nat → Nat → Int32} {c m s : Sx} {b po bs r n t N : Nat} {x y : Int32} {X : WX}
theorem K_open {d : Nat} (hd : d < 41) : Den 32 [.ref 7, .int (nI d)] (HP L g) = some (none, HP L (upf (upf g 56 (upd (g 56) d (nI 0))) 57 (upd (g 57) d (nI 0)))) := by
  have a1 : ¬ nI d < 0 := nI_pos (by omega)
  have a2 : nI d ≤ nI 40 := (nI_leI (by omega) (by omega)).mpr (by omega)
  have a3 : (nI d).toNatClampNeg = d := nI_clamp (by omega)
  have a4 : ¬ 41 ≤ d := by omega
  have b1 : ∀ F, upf g 56 F 57 = g 57 := fun F => rfl
  rw [D0_32]
  simp only [e32_0, e32_1, e32_4, e32_5, e32_7, e32_10, e32_11, e32_12, e32_15, e32_16, e32_17, e32_18, e32_19, e32_22, e32_23, e32_24, e32_25, i_7, f_7_3, f_7_4, b_56, n_56, b_57, n_57, Hq_G, Hq_setG, a1, a2, a3, a4, b1, or_self, not_false_eq_true, if_true, if_false]
theorem K_goOn (I : Iv b po bs r n t N m) (R : Rl s m) {d P0 J0 : Nat} (hd : d < 41) (g55 : g 55 = lay s) (g56 : g 56 d = nI P0) (g57 : g 57 d = nI J0) (hJ0 : J0 ≤ 8) : ∀ e p j (v : Value), p + e = wN b + n → (p = P0 ∧ j = J0 ∨ P0 < p ∧ j = 0) →
    (fnS m e p j = none → Rr 165 19 [.ref 7, .int (nI d), .int (nI p), v] [] (HP L g) = some (some (nI 0), HP L g)) ∧
    (∀ q1 q2, fnS m e p j = some (q1, q2) → Rr 165 19 [.ref 7, .int (nI d), .int (nI p), v] [] (HP L g) = some (some (nI 1), HP L (upf (upf (upf g 56 (upd (g 56) d (nI q1))) 57 (upd (g 57) d (nI (q2 + 1)))) 55 (lay (goC s q1 (nI q2))))))
  | 0, p, j, v, h, hj => by
    have hnp := np_le I.1.1
    have dp : Den 108 [.ref 54] (HP L g) = some (some (nI (wN b + n)), HP L g) := by
      have := D_processes (g := g) (s := s) (st_54 (L := L))
      rwa [upf_eq g55, prcs_b (shC R I.1.2.1) I.1.1.1] at this
    have a4 : nI (wN b + n) ≤ nI p := (nI_leI (by omega) (by omega)).mpr (by omega)
    refine ⟨fun _ => ?_, fun q1 q2 hf => ?_⟩
    · rw [e165_19]
      simp only [e165_0, e165_1, e165_4, e165_5, e165_7, e165_10, e165_11, e165_12, e165_13, e165_16, e165_17, e165_18, e165_20, e165_21, e165_24, e165_27, e165_30, e165_31, e165_32, e165_35, e165_36, e165_37, e165_40, e165_41, e165_44, e165_45, e165_46, e165_49, e165_50, e165_51, e165_52, e165_53, e165_56, e165_57, e165_60, e165_63, e165_66, e165_67, e165_70, e165_71, e165_72, e165_73, e165_74, e165_77, e165_78, e165_79, e165_80, e165_81, e165_82, e165_83, e165_86, e165_87, e165_88, e165_91, e165_92, e165_93, e165_94, e165_97, e165_100, e165_101, en_108, en_112, en_150, i_7, i_54, f_7_2, dp, a4, if_true, zero_01, lvH_Hq, Option.bind_some, psh_i]
    · unfold fnS at hf
      exact absurd hf (by simp only [reduceCtorEq, not_false_eq_true])
  | e + 1, p, j, v, h, hj => by
    have hnp := np_le I.1.1
    have hp5 : p < 5 := by omega
    have dp : Den 108 [.ref 54] (HP L g) = some (some (nI (wN b + n)), HP L g) := by
      have := D_processes (g := g) (s := s) (st_54 (L := L))
      rwa [upf_eq g55, prcs_b (shC R I.1.2.1) I.1.1.1] at this
    obtain ⟨kk, k7, ek, eix, hpos⟩ := chs_ix I ⟨s, R⟩ hp5
    have dc : Den 112 [.ref 54, .int (nI p)] (HP L g) = some (some (nI kk), HP L g) := by
      have := D_choices (g := g) (s := s) (st_54 (L := L)) hp5
      rwa [upf_eq g55, (chs_ok I R hp5).1, ek] at this
    have a1 : (nI d).toNatClampNeg = d := nI_clamp (by omega)
    have a2 : ¬ nI d < 0 := nI_pos (by omega)
    have a3 : ¬ 41 ≤ d := by omega
    have a4 : ¬ nI (wN b + n) ≤ nI p := nI_ge (by omega) (by omega)
    have hj8 : j ≤ 8 := by omega
    have b1 : ∀ F, upf g 56 F 57 = g 57 := fun F => rfl
    have head : Rr 165 19 [.ref 7, .int (nI d), .int (nI p), v] [] (HP L g) = Rr 165 50 [.ref 7, .int (nI d), .int (nI p), v] [.int (nI j)] (HP L g) := by
      rw [e165_19]
      simp only [e165_0, e165_1, e165_4, e165_5, e165_7, e165_10, e165_11, e165_12, e165_13, e165_16, e165_17, e165_18, e165_20, e165_21, e165_24, e165_27, e165_30, e165_31, e165_32, e165_35, e165_36, e165_37, e165_40, e165_41, e165_44, e165_45, e165_46, e165_51, e165_52, e165_53, e165_56, e165_57, e165_60, e165_63, e165_66, e165_67, e165_70, e165_71, e165_72, e165_73, e165_74, e165_77, e165_78, e165_79, e165_80, e165_81, e165_82, e165_83, e165_86, e165_87, e165_88, e165_91, e165_92, e165_93, e165_94, e165_97, e165_100, e165_101, en_108, en_112, en_150, i_7, i_54, f_7_2, f_7_3, a_56, n_56, dp, Hq_G, g56, a1, a2, a3, a4, if_false, or_self, not_false_eq_true, lvH_Hq, Option.bind_some, psh_i]
      rcases hj with ⟨hj, hj2⟩ | ⟨hj, hj2⟩
      · have e1 : nI p = nI P0 := by rw [hj]
        rw [if_neg (fun z => z e1)]
        simp only [e165_0, e165_1, e165_4, e165_5, e165_7, e165_10, e165_11, e165_12, e165_13, e165_16, e165_17, e165_18, e165_20, e165_21, e165_24, e165_27, e165_30, e165_31, e165_32, e165_35, e165_36, e165_37, e165_40, e165_41, e165_44, e165_45, e165_46, e165_51, e165_52, e165_53, e165_56, e165_57, e165_60, e165_63, e165_66, e165_67, e165_70, e165_71, e165_72, e165_73, e165_74, e165_77, e165_78, e165_79, e165_80, e165_81, e165_82, e165_83, e165_86, e165_87, e165_88, e165_91, e165_92, e165_93, e165_94, e165_97, e165_100, e165_101, en_108, en_112, en_150, i_7, f_7_4, a_57, n_57, Hq_G, g57, a1, a2, a3, or_self, not_false_eq_true, hj2]
      · have e1 : ¬ nI p = nI P0 := fun z => by
          have := (nI_eq (by omega) (by omega)).mp z
          omega
        rw [if_pos e1, e165_49, hj2]
    unfold fnS
    rw [head, eix]
    by_cases hlt : j < kk
    · rw [if_pos hlt]
      refine ⟨fun hf => absurd hf (by simp only [reduceCtorEq, not_false_eq_true]), fun q1 q2 hf => ?_⟩
      have h2 := Option.some.inj hf
      have e1 : p = q1 := congrArg Prod.fst h2
      have e2 : j = q2 := congrArg Prod.snd h2
      subst e1
      subst e2
      have c1 : nI j < nI kk := nI_lt hlt (by omega)
      obtain ⟨dg, -⟩ := K_go (L := L) I R hp5 (hpos.mp (by omega)) ek k7 hlt
      have dg := dg 54 55 (upf (upf g 56 (upd (g 56) d (nI p))) 57 (upd (g 57) d (nI (j + 1)))) st_54 g55
      rw [e165_50]
      simp only [e165_0, e165_1, e165_4, e165_5, e165_7, e165_10, e165_11, e165_12, e165_13, e165_16, e165_17, e165_18, e165_20, e165_21, e165_24, e165_27, e165_30, e165_31, e165_32, e165_35, e165_36, e165_37, e165_40, e165_41, e165_44, e165_45, e165_46, e165_49, e165_51, e165_52, e165_53, e165_56, e165_57, e165_60, e165_63, e165_66, e165_67, e165_70, e165_71, e165_72, e165_73, e165_74, e165_77, e165_78, e165_79, e165_80, e165_81, e165_82, e165_83, e165_86, e165_87, e165_88, e165_91, e165_92, e165_93, e165_94, e165_97, e165_100, e165_101, en_108, en_112, en_150, i_7, i_54, f_7_2, f_7_3, f_7_4, b_56, n_56, b_57, n_57, dc, Hq_G, Hq_setG, c1, a1, a2, a3, b1, nI_add, dg, or_self, if_true, not_false_eq_true, one_01, lvH_Hq, Option.bind_some, psh_i]
    · rw [if_neg hlt]
      have c1 : ¬ nI j < nI kk := nI_nlt (by omega) (by omega)
      have ih := K_goOn I R hd g55 g56 g57 hJ0 e (p + 1) 0 (.int (nI j)) (by omega) (Or.inr ⟨by omega, rfl⟩)
      have tail : Rr 165 50 [.ref 7, .int (nI d), .int (nI p), v] [.int (nI j)] (HP L g) = Rr 165 19 [.ref 7, .int (nI d), .int (nI (p + 1)), .int (nI j)] [] (HP L g) := by
        rw [e165_50]
        simp only [e165_0, e165_1, e165_4, e165_5, e165_7, e165_10, e165_11, e165_12, e165_13, e165_16, e165_17, e165_18, e165_20, e165_21, e165_24, e165_27, e165_30, e165_31, e165_32, e165_35, e165_36, e165_37, e165_40, e165_41, e165_44, e165_45, e165_46, e165_51, e165_52, e165_53, e165_56, e165_57, e165_60, e165_63, e165_66, e165_67, e165_70, e165_71, e165_72, e165_73, e165_74, e165_77, e165_78, e165_79, e165_80, e165_81, e165_82, e165_83, e165_86, e165_87, e165_88, e165_91, e165_92, e165_93, e165_94, e165_97, e165_100, e165_101, en_108, en_112, en_150, i_7, f_7_2, dc, c1, if_false, nI_add, lvH_Hq, Option.bind_some, psh_i]
      rw [tail]
      exact ih
theorem K_goOn0 (I : Iv b po bs r n t N m) (R : Rl s m) {d P0 J0 : Nat} (hd : d < 40) (g55 : g 55 = lay s) (g56 : g 56 d = nI P0) (g57 : g 57 d = nI J0) (hJ0 : J0 ≤ 8) (hP0 : P0 ≤ wN b + n) :
    (fnS m (wN b + n - P0) P0 J0 = none → Den 165 [.ref 7, .int (nI d)] (HP L g) = some (some (nI 0), HP L g)) ∧
    (∀ q1 q2, fnS m (wN b + n - P0) P0 J0 = some (q1, q2) → Den 165 [.ref 7, .int (nI d)] (HP L g) = some (some (nI 1), HP L (upf (upf (upf g 56 (upd (g 56) d (nI q1))) 57 (upd (g 57) d (nI (q2 + 1)))) 55 (lay (goC s q1 (nI q2)))))) := by
  have h := K_goOn (L := L) I R (show d < 41 by omega) g55 g56 g57 hJ0 (wN b + n - P0) P0 J0 (.retAddr 0) (by omega) (Or.inl ⟨rfl, rfl⟩)
  have a1 : (nI d).toNatClampNeg = d := nI_clamp (by omega)
  have a2 : ¬ nI d < 0 := nI_pos (by omega)
  have a3 : ¬ 41 ≤ d := by omega
  have a4 : nI d < nI 40 := nI_lt hd (by omega)
  have e : Den 165 [.ref 7, .int (nI d)] (HP L g) = Rr 165 19 [.ref 7, .int (nI d), .int (nI P0), .retAddr 0] [] (HP L g) := by
    rw [D0_165]
    simp only [e165_0, e165_1, e165_4, e165_5, e165_7, e165_10, e165_11, e165_12, e165_13, e165_16, e165_17, e165_18, e165_20, e165_21, e165_24, e165_27, e165_30, e165_31, e165_32, e165_35, e165_36, e165_37, e165_40, e165_41, e165_44, e165_45, e165_46, e165_49, e165_50, e165_51, e165_52, e165_53, e165_56, e165_57, e165_60, e165_63, e165_66, e165_67, e165_70, e165_71, e165_72, e165_73, e165_74, e165_77, e165_78, e165_79, e165_80, e165_81, e165_82, e165_83, e165_86, e165_87, e165_88, e165_91, e165_92, e165_93, e165_94, e165_97, e165_100, e165_101, en_108, en_112, en_150, i_7, f_7_3, a_56, n_56, Hq_G, g56, a1, a2, a3, a4, if_true, if_false, or_self, not_false_eq_true]
  rw [e]
  exact h
/-- a way counted -/
theorem K_count (W : WI b po bs r n N X) (hc : ¬ 500 ≤ wCt X) {d : Nat} (hd : d ≤ 40) (I : Iv b po bs r n t N m) (R : Rl s m) (g55 : g 55 = lay s) (h53 : ∃ t, g 53 = lay t) (K : KX X g) (h5 : g 7 5 = nI 1) :
    ∃ g', Den 152 [.ref 7, .int (nI d), .ref 4] (HP L g) = some (none, HP L g') ∧ KX (wLf X d m (wOk m N)) g' ∧ g' 7 5 = nI 1 ∧ (∃ t, g' 53 = lay t) ∧ ∀ i, ¬ i = 5 → ¬ i = 6 → ¬ i = 7 → ¬ i = 53 → g' i = g i := by
  obtain ⟨w1, w2, w3, w4, w5, w6, w7, w8⟩ := W
  obtain ⟨k6, k7, k8, k9, k10⟩ := K
  have h6 := I.1.2.2.1
  have hN := I.1.2.2.2.1
  have HI := Iv_hI I.1
  have hy := hyEq R.1
  have h6s : s.H 6 = nI N := (R.1.1 6 (by omega)).trans h6
  have ho : hOk (hyC s) N := by
    rw [hy]
    exact HI.1
  have emx : (if nI (wLg X) < nI d then nI d else nI (wLg X)) = nI (if wLg X < d then d else wLg X) := by
    by_cases z : wLg X < d
    · rw [if_pos (nI_lt z (by omega)), if_pos z]
    · rw [if_neg (nI_nlt (by omega) (by omega)), if_neg z]
  obtain ⟨g2, hg, hf⟩ := D_atomic (L := L) (g := upf g 7 (upd (g 7) 10 (nI (if wLg X < d then d else wLg X)))) (s := s) st_54 (by decide) (by decide) g55 h6s hN ho
  rw [hy] at hg
  have f7 : g2 7 = upd (g 7) 10 (nI (if wLg X < d then d else wLg X)) := hf 7 (by decide) (by decide)
  have f53 : g2 53 = g 53 := hf 53 (by decide) (by decide)
  have f55 : g2 55 = g 55 := hf 55 (by decide) (by decide)
  have fo : ∀ i, ¬ i = 5 → ¬ i = 6 → ¬ i = 7 → g2 i = g i := fun i i5 i6 i7 => (hf i i5 i6).trans (upf_ne i7)
  obtain ⟨lg, elg⟩ : ∃ lg, lg = (if wLg X < d then d else wLg X) := ⟨_, rfl⟩
  rw [← elg] at emx hg f7
  have u6 : ∀ v : Int32, upd (g 7) 10 v 6 = g 7 6 := fun v => rfl
  have u7 : ∀ v : Int32, upd (g 7) 10 v 7 = g 7 7 := fun v => rfl
  have u8 : ∀ v : Int32, upd (g 7) 10 v 8 = g 7 8 := fun v => rfl
  by_cases hok : hAt (hyM m) N
  · have eok : wOk m N = true := if_pos (b2c_t hok)
    rw [b2c_t hok] at hg
    rw [eok]
    refine ⟨upf g2 7 (upd (g2 7) 6 (nI (wCt X + 1))), ?_, ⟨?_, ?_, ?_, ?_, ?_⟩, ?_, ?_, fun i i5 i6 i7 i53 => (upf_ne i7).trans (fo i i5 i6 i7)⟩
    · rw [D0_152]
      simp only [e152_0, e152_1, e152_2, e152_5, e152_6, e152_9, e152_12, e152_13, e152_14, e152_17, e152_20, e152_23, e152_24, e152_27, e152_28, e152_31, e152_32, e152_33, e152_36, e152_39, e152_40, e152_41, e152_44, e152_45, e152_48, e152_49, e152_50, e152_53, e152_56, e152_57, e152_58, e152_61, e152_62, e152_63, e152_67, e152_68, e152_71, e152_72, e152_73, e152_76, en_23, en_129, i_4, i_7, i_54, f_7_2, Hq_G, Hq_setG, k10, emx, hg, one_n0, not_false_eq_true, if_true, lvH_Hq, Option.bind_some, psh_i]
      rw [e152_66]
      simp only [e152_0, e152_1, e152_2, e152_5, e152_6, e152_9, e152_12, e152_13, e152_14, e152_17, e152_20, e152_23, e152_24, e152_27, e152_28, e152_31, e152_32, e152_33, e152_36, e152_39, e152_40, e152_41, e152_44, e152_45, e152_48, e152_49, e152_50, e152_53, e152_56, e152_57, e152_58, e152_61, e152_62, e152_63, e152_67, e152_68, e152_71, e152_72, e152_73, e152_76, en_23, en_129, i_7, Hq_G, Hq_setG, f7, u6, k6, nI_add]
    · exact rfl
    · show g2 7 7 = _
      rw [f7]
      exact k7
    · show g2 7 8 = _
      rw [f7]
      exact k8
    · intro hb
      have hb : 1 ≤ wBd X := hb
      obtain ⟨z1, s', z2, z3⟩ := k9 hb
      refine ⟨?_, s', ?_, z3⟩
      · show g2 7 9 = _
        rw [f7]
        exact z1
      · show g2 53 = _
        rw [f53]
        exact z2
    · show g2 7 10 = _
      rw [f7]
      exact congrArg nI elg
    · show g2 7 5 = _
      rw [f7]
      exact h5
    · show ∃ t, g2 53 = lay t
      rw [f53]
      exact h53
  · have eok : wOk m N = false := if_neg (by
      rw [b2c_f hok]
      decide)
    rw [b2c_f hok] at hg
    rw [eok]
    have hff : ¬ false = true := by decide
    by_cases hb0 : wBd X = 0
    · have efb := w7 hb0
      have e8 : g 7 8 = -1 := k8.trans efb
      obtain ⟨t0, ht0⟩ := h53
      have G : g2 55 = lay s := f55.trans g55
      have v1 : ∀ F : Nat → Int32, upf g2 7 F 55 = lay s := fun F => G
      have v2 : ∀ F : Nat → Int32, upf g2 7 F (53 + 0) = lay t0 := fun F => f53.trans ht0
      have dput := D_shPut (g := upf g2 7 (upd (upd (upd (g 7) 10 (nI lg)) 8 (nI (wCt X))) 9 (nI d))) (s := s) (t := t0) (st_54 (L := L)) shl_51 (by omega) (i := 0) (by omega) (v1 _) (v2 _)
      have p1 : ∀ F G : Nat → Int32, upf (upf g2 7 F) (53 + 0) G 7 = F := fun F G => rfl
      have q7 : ∀ a b' c' : Int32, upd (upd (upd (g 7) 10 a) 8 b') 9 c' 7 = g 7 7 := fun _ _ _ => rfl
      have q6 : ∀ a b' c' d' : Int32, upd (upd (upd (upd (g 7) 10 a) 8 b') 9 c') 7 d' 6 = g 7 6 := fun _ _ _ _ => rfl
      refine ⟨upf (upf (upf g2 7 (upd (upd (upd (g 7) 10 (nI lg)) 8 (nI (wCt X))) 9 (nI d))) (53 + 0) (lay s)) 7 (upd (upd (upd (upd (upd (g 7) 10 (nI lg)) 8 (nI (wCt X))) 9 (nI d)) 7 (nI (wBd X + 1))) 6 (nI (wCt X + 1))), ?_, ⟨?_, ?_, ?_, ?_, ?_⟩, ?_, ⟨s, rfl⟩, fun i i5 i6 i7 i53 => ?_⟩
      · rw [D0_152]
        simp only [e152_0, e152_1, e152_2, e152_5, e152_6, e152_9, e152_12, e152_13, e152_14, e152_17, e152_20, e152_23, e152_24, e152_27, e152_28, e152_31, e152_32, e152_33, e152_36, e152_39, e152_40, e152_41, e152_44, e152_45, e152_48, e152_49, e152_50, e152_53, e152_57, e152_58, e152_61, e152_62, e152_63, e152_67, e152_68, e152_71, e152_72, e152_73, e152_76, en_23, en_129, i_4, i_7, i_54, f_7_2, Hq_G, Hq_setG, k10, emx, hg, zz, not_true_eq_false, if_false, f7, u8, e8, u6, k6, upf_same, upf_upf, lvH_Hq, Option.bind_some, psh_i]
        simp only [e152_0, e152_1, e152_2, e152_5, e152_6, e152_9, e152_12, e152_13, e152_14, e152_17, e152_20, e152_23, e152_24, e152_27, e152_28, e152_31, e152_32, e152_33, e152_36, e152_39, e152_40, e152_41, e152_44, e152_45, e152_48, e152_49, e152_50, e152_53, e152_57, e152_58, e152_61, e152_62, e152_63, e152_67, e152_68, e152_71, e152_72, e152_73, e152_76, en_23, en_129, i_7, i_51, f_7_1, f_7_2, i_54, dput, Hq_G, Hq_setG, lvH_Hq, Option.bind_some, psh_n]
        rw [e152_56]
        simp only [e152_0, e152_1, e152_2, e152_5, e152_6, e152_9, e152_12, e152_13, e152_14, e152_17, e152_20, e152_23, e152_24, e152_27, e152_28, e152_31, e152_32, e152_33, e152_36, e152_39, e152_40, e152_41, e152_44, e152_45, e152_48, e152_49, e152_50, e152_53, e152_57, e152_58, e152_61, e152_62, e152_63, e152_66, e152_67, e152_68, e152_71, e152_72, e152_73, e152_76, en_23, en_129, i_7, Hq_G, Hq_setG, p1, q7, q6, k6, k7, nI_add, upf_same, upf_upf]
      · exact rfl
      · show nI (wBd X + 1) = nI (if false = true then wBd X else wBd X + 1)
        rw [if_neg hff]
      · show nI (wCt X) = if false = true then wFb X else if wBd X = 0 then nI (wCt X) else wFb X
        rw [if_neg hff, if_pos hb0]
      · intro _
        show nI d = nI (if false = true then wFd X else if wBd X = 0 then d else wFd X) ∧ ∃ s', lay s = lay s' ∧ Rl s' (if false = true then wFs X else if wBd X = 0 then m else wFs X)
        rw [if_neg hff, if_neg hff, if_pos hb0, if_pos hb0]
        exact ⟨rfl, s, rfl, R⟩
      · show nI lg = nI (if wLg X < d then d else wLg X)
        rw [elg]
      · exact h5
      · rw [upf_ne i7, upf_ne i53, upf_ne i7]
        exact fo i i5 i6 i7
    · obtain ⟨⟨j, hj5, hjb⟩, -⟩ := w8 (by omega)
      have e8 : ¬ g 7 8 = -1 := by
        rw [k8, hjb]
        exact nI_nm1 (by omega)
      have q6 : ∀ a d' : Int32, upd (upd (g 7) 10 a) 7 d' 6 = g 7 6 := fun _ _ => rfl
      refine ⟨upf g2 7 (upd (upd (upd (g 7) 10 (nI lg)) 7 (nI (wBd X + 1))) 6 (nI (wCt X + 1))), ?_, ⟨?_, ?_, ?_, ?_, ?_⟩, ?_, ?_, fun i i5 i6 i7 i53 => ?_⟩
      · rw [D0_152]
        simp only [e152_0, e152_1, e152_2, e152_5, e152_6, e152_9, e152_12, e152_13, e152_14, e152_17, e152_20, e152_23, e152_24, e152_27, e152_28, e152_31, e152_32, e152_33, e152_36, e152_39, e152_40, e152_41, e152_44, e152_45, e152_48, e152_49, e152_50, e152_53, e152_57, e152_58, e152_61, e152_62, e152_63, e152_67, e152_68, e152_71, e152_72, e152_73, e152_76, en_23, en_129, i_4, i_7, i_54, f_7_2, Hq_G, Hq_setG, k10, emx, hg, zz, not_true_eq_false, not_false_eq_true, if_true, if_false, f7, u8, e8, upf_same, upf_upf, lvH_Hq, Option.bind_some, psh_i]
        rw [e152_56]
        simp only [e152_0, e152_1, e152_2, e152_5, e152_6, e152_9, e152_12, e152_13, e152_14, e152_17, e152_20, e152_23, e152_24, e152_27, e152_28, e152_31, e152_32, e152_33, e152_36, e152_39, e152_40, e152_41, e152_44, e152_45, e152_48, e152_49, e152_50, e152_53, e152_57, e152_58, e152_61, e152_62, e152_63, e152_66, e152_67, e152_68, e152_71, e152_72, e152_73, e152_76, en_23, en_129, i_7, Hq_G, Hq_setG, f7, u7, q6, k6, k7, nI_add, upf_same, upf_upf]
      · exact rfl
      · show nI (wBd X + 1) = nI (if false = true then wBd X else wBd X + 1)
        rw [if_neg hff]
      · show g 7 8 = if false = true then wFb X else if wBd X = 0 then nI (wCt X) else wFb X
        rw [if_neg hff, if_neg hb0]
        exact k8
      · intro _
        obtain ⟨z1, s', z2, z3⟩ := k9 (by omega)
        show g 7 9 = nI (if false = true then wFd X else if wBd X = 0 then d else wFd X) ∧ ∃ s', g2 53 = lay s' ∧ Rl s' (if false = true then wFs X else if wBd X = 0 then m else wFs X)
        rw [if_neg hff, if_neg hff, if_neg hb0, if_neg hb0]
        exact ⟨z1, s', f53.trans z2, z3⟩
      · show nI lg = nI (if wLg X < d then d else wLg X)
        rw [elg]
      · exact h5
      · show ∃ t, g2 53 = lay t
        rw [f53]
        exact h53
      · rw [upf_ne i7]
        exact fo i i5 i6 i7
end RR
