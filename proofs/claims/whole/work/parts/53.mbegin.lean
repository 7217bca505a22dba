/-! THE MODEL: an access begins -/
theorem mNote_H {s : Sx} {a : Nat} {x : Int32} : (mNote s a x).H = s.H := rfl
theorem mNote_C {s : Sx} {a : Nat} {x : Int32} : (mNote s a x).C = s.C := rfl
theorem mNote_A {s : Sx} {a : Nat} {x : Int32} : (mNote s a x).A = s.A := rfl
theorem mNote_P {s : Sx} {a b k : Nat} {x : Int32} (h : k < 7) : (mNote s a x).P b k = s.P b k := by
  unfold mNote
  rw [sP_nk (by omega), sP_nk (by omega)]
theorem mNote_Pn {s : Sx} {a b k : Nat} {x : Int32} (h : ¬ b = a) : (mNote s a x).P b k = s.P b k := by
  unfold mNote
  rw [sP_na h, sP_na h]
theorem mBgB_H {s : Sx} {a b : Nat} {c : Int32} {wr : Prop} {hd : Decidable wr} : (mBgB a c wr s b).H = s.H := by
  unfold mBgB
  repeat' split
  all_goals rfl
theorem mBgB_C {s : Sx} {a b : Nat} {c : Int32} {wr : Prop} {hd : Decidable wr} : (mBgB a c wr s b).C = s.C := by
  unfold mBgB
  repeat' split
  all_goals rfl
theorem mBgB_A {s : Sx} {a b : Nat} {c : Int32} {wr : Prop} {hd : Decidable wr} : (mBgB a c wr s b).A = s.A := by
  unfold mBgB
  repeat' split
  all_goals rfl
theorem mBgB_P {s : Sx} {a b k q : Nat} {c : Int32} {wr : Prop} {hd : Decidable wr} (h : k < 7) : (mBgB a c wr s b).P q k = s.P q k := by
  unfold mBgB
  repeat' split
  all_goals first | rfl | exact mNote_P h
theorem mIt_H {s : Sx} {a : Nat} {c : Int32} {wr : Prop} {hd : Decidable wr} : ∀ n, (itr (mBgB a c wr) n s).H = s.H
  | 0 => rfl
  | n + 1 => by rw [itr, mBgB_H, mIt_H n]
theorem mIt_C {s : Sx} {a : Nat} {c : Int32} {wr : Prop} {hd : Decidable wr} : ∀ n, (itr (mBgB a c wr) n s).C = s.C
  | 0 => rfl
  | n + 1 => by rw [itr, mBgB_C, mIt_C n]
theorem mIt_A {s : Sx} {a : Nat} {c : Int32} {wr : Prop} {hd : Decidable wr} : ∀ n, (itr (mBgB a c wr) n s).A = s.A
  | 0 => rfl
  | n + 1 => by rw [itr, mBgB_A, mIt_A n]
theorem mIt_P {s : Sx} {a k q : Nat} {c : Int32} {wr : Prop} {hd : Decidable wr} (h : k < 7) : ∀ n, (itr (mBgB a c wr) n s).P q k = s.P q k
  | 0 => rfl
  | n + 1 => by rw [itr, mBgB_P h, mIt_P h n]
section MM
variable {L : Nat} {g : Nat → Nat → Int32} {s : Sx} {f : Nat → Int32}
theorem L_mBg {a N : Nat} (ha : a < 5) (h5 : N ≤ 5) {c : Int32} {wr : Prop} {hd : Decidable wr} (hp : prcs s = nI N) (hu : ∀ q, q < 5 → ¬ s.P q 0 = -1 → Ix 7 (s.P q 0)) (hua : ¬ s.P a 0 = -1) (hO : ∀ j, j < N → ∀ q, q < 5 → ∃ o, o < 10 ∧ (itr (mBgB a c wr) j s).P q 7 = nI o) : ∀ k j (v : Value), j + k = N → Rr 170 61 [.ref 86, .int (nI a), .int c, .int (b2 wr), .int (nI j), v] [] (HM L g (itr (mBgB a c wr) j s) f) = some (none, HM L g (itr (mBgB a c wr) N s) f)
  | 0, j, v, h => by
    have : j = N := by omega
    subst this
    have e : prcs (itr (mBgB a c wr) j s) = nI j := by
      unfold prcs wrs at hp ⊢
      rw [mIt_H]
      exact hp
    rw [e170_61]
    simp only [e170_63, e170_64, e170_67, e170_166, en_46, i_86, M_processes, e, lvH_Hq, Option.bind_some, psh_i, psh_n, Hq_G, Hq_setG, upf_same, upf_upf, Int32.le_refl, if_true]
  | k + 1, j, v, h => by
    have hj : j < 5 := by omega
    have h1 : ¬ nI N ≤ nI j := nI_ge (by omega) (by omega)
    have e : prcs (itr (mBgB a c wr) j s) = nI N := by
      unfold prcs wrs at hp ⊢
      rw [mIt_H]
      exact hp
    have hO' := hO j (by omega)
    have hu' : ∀ q, q < 5 → ¬ (itr (mBgB a c wr) j s).P q 0 = -1 → Ix 7 ((itr (mBgB a c wr) j s).P q 0) := by
      intro q hq
      rw [mIt_P (by omega)]
      exact hu q hq
    have hua' : ¬ (itr (mBgB a c wr) j s).P a 0 = -1 := by
      rw [mIt_P (by omega)]
      exact hua
    have ih := fun w => L_mBg ha h5 hp hu hua hO k (j + 1) w (by omega)
    generalize itr (mBgB a c wr) N s = T at ih ⊢
    simp only [itr] at ih
    generalize itr (mBgB a c wr) j s = t at ih e hO' hu' hua' ⊢
    have hja : (nI j = nI a) = (j = a) := propext (nI_eq (by omega) (by omega))
    have one0 : ¬ nI 1 = 0 := by decide
    rw [e170_61]
    simp only [e170_63, e170_64, e170_67, e170_70, e170_72, e170_73, en_46, i_86, M_processes, e, lvH_Hq, Option.bind_some, psh_i, psh_n, Hq_G, Hq_setG, upf_same, upf_upf, h1, if_false, hja]
    have fin : ∀ w, Rr 170 160 [.ref 86, .int (nI a), .int c, .int (b2 wr), .int (nI j), w] [] (HM L g t f) = Rr 170 61 [.ref 86, .int (nI a), .int c, .int (b2 wr), .int (nI (j + 1)), w] [] (HM L g t f) := by
      intro w
      simp only [e170_160, e170_163, nI_add]
    have no : (¬ (¬ j = a ∧ mBg t j ∧ mCel t j = c)) → Rr 170 99 [.ref 86, .int (nI a), .int c, .int (b2 wr), .int (nI j), v] [] (HM L g t f) = some (none, HM L g T f) := by
      intro z
      have e1 : mBgB a c wr t j = t := if_neg z
      rw [e1] at ih
      simp only [e170_99, e170_100, e170_102, e170_104, e170_131, e170_133, K00, if_true]
      rw [fin]
      exact ih _
    by_cases c1 : j = a
    · rw [if_pos c1]
      exact no (fun z => z.1 c1)
    · rw [if_neg c1]
      simp only [e170_76, e170_77, e170_79, e170_82, en_125, i_86, M_isBegun hj, Nat.reduceLT, Nat.reduceLeDiff, Nat.reduceAdd, Nat.reduceMul, lvH_Hq, Option.bind_some, psh_i, psh_n, Hq_G, Hq_setG, upf_same, upf_upf, b2_0, b2_1, b2_01, one_01, zero_01, le32, Classical.not_not, ite_not]
      by_cases c2 : mBg t j
      · rw [if_pos c2]
        have hA := hu' j hj c2.1
        simp only [e170_85, e170_86, e170_88, e170_91, e170_92, en_142, i_86, M_cellOf hj hA, Nat.reduceLT, Nat.reduceLeDiff, Nat.reduceAdd, Nat.reduceMul, lvH_Hq, Option.bind_some, psh_i, psh_n, Hq_G, Hq_setG, upf_same, upf_upf, b2_0, b2_1, b2_01, one_01, zero_01, le32, Classical.not_not, ite_not]
        by_cases c3 : mCel t j = c
        · rw [if_pos c3]
          have e1 : mBgB a c wr t j = (if wr then (if mWt t j then t else mNote t j (mNm t a)) else (if mWt t j then mNote t a (mNm t j) else t)) := if_pos ⟨c1, c2, c3⟩
          rw [e1] at ih
          have hAa := hu' a ha hua'
          obtain ⟨o, ho, eo⟩ := hO' j hj
          obtain ⟨oa, hoa, eoa⟩ := hO' a ha
          simp only [e170_95, e170_96, e170_100, e170_102, e170_104, one0, if_false, e170_107, e170_108, b2_0, Classical.not_not, ite_not]
          by_cases cw : wr
          · simp only [cw, not_true_eq_false, if_true, if_false, e170_111, e170_112, e170_114, en_87, i_86, M_isWriting hj, e170_117, Nat.reduceLT, Nat.reduceLeDiff, Nat.reduceAdd, Nat.reduceMul, lvH_Hq, Option.bind_some, psh_i, psh_n, Hq_G, Hq_setG, upf_same, upf_upf, b2_0, b2_1, b2_01, one_01, zero_01, le32, Classical.not_not, ite_not] at ih ⊢
            have b1 : b2 wr = nI 1 := if_pos cw
            by_cases c4 : mWt t j
            · rw [if_pos c4] at ih ⊢
              simp only [e170_131, e170_133, one0, if_false, e170_136, e170_137, b2_0, cw, not_true_eq_false, not_false_eq_true, if_true, e170_160, e170_163, nI_add]
              exact ih _
            · rw [if_neg c4] at ih ⊢
              simp only [e170_120, e170_121, e170_123, e170_124, e170_125, e170_128, en_160, en_89, i_86, M_numberOf ha hAa, M_note hj eo ho, lvH_Hq, Option.bind_some, psh_i, psh_n, Hq_G, Hq_setG, upf_same, upf_upf, e170_131, e170_133, one0, if_false, e170_136, e170_137, b2_0, cw, not_true_eq_false, not_false_eq_true, if_true, e170_160, e170_163, nI_add]
              exact ih _
          · simp only [cw, not_false_eq_true, if_true, if_false, e170_131, e170_133, one0, e170_136, e170_137, b2_0, not_true_eq_false, e170_140, e170_141, e170_143, en_87, i_86, M_isWriting hj, e170_146, Nat.reduceLT, Nat.reduceLeDiff, Nat.reduceAdd, Nat.reduceMul, lvH_Hq, Option.bind_some, psh_i, psh_n, Hq_G, Hq_setG, upf_same, upf_upf, b2_0, b2_1, b2_01, one_01, zero_01, le32, Classical.not_not, ite_not] at ih ⊢
            by_cases c4 : mWt t j
            · rw [if_pos c4] at ih ⊢
              simp only [e170_149, e170_150, e170_151, e170_152, e170_154, e170_157, en_160, en_89, i_86, M_numberOf hj hA, M_note ha eoa hoa, lvH_Hq, Option.bind_some, psh_i, psh_n, Hq_G, Hq_setG, upf_same, upf_upf, e170_160, e170_163, nI_add]
              exact ih _
            · rw [if_neg c4] at ih ⊢
              simp only [e170_160, e170_163, nI_add]
              exact ih _
        · rw [if_neg c3]
          exact no (fun z => c3 z.2.2)
      · rw [if_neg c2]
        exact no (fun z => c2 z.2.1)
end MM
