/-! class Steps: whole steps -/
section SXX
variable {s : Sx} {a b k : Nat} {x v : Int32}
theorem addN_H : (addN s a x).H = s.H := by unfold addN; split; rfl; split <;> rfl
theorem addN_C : (addN s a x).C = s.C := by unfold addN; split; rfl; split <;> rfl
theorem addN_A : (addN s a x).A = s.A := by unfold addN; split; rfl; split <;> rfl
theorem addN_P (hk : k < 10) : (addN s a x).P b k = s.P b k := by
  unfold addN
  split
  · rfl
  · split
    · rfl
    · rw [sP_nk (by omega), sP_nk (by omega)]
theorem addN_Pn (hb : ¬ b = a) : (addN s a x).P b k = s.P b k := by
  unfold addN
  split
  · rfl
  · split
    · rfl
    · rw [sP_na hb, sP_na hb]
theorem bgB_H {c rd : Int32} : (bgB a c rd s b).H = s.H := by unfold bgB; split; rfl; split <;> rw [addN_H] <;> rfl
theorem bgB_C {c rd : Int32} : (bgB a c rd s b).C = s.C := by unfold bgB; split; rfl; split <;> rw [addN_C] <;> rfl
theorem bgB_A {c rd : Int32} : (bgB a c rd s b).A = s.A := by unfold bgB; split; rfl; split <;> rw [addN_A] <;> rfl
theorem bgB_P {c rd : Int32} {q : Nat} (hk : k < 9) : (bgB a c rd s b).P q k = s.P q k := by
  unfold bgB
  split
  · rfl
  · split <;> rw [addN_P (by omega), sP_nk (by omega)]
theorem itrB_H {c rd : Int32} : ∀ n, (itr (bgB a c rd) n s).H = s.H
  | 0 => rfl
  | n + 1 => by rw [itr, bgB_H, itrB_H n]
theorem itrB_C {c rd : Int32} : ∀ n, (itr (bgB a c rd) n s).C = s.C
  | 0 => rfl
  | n + 1 => by rw [itr, bgB_C, itrB_C n]
theorem itrB_A {c rd : Int32} : ∀ n, (itr (bgB a c rd) n s).A = s.A
  | 0 => rfl
  | n + 1 => by rw [itr, bgB_A, itrB_A n]
theorem itrB_P {c rd : Int32} {q : Nat} (hk : k < 9) : ∀ n, (itr (bgB a c rd) n s).P q k = s.P q k
  | 0 => rfl
  | n + 1 => by rw [itr, bgB_P hk, itrB_P hk n]
theorem bgA_H : (bgA s a).H = s.H := by unfold bgA; rw [itrB_H]; split <;> first | rw [addN_H]; rfl | rfl
theorem bgA_C : (bgA s a).C = s.C := by unfold bgA; rw [itrB_C]; split <;> first | rw [addN_C]; rfl | rfl
theorem bgA_A : (bgA s a).A = s.A := by unfold bgA; rw [itrB_A]; split <;> first | rw [addN_A]; rfl | rfl
theorem bgA_P {q : Nat} (hk : k < 9) (h2 : ¬ k = 2) : (bgA s a).P q k = s.P q k := by
  unfold bgA
  rw [itrB_P hk]
  split
  · rw [addN_P (by omega), sP_nk (by omega), sP_nk (by omega), sP_nk h2]
  · rw [sP_nk h2]
theorem tkIn_H : (tkIn s a x).H = s.H := by
  unfold tkIn kpNw
  repeat' split
  all_goals rfl
theorem tkIn_C : (tkIn s a x).C = s.C := by
  unfold tkIn kpNw
  repeat' split
  all_goals rfl
theorem tkIn_A : (tkIn s a x).A = s.A := by
  unfold tkIn kpNw
  repeat' split
  all_goals rfl
theorem tkIn_P {q : Nat} (h4 : ¬ k = 4) (h5 : ¬ k = 5) (h6 : ¬ k = 6) : (tkIn s a x).P q k = s.P q k := by
  unfold tkIn kpNw
  repeat' split
  all_goals simp only [sP_nk h4, sP_nk h5, sP_nk h6]
theorem tkIn_Pn {q : Nat} (h : ¬ q = a) : (tkIn s a x).P q k = s.P q k := by
  unfold tkIn kpNw
  repeat' split
  all_goals simp only [sP_na h]
theorem prep_H : (prep s a).H = s.H := by
  unfold prep
  repeat' split
  all_goals rfl
theorem prep_C : (prep s a).C = s.C := by
  unfold prep
  repeat' split
  all_goals rfl
theorem prep_A : (prep s a).A = s.A := by
  unfold prep
  repeat' split
  all_goals rfl
theorem prep_P {q : Nat} (h3 : ¬ k = 3) (h7 : ¬ k = 7) (h8 : ¬ k = 8) : (prep s a).P q k = s.P q k := by
  unfold prep
  repeat' split
  all_goals simp only [sP_nk h3, sP_nk h7, sP_nk h8]
theorem prep_Pn {q : Nat} (h : ¬ q = a) : (prep s a).P q k = s.P q k := by
  unfold prep
  repeat' split
  all_goals simp only [sP_na h]
theorem putD_H : (putD s a).H = s.H := by unfold putD; split <;> rfl
theorem putD_A : (putD s a).A = s.A := by unfold putD; split <;> rfl
theorem putD_C : (putD s a).C = upf s.C (ix (s.P a 3)) (s.P a 8) := by unfold putD; split <;> rfl
theorem putD_P {q : Nat} (h4 : ¬ k = 4) : (putD s a).P q k = s.P q k := by
  unfold putD
  split
  · rw [sP_nk h4]; rfl
  · rfl
theorem putD_Pn {q : Nat} (h : ¬ q = a) : (putD s a).P q k = s.P q k := by
  unfold putD
  split
  · rw [sP_na h]; rfl
  · rfl
theorem goA_P {q : Nat} {ch : Int32} (h4 : ¬ k = 4) (h5 : ¬ k = 5) (h6 : ¬ k = 6) : (goA s a ch).P q k = s.P q k := by
  unfold goA
  split
  · rw [tkIn_P h4 h5 h6]
  · rw [putD_P h4]
theorem goA_H {ch : Int32} : (goA s a ch).H = s.H := by
  unfold goA
  split
  · rw [tkIn_H]
  · rw [putD_H]
theorem goA_A {ch : Int32} : (goA s a ch).A = s.A := by
  unfold goA
  split
  · rw [tkIn_A]
  · rw [putD_A]
theorem goB_P0 {q : Nat} {ch : Int32} : (goB s a ch).P q 0 = s.P q 0 := by
  unfold goB
  split
  · split
    · rw [bgA_P (by decide) (by decide)]
    · rw [prep_P (by decide) (by decide) (by decide), sP_nk (by decide), sP_nk (by decide), goA_P (by decide) (by decide) (by decide)]
  · rfl
end SXX
section ST
variable {n : Nat} {S : Nat → Shp} {g : Nat → Nat → Int32} {p q : Nat} {s : Sx}
theorem L_bgA (hs : St n S p q) {a : Nat} (ha : a < 5) {c rd : Int32} : ∀ k j (v : Value), j + k = 5 → Rr 134 56 [.ref p, .int (nI a), .int c, .int rd, .int (nI j), v] [] (Hq n S (upf g q (lay (itr (bgB a c rd) j s)))) = some (none, Hq n S (upf g q (lay (itr (bgB a c rd) 5 s))))
  | 0, j, v, h => by
    have : j = 5 := by omega
    subst this
    rw [e134_56]
    simp only [e134_58, e134_59, e134_149, Int32.le_refl, if_true]
  | k + 1, j, v, h => by
    have hj : j < 5 := by omega
    have h1 : ¬ nI 5 ≤ nI j := nI_ge hj (by omega)
    have ih := fun w => L_bgA hs ha (c := c) (rd := rd) k (j + 1) w (by omega)
    generalize itr (bgB a c rd) 5 s = T at ih ⊢
    simp only [itr] at ih
    rw [e134_56]
    generalize itr (bgB a c rd) j s = t at ih ⊢
    simp only [e134_0, e134_1, e134_2, e134_3, e134_6, e134_7, e134_8, e134_9, e134_11, e134_14, e134_15, e134_16, e134_17, e134_18, e134_19, e134_22, e134_23, e134_24, e134_27, e134_28, e134_29, e134_31, e134_32, e134_35, e134_36, e134_37, e134_39, e134_40, e134_43, e134_44, e134_45, e134_46, e134_47, e134_50, e134_53, e134_54, e134_58, e134_59, e134_62, e134_63, e134_65, e134_66, e134_69, e134_72, e134_73, e134_75, e134_76, e134_79, e134_80, e134_83, e134_84, e134_86, e134_88, e134_91, e134_92, e134_95, e134_98, e134_99, e134_100, e134_103, e134_104, e134_107, e134_109, e134_111, e134_112, e134_114, e134_116, e134_117, e134_120, e134_121, e134_123, e134_124, e134_125, e134_126, e134_129, e134_131, e134_134, e134_135, e134_137, e134_140, e134_143, e134_146, e134_149, en_26, en_28, en_68, en_111, h1, if_false, hs.i, D_of hs hj, Nat.reduceLT, Nat.reduceLeDiff, Nat.reduceAdd, Nat.reduceMul, lvH_Hq, Option.bind_some, psh_i, psh_n, Hq_G, Hq_setG, upf_same, upf_upf, b2_0, b2_1, b2_01, one_01, zero_01, le32, Classical.not_not, ite_not, nI_add]
    by_cases c2 : t.P j 2 = 0
    · have e : bgB a c rd t j = t := if_pos (Or.inl c2)
      rw [e] at ih
      rw [if_pos c2]
      exact ih _
    · rw [if_neg c2]
      by_cases c3 : t.P j 3 = c
      · rw [if_pos c3]
        by_cases c4 : t.P j 7 = rd
        · have e : bgB a c rd t j = t := if_pos (Or.inr (Or.inr c4))
          rw [e] at ih
          rw [if_pos c4]
          exact ih _
        · rw [if_neg c4]
          have e : bgB a c rd t j = if rd = nI 1 then addN (t.sP a 9 (nI 1)) a (t.P j 8) else addN (t.sP j 9 (nI 1)) j (t.P a 8) := if_neg (fun z => z.elim c2 (fun z => z.elim (fun z => z c3) c4))
          rw [e] at ih
          have k8 : ∀ {i j : Nat} {v : Int32}, (t.sP i 9 v).P j 8 = t.P j 8 := fun {i j v} => sP_nk (by decide)
          by_cases c5 : rd = nI 1
          · simp only [c5, if_true, e134_0, e134_1, e134_2, e134_3, e134_6, e134_7, e134_8, e134_9, e134_11, e134_14, e134_15, e134_16, e134_17, e134_18, e134_19, e134_22, e134_23, e134_24, e134_27, e134_28, e134_29, e134_31, e134_32, e134_35, e134_36, e134_37, e134_39, e134_40, e134_43, e134_44, e134_45, e134_46, e134_47, e134_50, e134_53, e134_54, e134_58, e134_59, e134_62, e134_63, e134_65, e134_66, e134_69, e134_72, e134_73, e134_75, e134_76, e134_79, e134_80, e134_83, e134_84, e134_86, e134_88, e134_91, e134_92, e134_95, e134_98, e134_99, e134_100, e134_103, e134_104, e134_107, e134_109, e134_111, e134_112, e134_114, e134_116, e134_117, e134_120, e134_121, e134_123, e134_124, e134_125, e134_126, e134_129, e134_131, e134_134, e134_135, e134_137, e134_140, e134_143, e134_146, e134_149, en_26, en_28, en_68, en_111, hs.i, D_set hs ha, D_of hs hj, D_addNumber hs ha, Nat.reduceLT, Nat.reduceLeDiff, Nat.reduceAdd, Nat.reduceMul, lvH_Hq, Option.bind_some, psh_i, psh_n, Hq_G, Hq_setG, upf_same, upf_upf, b2_0, b2_1, b2_01, one_01, zero_01, le32, Classical.not_not, ite_not, nI_add, k8] at ih ⊢
            exact ih _
          · simp only [c5, if_false, e134_0, e134_1, e134_2, e134_3, e134_6, e134_7, e134_8, e134_9, e134_11, e134_14, e134_15, e134_16, e134_17, e134_18, e134_19, e134_22, e134_23, e134_24, e134_27, e134_28, e134_29, e134_31, e134_32, e134_35, e134_36, e134_37, e134_39, e134_40, e134_43, e134_44, e134_45, e134_46, e134_47, e134_50, e134_53, e134_54, e134_58, e134_59, e134_62, e134_63, e134_65, e134_66, e134_69, e134_72, e134_73, e134_75, e134_76, e134_79, e134_80, e134_83, e134_84, e134_86, e134_88, e134_91, e134_92, e134_95, e134_98, e134_99, e134_100, e134_103, e134_104, e134_107, e134_109, e134_111, e134_112, e134_114, e134_116, e134_117, e134_120, e134_121, e134_123, e134_124, e134_125, e134_126, e134_129, e134_131, e134_134, e134_135, e134_137, e134_140, e134_143, e134_146, e134_149, en_26, en_28, en_68, en_111, hs.i, D_set hs hj, D_of hs ha, D_addNumber hs hj, Nat.reduceLT, Nat.reduceLeDiff, Nat.reduceAdd, Nat.reduceMul, lvH_Hq, Option.bind_some, psh_i, psh_n, Hq_G, Hq_setG, upf_same, upf_upf, b2_0, b2_1, b2_01, one_01, zero_01, le32, Classical.not_not, ite_not, nI_add, k8] at ih ⊢
            exact ih _
      · have e : bgB a c rd t j = t := if_pos (Or.inr (Or.inl c3))
        rw [e] at ih
        rw [if_neg c3]
        exact ih _
theorem D_beginAccess (hs : St n S p q) {a : Nat} (ha : a < 5) (hC : Ix 9 (s.P a 3)) : Den 134 [.ref p, .int (nI a)] (Hq n S (upf g q (lay s))) = some (none, Hq n S (upf g q (lay (bgA s a)))) := by
  obtain ⟨c, hc, hC⟩ := hC
  have e : ix (s.P a 3) = c := by rw [hC, ix_nI (by omega)]
  rw [D0_134]
  unfold bgA
  rw [e]
  simp only [e134_0, e134_1, e134_2, e134_3, e134_6, e134_7, e134_8, e134_9, e134_11, e134_14, e134_15, e134_16, e134_17, e134_18, e134_19, e134_22, e134_23, e134_24, en_28, en_68, hs.i, D_of hs ha, D_set hs ha, Nat.reduceLT, Nat.reduceLeDiff, Nat.reduceAdd, Nat.reduceMul, lvH_Hq, Option.bind_some, psh_i, psh_n, Hq_G, Hq_setG, upf_same, upf_upf, b2_0, b2_1, b2_01, one_01, zero_01, le32, Classical.not_not, ite_not]
  rw [hC]
  by_cases h1 : s.P a 7 = nI 1
  · simp only [h1, if_true, e134_27, e134_28, e134_29, e134_31, e134_32, e134_35, e134_36, e134_37, e134_39, e134_40, e134_43, e134_44, e134_45, e134_46, e134_47, e134_50, e134_53, e134_54, en_26, en_111, en_68, hs.i, D_held hs hc, D_set hs ha, D_addNumber hs ha, Nat.reduceLT, Nat.reduceLeDiff, Nat.reduceAdd, Nat.reduceMul, lvH_Hq, Option.bind_some, psh_i, psh_n, Hq_G, Hq_setG, upf_same, upf_upf, b2_0, b2_1, b2_01, one_01, zero_01, le32, Classical.not_not, ite_not]
    exact L_bgA hs ha 5 0 _ rfl
  · simp only [h1, if_false, e134_53, e134_54]
    exact L_bgA hs ha 5 0 _ rfl
end ST
