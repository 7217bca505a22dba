/-! THE MODEL: reads judged -/
def hI (h : Hy) (n : Nat) : Prop := hOk h n ∧ (∀ a, a < n → h.E a = -1 ∨ Ix 1000 (h.E a)) ∧ (∀ a, a < n → Ix 1000 (h.S a)) ∧ (∀ a, a < n → ∀ b, b < n → ¬ h.E a = h.S b) ∧ (∀ a, a < n → ¬ h.E a = -1 → h.S a < h.E a)
theorem hyM_W {s : Sx} {a : Nat} : s.A a 1 = (hyM s).W a := rfl
theorem hyM_T {s : Sx} {a : Nat} : s.A a 4 = (hyM s).T a := rfl
theorem hyM_S {s : Sx} {a : Nat} : s.A a 2 = (hyM s).S a := rfl
theorem hyM_E {s : Sx} {a : Nat} : s.A a 3 = (hyM s).E a := rfl
theorem Ix_pos {n : Nat} {x : Int32} (h : Ix n x) (hn : n ≤ 2147483648) : ¬ x < 0 := by
  obtain ⟨a, ha, rfl⟩ := h
  exact nI_pos (by omega)
theorem Ix_n1 {n : Nat} {x : Int32} (h : Ix n x) (hn : n ≤ 2147483648) : ¬ x = -1 := by
  intro z
  have h2 := Ix_pos h hn
  rw [z] at h2
  exact h2 (by decide)
theorem neg_m1 {n : Nat} {x : Int32} (h : x = -1 ∨ Ix n x) (hn : n ≤ 2147483648) : (x < 0) = (x = -1) := by
  apply propext
  constructor
  · intro z
    rcases h with h | h
    · exact h
    · exact absurd z (Ix_pos h hn)
  · intro z
    rw [z]
    decide
theorem pos_m1 {n : Nat} {x : Int32} (h : x = -1 ∨ Ix n x) (hn : n ≤ 2147483648) : (0 ≤ x) = ¬ x = -1 := by
  rw [← neg_m1 h hn]
  exact propext Int32.not_lt.symm
theorem i_asy {a b : Int32} (h : a < b) : ¬ b < a := by
  intro h2
  have h3 := Int32.lt_iff_toInt_lt.mp h
  have h4 := Int32.lt_iff_toInt_lt.mp h2
  omega
theorem i_lne {a b : Int32} (h : a ≤ b) (h2 : ¬ a = b) : a < b := by
  have h3 := Int32.le_iff_toInt_le.mp h
  have h4 : ¬ a.toInt = b.toInt := fun z => h2 (Int32.toInt_inj.mp z)
  exact Int32.lt_iff_toInt_lt.mpr (by omega)
theorem i_tr {a b c : Int32} (h : a < b) (h2 : b < c) : a < c := by
  have h3 := Int32.lt_iff_toInt_lt.mp h
  have h4 := Int32.lt_iff_toInt_lt.mp h2
  exact Int32.lt_iff_toInt_lt.mpr (by omega)
abbrev hJm (s : Sx) (a : Nat) : Prop := wrs s = 1 ∧ (hyM s).W a = -1 ∧ ¬ (hyM s).E a = -1
abbrev hGbM (s : Sx) (n r : Nat) : Prop := ¬ hGs (hyM s) n r = -1 ∧ ∃ q, q < n ∧ (hJm s q ∧ hAh (hyM s) q r ∧ hGs (hyM s) n r < hLs (hyM s) n q)
section MM
variable {L : Nat} {g : Nat → Nat → Int32} {s : Sx} {f : Nat → Int32} {N : Nat}
theorem M_ofRow {a k : Nat} (ha : a < 7) (hk : k < 5) : Den 45 [.ref 86, .int (nI a), .int (nI k), .int (nI 0)] (HM L g s f) = some (some (s.A a k), HM L g s f) := by
  have k1 := in_A ha hk
  have e : nI 142 * nI 0 + nI (107 + 5 * a + k) = nI (107 + 5 * a + k) := by rw [pk_mul, nI_add, Nat.mul_zero, Nat.zero_add]
  rw [D0_45]
  simp only [e45_0, e45_1, e45_4, e45_7, e45_8, e45_9, e45_10, e45_11, e45_12, e45_15, e45_16, e45_17, en_12, i_86, f_86_0, a_87, n_87, M_ofAct, e, k1, rM_A ha hk, not_false_eq_true, lvH_Hq, Option.bind_some, psh_i, psh_n, Hq_G, Hq_setG, upf_same, upf_upf]
theorem M_isEnded (HI : hI (hyM s) N) (h7 : N ≤ 7) {a : Nat} (ha : a < N) : Den 84 [.ref 86, .int (nI a), .int (nI 0)] (HM L g s f) = some (some (b2 (¬ (hyM s).E a = -1)), HM L g s f) := by
  have e := neg_m1 (HI.2.1 a ha) (by omega)
  rw [D0_84, r_b2]
  simp only [e84_0, e84_1, e84_2, e84_3, e84_4, e84_7, e84_10, e84_11, e84_14, e84_15, en_45, i_86, M_ofRow (show a < 7 by omega), hyM_E, e, Nat.reduceLT, Nat.reduceLeDiff, Nat.reduceAdd, Nat.reduceMul, lvH_Hq, Option.bind_some, psh_i, psh_n, Hq_G, Hq_setG, upf_same, upf_upf, b2_0, b2_1, b2_01, one_01, zero_01, le32, Classical.not_not, ite_not]
theorem M_isAhead (HI : hI (hyM s) N) (h7 : N ≤ 7) {a b : Nat} (ha : a < N) (hb : b < N) : Den 123 [.ref 86, .int (nI a), .int (nI b), .int (nI 0)] (HM L g s f) = some (some (b2 (hAh (hyM s) a b)), HM L g s f) := by
  rw [D0_123, r_b2, if_an]
  simp only [e123_0, e123_1, e123_2, e123_3, e123_6, e123_9, e123_10, e123_11, e123_12, e123_13, e123_16, e123_17, e123_18, e123_19, e123_20, e123_23, e123_26, e123_27, e123_30, e123_31, en_45, en_84, i_86, M_isEnded HI h7 ha, M_ofRow (show a < 7 by omega), M_ofRow (show b < 7 by omega), hyM_E, hyM_S, Nat.reduceLT, Nat.reduceLeDiff, Nat.reduceAdd, Nat.reduceMul, lvH_Hq, Option.bind_some, psh_i, psh_n, Hq_G, Hq_setG, upf_same, upf_upf, b2_0, b2_1, b2_01, one_01, zero_01, le32, Classical.not_not, ite_not]
theorem M_isWritten {a : Nat} (ha : a < 7) : Den 88 [.ref 86, .int (nI a)] (HM L g s f) = some (some (b2 (¬ (hyM s).W a = -1)), HM L g s f) := by
  rw [D0_88, r_b2]
  simp only [e88_0, e88_1, e88_2, e88_3, e88_4, e88_7, e88_8, e88_11, e88_12, e88_15, e88_16, en_45, i_86, M_ofRow ha, hyM_W, Nat.reduceLT, Nat.reduceLeDiff, Nat.reduceAdd, Nat.reduceMul, lvH_Hq, Option.bind_some, psh_i, psh_n, Hq_G, Hq_setG, upf_same, upf_upf, b2_0, b2_1, b2_01, one_01, zero_01, le32, Classical.not_not, ite_not]
theorem M_overlaps (HI : hI (hyM s) N) (h7 : N ≤ 7) {w r : Nat} (hw : w < N) (hr : r < N) (hE : ¬ (hyM s).E r = -1) : Den 146 [.ref 86, .int (nI w), .int (nI r)] (HM L g s f) = some (some (b2 (hBs (hyM s) w r)), HM L g s f) := by
  have e : (hyM s).S w < (hyM s).E r ↔ ¬ hAh (hyM s) r w := by
    constructor
    · intro h z
      exact i_asy h z.2
    · intro h
      exact i_lne (Int32.not_lt.mp (fun z => h ⟨hE, z⟩)) (fun z => HI.2.2.2.1 r hr w hw z.symm)
  have e2 : ∀ x y : Option Rs, (if (hyM s).S w < (hyM s).E r then x else y) = (if ¬ hAh (hyM s) r w then x else y) := by
    intro x y
    by_cases h : hAh (hyM s) r w
    · rw [if_neg (fun z => e.mp z h), if_neg (fun z => z h)]
    · rw [if_pos (e.mpr h), if_pos h]
  rw [D0_146, r_b2, if_an, if_an]
  simp only [e146_0, e146_1, e146_2, e146_5, e146_8, e146_9, e146_10, e146_11, e146_12, e146_15, e146_18, e146_19, e146_20, e146_21, e146_22, e146_25, e146_26, e146_27, e146_28, e146_29, e146_32, e146_35, e146_36, e146_39, e146_40, en_45, en_88, en_123, i_86, M_isWritten (show w < 7 by omega), M_isAhead HI h7 hw hr, M_ofRow (show w < 7 by omega), M_ofRow (show r < 7 by omega), hyM_E, hyM_S, lvH_Hq, Option.bind_some, psh_i, psh_n, Nat.reduceLT, Nat.reduceLeDiff, Nat.reduceAdd, Nat.reduceMul, b2_0, le32, ite_not, Classical.not_not, one_01, zero_01]
  rw [e2, ite_not]
theorem L_mlast (HI : hI (hyM s) N) (hN : s.H 6 = nI N) (h7 : N ≤ 7) {r : Nat} (hr : r < N) : ∀ k j (v : Value), j + k = N → Rr 144 4 [.ref 86, .int (nI r), .int (hLw (hyM s) r j), .int (nI j), v] [] (HM L g s f) = some (some (hLw (hyM s) r N), HM L g s f)
  | 0, j, v, h => by
    have : j = N := by omega
    subst this
    rw [e144_4]
    simp only [e144_0, e144_1, e144_2, e144_3, e144_5, e144_6, e144_9, e144_11, e144_12, e144_15, e144_16, e144_17, e144_20, e144_23, e144_24, e144_25, e144_26, e144_27, e144_30, e144_33, e144_34, e144_37, e144_38, e144_39, e144_40, e144_41, e144_44, e144_45, e144_46, e144_47, e144_48, e144_54, e144_55, e144_58, e144_59, e144_61, e144_63, e144_66, e144_67, e144_70, e144_71, e144_72, e144_75, e144_78, e144_79, en_45, en_88, en_123, i_86, f_86_0, a_87, n_87, in_H, rM_H, hN, not_false_eq_true, lvH_Hq, Option.bind_some, psh_i, psh_n, Hq_G, Hq_setG, upf_same, upf_upf, Nat.reduceLT, Nat.reduceLeDiff, Nat.reduceAdd, Nat.reduceMul, Int32.le_refl, if_true]
  | k + 1, j, v, h => by
    have hj : j < N := by omega
    have h1 : ¬ nI N ≤ nI j := nI_ge (by omega) (by omega)
    have ih := fun w => L_mlast HI hN h7 hr k (j + 1) w (by omega)
    have hIx := hLw_ix (h := hyM s) (r := r) j
    have hneg := neg_m1 hIx (by omega)
    generalize hLw (hyM s) r N = T at ih ⊢
    simp only [hLw] at ih
    generalize hLw (hyM s) r j = T1 at ih hIx hneg ⊢
    have pass : ∀ q : Prop, ∀ [Decidable q], ((¬ (hyM s).W j = -1 ∧ hAh (hyM s) j r ∧ (T1 = -1 ∨ (hyM s).E (ix T1) < (hyM s).E j)) ↔ q) → Rr 144 59 [.ref 86, .int (nI r), .int T1, .int (nI j), v] [.int (b2 q)] (HM L g s f) = some (some T, HM L g s f) := by
      intro q _ hq
      simp only [e144_59, e144_61, e144_63, b2_0, ite_not]
      by_cases c : q
      · rw [if_pos (hq.mpr c)] at ih
        rw [if_pos c]
        simp only [e144_66, e144_67, e144_71, e144_72, e144_75, nI_add]
        exact ih _
      · rw [if_neg (fun z => c (hq.mp z))] at ih
        rw [if_neg c]
        simp only [e144_70, e144_71, e144_72, e144_75, nI_add]
        exact ih _
    have no : ¬ (¬ (hyM s).W j = -1 ∧ hAh (hyM s) j r ∧ (T1 = -1 ∨ (hyM s).E (ix T1) < (hyM s).E j)) → Rr 144 58 [.ref 86, .int (nI r), .int T1, .int (nI j), v] [] (HM L g s f) = some (some T, HM L g s f) := by
      intro z
      have := pass False (iff_false_intro z)
      simp only [e144_58]
      exact this
    have yes : (¬ (hyM s).W j = -1 ∧ hAh (hyM s) j r ∧ (T1 = -1 ∨ (hyM s).E (ix T1) < (hyM s).E j)) → Rr 144 54 [.ref 86, .int (nI r), .int T1, .int (nI j), v] [] (HM L g s f) = some (some T, HM L g s f) := by
      intro z
      have := pass True (iff_true_intro z)
      simp only [e144_54, e144_55]
      exact this
    rw [e144_4]
    simp only [e144_5, e144_6, e144_9, e144_11, e144_12, e144_15, e144_16, e144_17, e144_20, en_88, i_86, f_86_0, a_87, n_87, in_H, rM_H, hN, h1, if_false, M_isWritten (show j < 7 by omega), not_false_eq_true, lvH_Hq, Option.bind_some, psh_i, psh_n, Hq_G, Hq_setG, upf_same, upf_upf, Nat.reduceLT, Nat.reduceLeDiff, Nat.reduceAdd, Nat.reduceMul, b2_0, ite_not]
    by_cases c1 : (hyM s).W j = -1
    · rw [if_pos c1]
      exact no (fun z => z.1 c1)
    · rw [if_neg c1]
      simp only [e144_23, e144_24, e144_25, e144_26, e144_27, e144_30, en_123, i_86, M_isAhead HI h7 hj hr, lvH_Hq, Option.bind_some, psh_i, psh_n, Hq_G, Hq_setG, upf_same, upf_upf, b2_0, ite_not]
      by_cases c2 : hAh (hyM s) j r
      · rw [if_pos c2]
        simp only [e144_33, e144_34, hneg]
        by_cases c3 : T1 = -1
        · rw [if_pos c3]
          exact yes ⟨c1, c2, Or.inl c3⟩
        · rw [if_neg c3]
          obtain ⟨m, hm, e⟩ := hIx.resolve_left c3
          subst e
          simp only [e144_37, e144_38, e144_39, e144_40, e144_41, e144_44, e144_45, e144_46, e144_47, e144_48, e144_51, en_45, i_86, M_ofRow (show j < 7 by omega), M_ofRow (show m < 7 by omega), lvH_Hq, Option.bind_some, psh_i, psh_n, Hq_G, Hq_setG, upf_same, upf_upf, Nat.reduceLT, Nat.reduceLeDiff, Nat.reduceAdd, Nat.reduceMul, hyM_E, le32, ite_not]
          rw [ix_nI (by omega)] at no yes
          by_cases c4 : (hyM s).E m < (hyM s).E j
          · rw [if_pos c4]
            exact yes ⟨c1, c2, Or.inr c4⟩
          · rw [if_neg c4]
            exact no (fun z => z.2.2.elim c3 c4)
      · rw [if_neg c2]
        exact no (fun z => c2 z.2.1)
theorem M_lastOf (HI : hI (hyM s) N) (hN : s.H 6 = nI N) (h7 : N ≤ 7) {r : Nat} (hr : r < N) : Den 144 [.ref 86, .int (nI r)] (HM L g s f) = some (some (hLw (hyM s) r N), HM L g s f) := by
  rw [D0_144]
  simp only [e144_0, e144_1, e144_2, e144_3]
  exact L_mlast HI hN h7 hr N 0 _ (by omega)
theorem M_lastValue (HI : hI (hyM s) N) (hN : s.H 6 = nI N) (h7 : N ≤ 7) {r : Nat} (hr : r < N) : Den 159 [.ref 86, .int (nI r)] (HM L g s f) = some (some (hLv (hyM s) N r), HM L g s f) := by
  have hIx := hLw_ix (h := hyM s) (r := r) N
  have hpos := pos_m1 hIx (by omega)
  rw [D0_159]
  simp only [e159_0, e159_1, e159_2, e159_5, e159_6, e159_7, en_144, i_86, M_lastOf HI hN h7 hr, lvH_Hq, Option.bind_some, psh_i, psh_n, Hq_G, Hq_setG, upf_same, upf_upf]
  unfold hLv
  generalize hLw (hyM s) r N = T1 at hIx hpos ⊢
  simp only [hpos, ite_not]
  by_cases c3 : T1 = -1
  · rw [if_pos c3, if_pos c3]
    simp only [e159_0, e159_1, e159_2, e159_5, e159_6, e159_10, e159_11, e159_14, e159_15, e159_16, e159_17, e159_18, e159_21, en_45, en_144]
  · rw [if_neg c3, if_neg c3]
    obtain ⟨m, hm, e⟩ := hIx.resolve_left c3
    subst e
    rw [ix_nI (by omega)]
    simp only [e159_0, e159_1, e159_2, e159_5, e159_6, e159_10, e159_11, e159_14, e159_15, e159_16, e159_17, e159_18, e159_21, en_45, en_144, i_86, M_ofRow (show m < 7 by omega), lvH_Hq, Option.bind_some, psh_i, psh_n, Hq_G, Hq_setG, upf_same, upf_upf, Nat.reduceLT, Nat.reduceLeDiff, Nat.reduceAdd, Nat.reduceMul, hyM_W]
theorem wrs_5 : (wrs s = 1) = ¬ s.H 0 = nI 5 := by
  unfold wrs
  apply propext
  split
  · rename_i h
    exact ⟨fun z => (by omega), fun z => absurd h z⟩
  · rename_i h
    exact ⟨fun _ => h, fun _ => rfl⟩
theorem M_isJudged (HI : hI (hyM s) N) (h7 : N ≤ 7) {a : Nat} (ha : a < N) : Den 126 [.ref 86, .int (nI a)] (HM L g s f) = some (some (b2 (hJm s a)), HM L g s f) := by
  rw [D0_126, r_b2, if_an, if_an]
  simp only [e126_0, e126_1, e126_2, e126_5, e126_8, e126_9, e126_10, e126_11, e126_14, e126_17, e126_18, e126_21, e126_22, e126_23, e126_24, e126_27, e126_28, e126_31, e126_32, en_84, en_88, i_86, f_86_0, a_87, n_87, in_H, rM_H, M_isWritten (show a < 7 by omega), M_isEnded HI h7 ha, not_false_eq_true, Nat.reduceLT, Nat.reduceLeDiff, Nat.reduceAdd, Nat.reduceMul, lvH_Hq, Option.bind_some, psh_i, psh_n, Hq_G, Hq_setG, upf_same, upf_upf, b2_0, b2_1, b2_01, one_01, zero_01, le32, Classical.not_not, ite_not, wrs_5]
  by_cases h5 : s.H 0 = nI 5
  · simp only [h5, if_true, ite_self]
  · simp only [h5, if_false]
end MM
