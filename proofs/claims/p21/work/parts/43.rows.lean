/-! sets of acts as numbers; histories put in a row: what may stand last when just these acts stand there -/
def mkM (P : Nat → Prop) [DecidablePred P] : Nat → Nat
  | 0 => 0
  | k + 1 => if P k then mkM P k ||| 2 ^ k else mkM P k
theorem mkM_lt (P : Nat → Prop) [DecidablePred P] : ∀ k, mkM P k < 2 ^ k
  | 0 => by rw [mkM]; exact Nat.zero_lt_one
  | k + 1 => by
    have ih := mkM_lt P k
    have h2 : 2 ^ k < 2 ^ (k + 1) := Nat.pow_lt_pow_right (by omega) (by omega)
    rw [mkM]
    split
    · exact Nat.or_lt_two_pow (by omega) h2
    · omega
theorem mkM_bit (P : Nat → Prop) [DecidablePred P] {i : Nat} : ∀ k, (mkM P k).testBit i = true ↔ i < k ∧ P i
  | 0 => by simp [mkM]
  | k + 1 => by
    have ih := mkM_bit P (i := i) k
    rw [mkM]
    split
    · rename_i h
      rw [Nat.testBit_or, Nat.testBit_two_pow, Bool.or_eq_true, ih, decide_eq_true_iff]
      constructor
      · rintro (h1 | h1)
        · exact ⟨by omega, h1.2⟩
        · subst h1; exact ⟨by omega, h⟩
      · rintro ⟨h1, h2⟩
        by_cases e : i = k
        · exact Or.inr e.symm
        · exact Or.inl ⟨by omega, h2⟩
    · rename_i h
      rw [ih]
      constructor
      · rintro ⟨h1, h2⟩; exact ⟨by omega, h2⟩
      · rintro ⟨h1, h2⟩
        have : i ≠ k := fun e => h (e ▸ h2)
        exact ⟨by omega, h2⟩
def cnd (h : Hy) (n s a : Nat) : Prop := s.testBit a = false ∧ ∀ b, b < n → hAh h b a → s.testBit b = true
/-- rows of the acts t, the value u written last, as found out of all sets below s -/
def rch (h : Hy) (n : Nat) : Nat → Nat → Nat → Prop
  | 0, t, u => t = 0 ∧ u = 0
  | s + 1, t, u => rch h n s t u ∨ ((∃ v, v < 4 ∧ rch h n s s v) ∧ ∃ a, a < n ∧ cnd h n s a ∧ t = s ||| 2 ^ a ∧ ((h.W a = -1 ∧ ¬ h.E a = -1 ∧ rch h n s s u ∧ h.T a = nI u) ∨ (¬ h.W a = -1 ∧ h.W a = nI u)))
def hGood (h : Hy) (n s : Nat) : Prop := (∃ v, v < 4 ∧ rch h n s s v) ∧ ∀ a, a < n → ¬ h.E a = -1 → s.testBit a = true
def hAt (h : Hy) (n : Nat) : Prop := ∃ s, s < 2 ^ n ∧ hGood h n s
noncomputable def b2c (P : Prop) : Int32 := @b2 P (Classical.propDecidable P)
theorem b2c_t {P : Prop} (h : P) : b2c P = nI 1 := if_pos h
theorem b2c_f {P : Prop} (h : ¬ P) : b2c P = nI 0 := if_neg h
theorem b2c_01 {P : Prop} : b2c P = 0 ∨ b2c P = 1 := @b2_01 P (Classical.propDecidable P)
/-- what a history's numbers may be -/
def hOk (h : Hy) (n : Nat) : Prop := ∀ a, a < n → (h.W a = -1 ∨ ∃ w, w < 4 ∧ h.W a = nI w) ∧ (h.W a = -1 → ¬ h.E a = -1 → ∃ t, t < 10 ∧ h.T a = nI t)
theorem upf_eq {α : Type} {f : Nat → α} {k : Nat} {v : α} (h : f k = v) : upf f k v = f := by
  rw [← h]
  exact upf_id
theorem upd_id {f : Nat → Int32} {k : Nat} : upd f k (f k) = f := by
  funext j
  unfold upd
  split
  · rename_i h; rw [h]
  · rfl
section JJ
variable {L : Nat} {g : Nat → Nat → Int32} {p q : Nat} {s : Sx}
theorem L_endedActs (hs : St 170 (SF L) p q) (hq : g q = lay s) {N : Nat} (h7 : N ≤ 7) : ∀ k j, j + k = N → Rr 98 4 [.ref p, .int (nI N), .int (nI (mkM (fun a => ¬ (hyC s).E a = -1) j)), .int (nI j)] [] (HP L g) = some (some (nI (mkM (fun a => ¬ (hyC s).E a = -1) N)), HP L g)
  | 0, j, h => by
    have : j = N := by omega
    subst this
    rw [e98_4]
    simp only [e98_0, e98_1, e98_2, e98_3, e98_5, e98_6, e98_9, e98_10, e98_11, e98_14, e98_17, e98_18, e98_19, e98_20, e98_21, e98_22, e98_23, e98_26, e98_29, e98_30, en_57, lvH_Hq, Option.bind_some, psh_i, psh_n, Hq_G, Hq_setG, upf_same, upf_upf, Nat.reduceLT, Nat.reduceLeDiff, Nat.reduceAdd, Nat.reduceMul, Int32.le_refl, if_true]
  | k + 1, j, h => by
    have hj : j < 7 := by omega
    have h1 : ¬ nI N ≤ nI j := nI_ge (by omega) (by omega)
    have ih := L_endedActs hs hq h7 k (j + 1) (by omega)
    have D := D_hasEnded (g := g) (s := s) hs hj
    rw [upf_eq hq] at D
    have hm : mkM (fun a => ¬ (hyC s).E a = -1) j < 128 := by
      have h2 := mkM_lt (fun a => ¬ (hyC s).E a = -1) j
      have h3 : 2 ^ j ≤ 2 ^ 7 := Nat.pow_le_pow_right (by omega) (by omega)
      omega
    generalize mkM (fun a => ¬ (hyC s).E a = -1) N = T at ih ⊢
    rw [mkM] at ih
    rw [e98_4]
    simp only [e98_0, e98_1, e98_2, e98_3, e98_5, e98_6, e98_9, e98_10, e98_11, e98_14, e98_17, e98_18, e98_19, e98_20, e98_21, e98_22, e98_23, e98_26, e98_29, e98_30, en_57, D, Nat.reduceLT, Nat.reduceLeDiff, Nat.reduceAdd, Nat.reduceMul, lvH_Hq, Option.bind_some, psh_i, psh_n, Hq_G, Hq_setG, upf_same, upf_upf, b2_0, b2_1, b2_01, one_01, zero_01, le32, Classical.not_not, ite_not, h1, if_false, nI_add, q_sh _ hm _ hj]
    by_cases c : (hyC s).E j = -1
    · simp only [c, if_true, not_true_eq_false, if_false] at ih ⊢
      exact ih
    · simp only [c, if_false, not_false_eq_true, if_true] at ih ⊢
      exact ih
theorem D_endedActs (hs : St 170 (SF L) p q) (hq : g q = lay s) {N : Nat} (h7 : N ≤ 7) : Den 98 [.ref p, .int (nI N)] (HP L g) = some (some (nI (mkM (fun a => ¬ (hyC s).E a = -1) N)), HP L g) := by
  rw [D0_98]
  simp only [e98_0, e98_1, e98_2, e98_3]
  exact L_endedActs hs hq h7 N 0 (by omega)
theorem L_actsAhead (hs : St 170 (SF L) p q) (hq : g q = lay s) {N r : Nat} (hN : s.H 6 = nI N) (h7 : N ≤ 7) (hr : r < 7) : ∀ k j, j + k = N → Rr 97 4 [.ref p, .int (nI r), .int (nI (mkM (fun a => hAh (hyC s) a r) j)), .int (nI j)] [] (HP L g) = some (some (nI (mkM (fun a => hAh (hyC s) a r) N)), HP L g)
  | 0, j, h => by
    have : j = N := by omega
    subst this
    have D2 := D_get (g := g) (s := s) hs (show 6 < 7 by omega)
    rw [upf_eq hq] at D2
    rw [e97_4]
    simp only [e97_0, e97_1, e97_2, e97_3, e97_5, e97_6, e97_8, e97_11, e97_14, e97_15, e97_16, e97_17, e97_20, e97_23, e97_24, e97_25, e97_26, e97_27, e97_28, e97_29, e97_32, e97_35, e97_36, en_25, en_58, hs.i, D2, hN, lvH_Hq, Option.bind_some, psh_i, psh_n, Hq_G, Hq_setG, upf_same, upf_upf, Nat.reduceLT, Nat.reduceLeDiff, Nat.reduceAdd, Nat.reduceMul, Int32.le_refl, if_true]
  | k + 1, j, h => by
    have hj : j < 7 := by omega
    have h1 : ¬ nI N ≤ nI j := nI_ge (by omega) (by omega)
    have ih := L_actsAhead hs hq hN h7 hr k (j + 1) (by omega)
    have D := D_isAhead (g := g) (s := s) hs hj hr
    rw [upf_eq hq] at D
    have D2 := D_get (g := g) (s := s) hs (show 6 < 7 by omega)
    rw [upf_eq hq] at D2
    have hm : mkM (fun a => hAh (hyC s) a r) j < 128 := by
      have h2 := mkM_lt (fun a => hAh (hyC s) a r) j
      have h3 : 2 ^ j ≤ 2 ^ 7 := Nat.pow_le_pow_right (by omega) (by omega)
      omega
    generalize mkM (fun a => hAh (hyC s) a r) N = T at ih ⊢
    rw [mkM] at ih
    rw [e97_4]
    simp only [e97_0, e97_1, e97_2, e97_3, e97_5, e97_6, e97_8, e97_11, e97_14, e97_15, e97_16, e97_17, e97_20, e97_23, e97_24, e97_25, e97_26, e97_27, e97_28, e97_29, e97_32, e97_35, e97_36, en_25, en_58, hs.i, D, D2, hN, Nat.reduceLT, Nat.reduceLeDiff, Nat.reduceAdd, Nat.reduceMul, lvH_Hq, Option.bind_some, psh_i, psh_n, Hq_G, Hq_setG, upf_same, upf_upf, b2_0, b2_1, b2_01, one_01, zero_01, le32, Classical.not_not, ite_not, h1, if_false, nI_add, q_sh _ hm _ hj]
    by_cases c : hAh (hyC s) j r
    · rw [if_pos c] at ih ⊢
      exact ih
    · rw [if_neg c] at ih ⊢
      exact ih
theorem D_actsAhead (hs : St 170 (SF L) p q) (hq : g q = lay s) {N r : Nat} (hN : s.H 6 = nI N) (h7 : N ≤ 7) (hr : r < 7) : Den 97 [.ref p, .int (nI r)] (HP L g) = some (some (nI (mkM (fun a => hAh (hyC s) a r) N)), HP L g) := by
  rw [D0_97]
  simp only [e97_0, e97_1, e97_2, e97_3]
  exact L_actsAhead hs hq hN h7 hr N 0 (by omega)
def newm (h : Hy) (a m0 m1 : Nat) : Nat := if h.W a = -1 then (if h.E a = -1 then m1 else m1 ||| m0 &&& 2 ^ ix (h.T a)) else m1 ||| 2 ^ ix (h.W a)
theorem D_putBehind (hs : St 170 (SF L) p q) (hq : g q = lay s) {N t a m0 m1 : Nat} (ho : hOk (hyC s) N) (ht : t < 128) (haN : a < N) (ha : a < 7) (h0 : g 6 t = nI m0) (h1 : g 6 (t ||| 2 ^ a) = nI m1) (hm0 : m0 < 16) (hm1 : m1 < 16) : Den 101 [.ref 4, .ref p, .int (nI t), .int (nI a)] (HP L g) = some (none, HP L (upf g 6 (upd (g 6) (t ||| 2 ^ a) (nI (newm (hyC s) a m0 m1))))) := by
  have hto := q_or t ht a ha
  have D1 := D_isRead (g := g) (s := s) hs ha
  have D2 := D_hasEnded (g := g) (s := s) hs ha
  have D3 := D_ofAct (g := g) (s := s) hs ha (show 1 < 5 by omega)
  have D4 := D_ofAct (g := g) (s := s) hs ha (show 2 < 5 by omega)
  rw [upf_eq hq] at D1 D2 D3 D4
  have k1 : ¬ nI t < 0 := nI_pos (by omega)
  have k2 : nI (t ||| 2 ^ a) < nI 128 := nI_lt hto (by omega)
  have k3 : (nI (t ||| 2 ^ a)).toNatClampNeg = t ||| 2 ^ a := nI_clamp (by omega)
  have k4 : ¬ 128 ≤ t ||| 2 ^ a := by omega
  have k5 : (nI t).toNatClampNeg = t := nI_clamp (by omega)
  have k6 : ¬ 128 ≤ t := by omega
  have k7 : ¬ nI (t ||| 2 ^ a) < 0 := nI_pos (by omega)
  obtain ⟨oW, oT⟩ := ho a haN
  rw [D0_101]
  simp only [e101_0, e101_1, e101_2, e101_3, e101_4, e101_5, e101_7, e101_8, e101_11, e101_13, e101_16, e101_20, e101_21, e101_22, e101_25, en_59, q_sh t ht a ha, k1, k2, if_true, if_false, hs.i, i_4, D1, Nat.reduceLT, Nat.reduceLeDiff, Nat.reduceAdd, Nat.reduceMul, lvH_Hq, Option.bind_some, psh_i, psh_n, Hq_G, Hq_setG, upf_same, upf_upf, b2_0, b2_1, b2_01, one_01, zero_01, le32, Classical.not_not, ite_not]
  unfold newm
  by_cases c1 : (hyC s).W a = -1
  · rw [if_pos c1, if_pos c1]
    simp only [e101_49, e101_50, e101_51, e101_54, en_57, D2, hs.i, Nat.reduceLT, Nat.reduceLeDiff, Nat.reduceAdd, Nat.reduceMul, lvH_Hq, Option.bind_some, psh_i, psh_n, Hq_G, Hq_setG, upf_same, upf_upf, b2_0, b2_1, b2_01, one_01, zero_01, le32, Classical.not_not, ite_not]
    by_cases c2 : (hyC s).E a = -1
    · rw [if_pos c2, if_pos c2, ← h1, upd_id, upf_id, e101_82]
    · rw [if_neg c2, if_neg c2]
      obtain ⟨x, hx, e⟩ := oT c1 c2
      rw [e, ix_nI (by omega)]
      rw [hyC_T, e] at D4
      simp only [e101_0, e101_1, e101_2, e101_3, e101_4, e101_5, e101_7, e101_8, e101_11, e101_13, e101_16, e101_19, e101_20, e101_21, e101_22, e101_25, e101_28, e101_29, e101_32, e101_34, e101_35, e101_36, e101_37, e101_38, e101_39, e101_40, e101_43, e101_44, e101_45, e101_46, e101_49, e101_50, e101_51, e101_54, e101_57, e101_58, e101_61, e101_63, e101_64, e101_65, e101_66, e101_69, e101_70, e101_71, e101_72, e101_73, e101_74, e101_75, e101_78, e101_79, e101_80, e101_81, en_29, en_57, en_59, i_4, f_4_1, a_6, b_6, n_6, D4, hs.i, k3, k4, k5, k6, k7, k1, or_self, not_false_eq_true, h0, h1, q_vt m1 hm1 m0 hm0 x hx, Nat.reduceLT, Nat.reduceLeDiff, Nat.reduceAdd, Nat.reduceMul, lvH_Hq, Option.bind_some, psh_i, psh_n, Hq_G, Hq_setG, upf_same, upf_upf, b2_0, b2_1, b2_01, one_01, zero_01, le32, Classical.not_not, ite_not]
      rw [e101_82]
  · rw [if_neg c1, if_neg c1]
    obtain ⟨x, hx, e⟩ := oW.resolve_left c1
    rw [e, ix_nI (by omega)]
    rw [hyC_W, e] at D3
    simp only [e101_0, e101_1, e101_2, e101_3, e101_4, e101_5, e101_7, e101_8, e101_11, e101_13, e101_16, e101_19, e101_20, e101_21, e101_22, e101_25, e101_28, e101_29, e101_32, e101_34, e101_35, e101_36, e101_37, e101_38, e101_39, e101_40, e101_43, e101_44, e101_45, e101_46, e101_49, e101_50, e101_51, e101_54, e101_57, e101_58, e101_61, e101_63, e101_64, e101_65, e101_66, e101_69, e101_70, e101_71, e101_72, e101_73, e101_74, e101_75, e101_78, e101_79, e101_80, e101_81, en_29, en_57, en_59, i_4, f_4_1, a_6, b_6, n_6, D3, hs.i, k3, k4, k7, or_self, not_false_eq_true, h0, h1, q_v m1 hm1 x hx, Nat.reduceLT, Nat.reduceLeDiff, Nat.reduceAdd, Nat.reduceMul, lvH_Hq, Option.bind_some, psh_i, psh_n, Hq_G, Hq_setG, upf_same, upf_upf, b2_0, b2_1, b2_01, one_01, zero_01, le32, Classical.not_not, ite_not]
    rw [e101_82]
theorem L_fill (x : Int32) {f : Nat → Int32} : ∀ k j, j + k = 128 → Rr 0 5 [.ref 6, .int x, .int (nI j), .int (nI 128)] [] (HP L (upf g 6 (fun i => if i < j then x else f i))) = some (none, HP L (upf g 6 (fun i => if i < 128 then x else f i)))
  | 0, j, h => by
    have : j = 128 := by omega
    subst this
    rw [e0_5]
    simp only [e0_6, e0_7, e0_20, Int32.le_refl, if_true]
  | k + 1, j, h => by
    have h1 : ¬ nI 128 ≤ nI j := nI_ge (by omega) (by omega)
    have ih := L_fill x (f := f) k (j + 1) (by omega)
    have k3 : (nI j).toNatClampNeg = j := nI_clamp (by omega)
    have k4 : ¬ 128 ≤ j := by omega
    have k7 : ¬ nI j < 0 := nI_pos (by omega)
    rw [e0_5]
    simp only [e0_0, e0_1, e0_2, e0_3, e0_4, e0_6, e0_7, e0_10, e0_11, e0_12, e0_13, e0_14, e0_17, e0_20, b_6, n_6, h1, if_false, k3, k4, k7, or_self, not_false_eq_true, lvH_Hq, Option.bind_some, psh_i, psh_n, Hq_G, Hq_setG, upf_same, upf_upf, nI_add]
    rw [← ih]
    congr 3
    funext i
    unfold upd
    by_cases e : i = j
    · subst e
      rw [if_pos rfl, if_pos (by omega)]
    · rw [if_neg e]
      dsimp only
      by_cases e2 : i < j
      · rw [if_pos e2, if_pos (by omega)]
      · rw [if_neg e2, if_neg (by omega)]
theorem D_fill (x : Int32) : Den 0 [.ref 6, .int x] (HP L g) = some (none, HP L (upf g 6 (fun i => if i < 128 then x else g 6 i))) := by
  have h := L_fill (L := L) (g := g) (f := g 6) x 128 0 (by omega)
  have e : (fun i => if i < 0 then x else g 6 i) = g 6 := by
    funext i
    rw [if_neg (by omega)]
  rw [e, upf_id] at h
  rw [D0_0]
  simp only [e0_0, e0_1, e0_2, e0_3, e0_4, l_6, n_6]
  exact h
end JJ
