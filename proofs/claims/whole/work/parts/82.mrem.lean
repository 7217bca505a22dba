/-! THE MODEL: what is remembered, taken back, laid anew -/
def shR (rs : Nat → Sx) (j : Nat) : Nat → Sx := fun i => if j < i ∧ i < 17 then rs (i - 1) else rs i
def unR (rs : Nat → Sx) (n j : Nat) : Nat → Sx := fun i => if i < j then rs (i + n) else rs i
def mNew (b po ba r n : Int32) : Sx := itr (fun s p => s.sP p 0 (-1)) 5 ((((((zS.sH 0 b).sH 1 po).sH 2 ba).sH 3 r).sH 4 n).sC 0 (if b = nI 2 then nI 1 else nI 0))
section RR
variable {L a b : Nat} {g : Nat → Nat → Int32} {s : Sx} {f F : Nat → Int32} {rs : Nat → Sx}
theorem gMn {k : Nat} (h : ¬ k = 87) : Gt (HP L (upf g 87 F)) k = g k := upf_ne h
theorem sMn {k : Nat} {G : Nat → Int32} (h : ¬ k = 87) : setG (HP L (upf g 87 F)) k G = HP L (upf (upf g k G) 87 F) := by
  rw [Hq_setG]
  congr 1
  funext i
  unfold upf
  by_cases e : i = k
  · subst e
    rw [if_pos rfl, if_neg h, if_pos rfl]
  · rw [if_neg e]
    by_cases e2 : i = 87
    · rw [if_pos e2, if_pos e2]
    · rw [if_neg e2, if_neg e2, if_neg e]
theorem shR_up {k : Nat} (h : k < 16) : upf (shR rs (k + 1)) (k + 1) (shR rs (k + 1) k) = shR rs k := by
  have e : shR rs (k + 1) k = rs k := if_neg (by omega)
  rw [e]
  funext i
  unfold upf shR
  by_cases h1 : i = k + 1
  · subst h1
    rw [if_pos rfl, if_pos (by omega), Nat.add_sub_cancel]
  · rw [if_neg h1]
    by_cases h2 : k + 1 < i ∧ i < 17
    · rw [if_pos h2, if_pos (by omega)]
    · rw [if_neg h2, if_neg (by omega)]
theorem pred_s {k : Nat} : nI (k + 1) + (Int32.ofInt (-1)) = nI k := by
  have e : nI (k + 1) + (Int32.ofInt (-1)) = nI (k + 1) - 1 := by
    rw [Int32.sub_eq_add_neg]
    rfl
  rw [e, nI_pred]
theorem L_remember : ∀ k, k ≤ 16 → Rr 47 3 [.ref 86, .int (nI k)] [] (HR L g (shR rs k)) = Rr 47 21 [.ref 86, .int (nI 0)] [] (HR L g (shR rs 0))
  | 0, h => by
    rw [e47_3]
    simp only [e47_0, e47_2, e47_4, e47_7, e47_8, e47_9, e47_10, e47_11, e47_12, e47_15, e47_18, e47_22, e47_23, e47_26, e47_28, e47_31, e47_32, e47_35, e47_36, e47_37, e47_40, e47_42, e47_45, en_8, show nI 0 ≤ 0 from Int32.le_refl _, if_true]
  | k + 1, h => by
    have ih := L_remember k (by omega)
    have h1 : ¬ nI (k + 1) ≤ 0 := nI_ge (a := 0) (by omega) (by omega)
    have h2 : nI (k + 1) - nI 1 = nI k := nI_pred k
    rw [e47_3]
    simp only [e47_0, e47_2, e47_4, e47_7, e47_8, e47_9, e47_10, e47_11, e47_12, e47_15, e47_18, e47_22, e47_23, e47_26, e47_28, e47_31, e47_32, e47_35, e47_36, e47_37, e47_40, e47_42, e47_45, en_8, i_86, h1, if_false, h2, M_copyRow (show k < 80 by omega) (show k + 1 < 80 by omega), lvH_Hq, Option.bind_some, psh_i, psh_n, Hq_G, Hq_setG, upf_same, upf_upf, pred_s]
    rw [shR_up (by omega), ih]
theorem shR_16 : shR rs 16 = rs := by
  funext i
  exact if_neg (by omega)
theorem M_remember {k : Nat} (hk : g 86 1 = nI k) (h16 : k ≤ 16) : Den 47 [.ref 86] (HR L g rs) = some (none, HR L (upf g 86 (upd (g 86) 1 (nI (if k < 16 then k + 1 else 16)))) (shR rs 0)) := by
  have h := L_remember (L := L) (g := g) (rs := rs) 16 (by omega)
  rw [shR_16] at h
  rw [D0_47]
  simp only [e47_0, e47_2, e47_4, e47_7, e47_8, e47_9, e47_10, e47_11, e47_12, e47_15, e47_18, e47_21, e47_22, e47_23, e47_26, e47_28, e47_31, e47_32, e47_35, e47_36, e47_37, e47_40, e47_42, e47_45, en_8]
  rw [h]
  simp only [e47_0, e47_2, e47_4, e47_7, e47_8, e47_9, e47_10, e47_11, e47_12, e47_15, e47_18, e47_21, e47_22, e47_23, e47_26, e47_28, e47_31, e47_32, e47_35, e47_36, e47_37, e47_40, e47_42, e47_45, en_8, i_86, gMn (show ¬ 86 = 87 by decide), sMn (show ¬ 86 = 87 by decide), hk]
  by_cases c : k < 16
  · rw [if_neg (nI_ge c (by omega)), if_pos c, nI_add]
  · rw [if_pos ((nI_leI (by omega) (by omega)).mpr (by omega)), if_neg c]
theorem unR_up {n j : Nat} : upf (unR rs n j) j (unR rs n j (j + n)) = unR rs n (j + 1) := by
  have e : unR rs n j (j + n) = rs (j + n) := if_neg (by omega)
  rw [e]
  funext i
  unfold upf unR
  by_cases h1 : i = j
  · subst h1
    rw [if_pos rfl, if_pos (by omega)]
  · rw [if_neg h1]
    by_cases h2 : i < j
    · rw [if_pos h2, if_pos (by omega)]
    · rw [if_neg h2, if_neg (by omega)]
theorem L_undo {n : Nat} (h1 : 1 ≤ n) (h16 : n ≤ 16) : ∀ k j, j + k = 17 - n → Rr 49 28 [.ref 86, .int (nI n), .int (nI j)] [] (HR L g (unR rs n j)) = Rr 49 50 [.ref 86, .int (nI n), .int (nI (17 - n))] [] (HR L g (unR rs n (17 - n)))
  | 0, j, h => by
    have : j = 17 - n := by omega
    subst this
    have a1 : nI 16 < nI (17 - n) + nI n := by
      rw [nI_add]
      exact nI_lt (by omega) (by omega)
    rw [e49_28]
    simp only [e49_0, e49_1, e49_2, e49_3, e49_6, e49_9, e49_12, e49_14, e49_15, e49_16, e49_17, e49_20, e49_23, e49_25, e49_26, e49_27, e49_29, e49_30, e49_31, e49_33, e49_36, e49_37, e49_38, e49_39, e49_40, e49_41, e49_44, e49_47, e49_51, e49_52, e49_55, e49_56, e49_57, e49_60, e49_61, e49_64, en_8, en_10, a1, if_true]
  | k + 1, j, h => by
    have ih := L_undo h1 h16 k (j + 1) (by omega)
    have a1 : ¬ nI 16 < nI (j + n) := nI_nlt (by omega) (by omega)
    rw [e49_28]
    simp only [e49_0, e49_1, e49_2, e49_3, e49_6, e49_9, e49_12, e49_14, e49_15, e49_16, e49_17, e49_20, e49_23, e49_25, e49_26, e49_27, e49_29, e49_30, e49_31, e49_33, e49_36, e49_37, e49_38, e49_39, e49_40, e49_41, e49_44, e49_47, e49_51, e49_52, e49_55, e49_56, e49_57, e49_60, e49_61, e49_64, en_8, en_10, i_86, a1, if_false, nI_add, M_copyRow (show j + n < 80 by omega) (show j < 80 by omega), lvH_Hq, Option.bind_some, psh_i, psh_n, Hq_G, Hq_setG, upf_same, upf_upf]
    rw [unR_up, ih]
theorem unR_0 {n : Nat} : unR rs n 0 = rs := by
  funext i
  exact if_neg (by omega)
theorem in_1_16 {n : Nat} (h1 : 1 ≤ n) (h16 : n ≤ 16) : b2 (nI 1 ≤ nI n ∧ nI n ≤ nI 16) = nI 1 := if_pos ⟨(nI_leI (by omega) (by omega)).mpr h1, (nI_leI (by omega) (by omega)).mpr h16⟩
/-- undo, when there is so much to take back -/
theorem M_undo1 {n k : Nat} (h1 : 1 ≤ n) (h16 : n ≤ 16) (hk : g 86 1 = nI k) (hnk : n ≤ k) (hk16 : k ≤ 16) : Den 49 [.ref 86, .int (nI n)] (HR L g rs) = some (some (nI (k - n)), HR L (upf g 86 (upd (g 86) 1 (nI (k - n)))) (unR rs n (17 - n))) := by
  have h := L_undo (L := L) (g := g) (rs := rs) h1 h16 (17 - n) 0 (by omega)
  rw [unR_0] at h
  have a1 : nI n ≤ nI k := (nI_leI (by omega) (by omega)).mpr hnk
  have a2 : upd (g 86) 1 (nI (k - n)) 1 = nI (k - n) := if_pos rfl
  rw [D0_49]
  simp only [e49_0, e49_1, e49_2, e49_3, e49_6, e49_9, e49_12, e49_14, e49_15, e49_16, e49_17, e49_20, e49_23, e49_25, e49_26, e49_27, e49_29, e49_30, e49_31, e49_33, e49_36, e49_37, e49_38, e49_39, e49_40, e49_41, e49_44, e49_47, e49_51, e49_52, e49_55, e49_56, e49_57, e49_60, e49_61, e49_64, en_8, en_10, i_86, M_in (x := nI n) (lo := nI 1) (hi := nI 16) (l := 1) (u := 16) (by decide) (by decide), in_1_16 h1 h16, gMn (show ¬ 86 = 87 by decide), hk, a1, if_true, one_n0, not_false_eq_true, lvH_Hq, Option.bind_some, psh_i, psh_n]
  rw [h]
  simp only [e49_0, e49_1, e49_2, e49_3, e49_6, e49_9, e49_12, e49_14, e49_15, e49_16, e49_17, e49_20, e49_23, e49_25, e49_26, e49_27, e49_29, e49_30, e49_31, e49_33, e49_36, e49_37, e49_38, e49_39, e49_40, e49_41, e49_44, e49_47, e49_50, e49_51, e49_52, e49_55, e49_56, e49_57, e49_60, e49_61, e49_64, en_8, en_10, i_86, gMn (show ¬ 86 = 87 by decide), sMn (show ¬ 86 = 87 by decide), upf_same, hk, pk_sub hnk, a2]
end RR
