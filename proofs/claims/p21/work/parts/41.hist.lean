/-! HISTORIES: what an act writes, told, its start, its end; what is judged of them -/
abbrev Hy : Type := (Nat → Int32) × (Nat → Int32) × (Nat → Int32) × (Nat → Int32)
def Hy.W (h : Hy) : Nat → Int32 := h.1
def Hy.T (h : Hy) : Nat → Int32 := h.2.1
def Hy.S (h : Hy) : Nat → Int32 := h.2.2.1
def Hy.E (h : Hy) : Nat → Int32 := h.2.2.2
def hyC (s : Sx) : Hy := (fun a => s.A a 1, fun a => s.A a 2, fun a => s.A a 3, fun a => s.A a 4)
def hyM (s : Sx) : Hy := (fun a => s.A a 1, fun a => s.A a 4, fun a => s.A a 2, fun a => s.A a 3)
theorem hyC_W {s : Sx} {a : Nat} : s.A a 1 = (hyC s).W a := rfl
theorem hyC_T {s : Sx} {a : Nat} : s.A a 2 = (hyC s).T a := rfl
theorem hyC_S {s : Sx} {a : Nat} : s.A a 3 = (hyC s).S a := rfl
theorem hyC_E {s : Sx} {a : Nat} : s.A a 4 = (hyC s).E a := rfl
abbrev hAh (h : Hy) (a b : Nat) : Prop := ¬ h.E a = -1 ∧ h.E a < h.S b
abbrev hBs (h : Hy) (w r : Nat) : Prop := ¬ h.W w = -1 ∧ ¬ hAh h w r ∧ ¬ hAh h r w
def hLw (h : Hy) (r : Nat) : Nat → Int32
  | 0 => -1
  | k + 1 => if ¬ h.W k = -1 ∧ hAh h k r ∧ (hLw h r k = -1 ∨ h.E (ix (hLw h r k)) < h.E k) then nI k else hLw h r k
def hLv (h : Hy) (n r : Nat) : Int32 := if hLw h r n = -1 then nI 0 else h.W (ix (hLw h r n))
abbrev hTl (h : Hy) (n r : Nat) : Prop := h.T r = hLv h n r
abbrev hTb (h : Hy) (w r : Nat) : Prop := hBs h w r ∧ h.W w = h.T r
def hGd (h : Hy) (n r : Nat) : Nat → Int32
  | 0 => if hTl h n r then hLw h r n + nI 1 else -1
  | k + 1 => if hTb h k r then nI k + nI 1 else hGd h n r k
abbrev hGs (h : Hy) (n r : Nat) : Int32 := hGd h n r n
def hLd (h : Hy) (r : Nat) : Nat → Nat → Int32
  | _, 0 => -1
  | j, k + 1 => if hTb h j r then nI j + nI 1 else hLd h r (j + 1) k
def hLs (h : Hy) (n r : Nat) : Int32 := if hTl h n r then hLw h r n + nI 1 else hLd h r 0 n
abbrev hJd (s : Sx) (a : Nat) : Prop := wrs s = 1 ∧ (hyC s).W a = -1 ∧ ¬ (hyC s).E a = -1
abbrev hSf (h : Hy) (n r : Nat) : Prop := hTl h n r ∨ ∃ w, w < n ∧ hBs h w r
abbrev hGb (s : Sx) (n r : Nat) : Prop := ¬ hGs (hyC s) n r = -1 ∧ ∃ q, q < n ∧ (hJd s q ∧ hAh (hyC s) q r ∧ hGs (hyC s) n r < hLs (hyC s) n q)
/-- the first of k numbers from j on with P; none -/
def fstF (P : Nat → Prop) [DecidablePred P] : Nat → Nat → Int32
  | _, 0 => -1
  | j, k + 1 => if P j then nI j else fstF P (j + 1) k
theorem hLw_ix {h : Hy} {r : Nat} : ∀ n, hLw h r n = -1 ∨ Ix n (hLw h r n)
  | 0 => Or.inl rfl
  | n + 1 => by
    rw [hLw]
    split
    · exact Or.inr ⟨n, by omega, rfl⟩
    · rcases hLw_ix (h := h) (r := r) n with e | ⟨a, ha, e⟩
      · exact Or.inl e
      · exact Or.inr ⟨a, by omega, e⟩
theorem r_b2 {c : Prop} [Decidable c] {h : Hp} : (some (some (b2 c), h) : Option Rs) = if c then some (some (nI 1), h) else some (some (nI 0), h) := by
  unfold b2
  split <;> rfl
theorem if_an {α : Type} {c d : Prop} [Decidable c] [Decidable d] {x y : α} : (if c ∧ d then x else y) = if c then (if d then x else y) else y := by
  by_cases h : c
  · by_cases h2 : d
    · rw [if_pos ⟨h, h2⟩, if_pos h, if_pos h2]
    · rw [if_neg (fun z => h2 z.2), if_pos h, if_neg h2]
  · rw [if_neg (fun z => h z.1), if_neg h]
theorem if_o {α : Type} {c d : Prop} [Decidable c] [Decidable d] {x y : α} : (if c ∨ d then x else y) = if c then x else if d then x else y := by
  by_cases h : c
  · rw [if_pos (Or.inl h), if_pos h]
  · by_cases h2 : d
    · rw [if_pos (Or.inr h2), if_neg h, if_pos h2]
    · rw [if_neg (fun z => z.elim h h2), if_neg h, if_neg h2]
section JJ
variable {L : Nat} {g : Nat → Nat → Int32} {p q : Nat} {s : Sx}
theorem D_isRead (hs : St 170 (SF L) p q) {a : Nat} (ha : a < 7) : Den 59 [.ref p, .int (nI a)] (HP L (upf g q (lay s))) = some (some (b2 ((hyC s).W a = -1)), HP L (upf g q (lay s))) := by
  rw [D0_59, r_b2]
  simp only [e59_0, e59_1, e59_2, e59_3, e59_6, e59_7, e59_10, e59_11, e59_14, e59_15, en_29, hs.i, D_ofAct hs ha, Nat.reduceLT, Nat.reduceLeDiff, Nat.reduceAdd, Nat.reduceMul, lvH_Hq, Option.bind_some, psh_i, psh_n, Hq_G, Hq_setG, upf_same, upf_upf, b2_0, b2_1, b2_01, one_01, zero_01, le32, Classical.not_not, ite_not, hyC_W]
theorem D_hasEnded (hs : St 170 (SF L) p q) {a : Nat} (ha : a < 7) : Den 57 [.ref p, .int (nI a)] (HP L (upf g q (lay s))) = some (some (b2 (¬ (hyC s).E a = -1)), HP L (upf g q (lay s))) := by
  rw [D0_57, r_b2]
  simp only [e57_0, e57_1, e57_2, e57_3, e57_6, e57_7, e57_10, e57_11, e57_14, e57_15, en_29, hs.i, D_ofAct hs ha, Nat.reduceLT, Nat.reduceLeDiff, Nat.reduceAdd, Nat.reduceMul, lvH_Hq, Option.bind_some, psh_i, psh_n, Hq_G, Hq_setG, upf_same, upf_upf, b2_0, b2_1, b2_01, one_01, zero_01, le32, Classical.not_not, ite_not, hyC_E]
theorem D_isAhead (hs : St 170 (SF L) p q) {a b : Nat} (ha : a < 7) (hb : b < 7) : Den 58 [.ref p, .int (nI a), .int (nI b)] (HP L (upf g q (lay s))) = some (some (b2 (hAh (hyC s) a b)), HP L (upf g q (lay s))) := by
  rw [D0_58, r_b2, if_an]
  simp only [e58_0, e58_1, e58_2, e58_3, e58_6, e58_7, e58_8, e58_9, e58_12, e58_13, e58_14, e58_15, e58_16, e58_19, e58_22, e58_23, e58_26, e58_27, en_29, hs.i, D_ofAct hs ha, D_ofAct hs hb, Nat.reduceLT, Nat.reduceLeDiff, Nat.reduceAdd, Nat.reduceMul, lvH_Hq, Option.bind_some, psh_i, psh_n, Hq_G, Hq_setG, upf_same, upf_upf, b2_0, b2_1, b2_01, one_01, zero_01, le32, Classical.not_not, ite_not, hyC_E, hyC_S]
theorem D_writesBeside (hs : St 170 (SF L) p q) {a b : Nat} (ha : a < 7) (hb : b < 7) : Den 102 [.ref p, .int (nI a), .int (nI b)] (HP L (upf g q (lay s))) = some (some (b2 (hBs (hyC s) a b)), HP L (upf g q (lay s))) := by
  rw [D0_102, r_b2, if_an, if_an]
  simp only [e102_0, e102_1, e102_2, e102_5, e102_8, e102_9, e102_10, e102_11, e102_14, e102_17, e102_18, e102_19, e102_20, e102_23, e102_26, e102_27, e102_30, e102_31, en_58, en_59, hs.i, D_isRead hs ha, D_isAhead hs ha hb, D_isAhead hs hb ha, Nat.reduceLT, Nat.reduceLeDiff, Nat.reduceAdd, Nat.reduceMul, lvH_Hq, Option.bind_some, psh_i, psh_n, Hq_G, Hq_setG, upf_same, upf_upf, b2_0, b2_1, b2_01, one_01, zero_01, le32, Classical.not_not, ite_not]
theorem L_lastWriting (hs : St 170 (SF L) p q) {N r : Nat} (hN : s.H 6 = nI N) (h7 : N ≤ 7) (hr : r < 7) : ∀ k j, j + k = N → Rr 100 4 [.ref p, .int (nI r), .int (hLw (hyC s) r j), .int (nI j)] [] (HP L (upf g q (lay s))) = some (some (hLw (hyC s) r N), HP L (upf g q (lay s)))
  | 0, j, h => by
    have : j = N := by omega
    subst this
    rw [e100_4]
    simp only [e100_0, e100_1, e100_2, e100_3, e100_5, e100_6, e100_8, e100_11, e100_14, e100_15, e100_16, e100_19, e100_22, e100_23, e100_24, e100_25, e100_28, e100_31, e100_34, e100_35, e100_36, e100_39, e100_40, e100_41, e100_42, e100_45, e100_46, e100_47, e100_48, e100_51, e100_54, e100_55, e100_56, e100_59, e100_62, e100_63, en_25, en_29, en_58, en_59, hs.i, D_get hs, hN, lvH_Hq, Option.bind_some, psh_i, psh_n, Hq_G, Hq_setG, upf_same, upf_upf, Nat.reduceLT, Nat.reduceLeDiff, Nat.reduceAdd, Nat.reduceMul, Int32.le_refl, if_true]
  | k + 1, j, h => by
    have hj : j < 7 := by omega
    have h1 : ¬ nI N ≤ nI j := nI_ge (by omega) (by omega)
    have ih := L_lastWriting hs hN h7 hr k (j + 1) (by omega)
    have hI := hLw_ix (h := hyC s) (r := r) j
    generalize hLw (hyC s) r N = T at ih ⊢
    rw [hLw] at ih
    rw [e100_4]
    simp only [e100_0, e100_1, e100_2, e100_3, e100_5, e100_6, e100_8, e100_11, e100_14, e100_15, e100_16, e100_19, e100_22, e100_23, e100_24, e100_25, e100_28, e100_31, e100_34, e100_35, e100_36, e100_39, e100_40, e100_41, e100_42, e100_45, e100_46, e100_47, e100_48, e100_51, e100_54, e100_55, e100_56, e100_59, e100_62, e100_63, en_25, en_29, en_58, en_59, hs.i, D_get hs, hN, D_isRead hs hj, D_isAhead hs hj hr, Nat.reduceLT, Nat.reduceLeDiff, Nat.reduceAdd, Nat.reduceMul, lvH_Hq, Option.bind_some, psh_i, psh_n, Hq_G, Hq_setG, upf_same, upf_upf, b2_0, b2_1, b2_01, one_01, zero_01, le32, Classical.not_not, ite_not, h1, if_false, nI_add]
    generalize hLw (hyC s) r j = T1 at ih hI ⊢
    by_cases c1 : (hyC s).W j = -1
    · rw [if_pos c1]
      rw [if_neg (fun z => z.1 c1)] at ih
      exact ih
    · rw [if_neg c1]
      by_cases c2 : hAh (hyC s) j r
      · rw [if_pos c2]
        by_cases c3 : T1 = -1
        · rw [if_pos c3]
          rw [if_pos ⟨c1, c2, Or.inl c3⟩] at ih
          exact ih
        · rw [if_neg c3]
          obtain ⟨m, hm, e⟩ := hI.resolve_left c3
          subst e
          rw [ix_nI (by omega)] at ih
          simp only [e100_0, e100_1, e100_2, e100_3, e100_5, e100_6, e100_8, e100_11, e100_14, e100_15, e100_16, e100_19, e100_22, e100_23, e100_24, e100_25, e100_28, e100_31, e100_34, e100_35, e100_36, e100_39, e100_40, e100_41, e100_42, e100_45, e100_46, e100_47, e100_48, e100_51, e100_54, e100_55, e100_56, e100_59, e100_62, e100_63, en_25, en_29, en_58, en_59, hs.i, D_ofAct hs hj, D_ofAct hs (show m < 7 by omega), Nat.reduceLT, Nat.reduceLeDiff, Nat.reduceAdd, Nat.reduceMul, lvH_Hq, Option.bind_some, psh_i, psh_n, Hq_G, Hq_setG, upf_same, upf_upf, b2_0, b2_1, b2_01, one_01, zero_01, le32, Classical.not_not, ite_not, nI_add, hyC_E]
          by_cases c4 : (hyC s).E m < (hyC s).E j
          · rw [if_pos c4]
            rw [if_pos ⟨c1, c2, Or.inr c4⟩] at ih
            exact ih
          · rw [if_neg c4]
            rw [if_neg (fun z => z.2.2.elim c3 c4)] at ih
            exact ih
      · rw [if_neg c2]
        rw [if_neg (fun z => c2 z.2.1)] at ih
        exact ih
theorem D_lastWriting (hs : St 170 (SF L) p q) {N r : Nat} (hN : s.H 6 = nI N) (h7 : N ≤ 7) (hr : r < 7) : Den 100 [.ref p, .int (nI r)] (HP L (upf g q (lay s))) = some (some (hLw (hyC s) r N), HP L (upf g q (lay s))) := by
  rw [D0_100]
  simp only [e100_0, e100_1, e100_2, e100_3]
  exact L_lastWriting hs hN h7 hr N 0 (by omega)
theorem D_toldLast (hs : St 170 (SF L) p q) {N r : Nat} (hN : s.H 6 = nI N) (h7 : N ≤ 7) (hr : r < 7) : Den 131 [.ref p, .int (nI r)] (HP L (upf g q (lay s))) = some (some (b2 (hTl (hyC s) N r)), HP L (upf g q (lay s))) := by
  have hI := hLw_ix (h := hyC s) (r := r) N
  rw [D0_131]
  simp only [e131_0, e131_1, e131_2, e131_5, e131_6, e131_7, e131_8, e131_9, e131_12, e131_13, e131_14, e131_17, e131_18, e131_21, e131_22, e131_23, e131_24, e131_27, e131_30, e131_31, e131_34, e131_35, en_29, en_100, hs.i, D_lastWriting hs hN h7 hr, D_ofAct hs hr, Nat.reduceLT, Nat.reduceLeDiff, Nat.reduceAdd, Nat.reduceMul, lvH_Hq, Option.bind_some, psh_i, psh_n, Hq_G, Hq_setG, upf_same, upf_upf, b2_0, b2_1, b2_01, one_01, zero_01, le32, Classical.not_not, ite_not]
  unfold hTl hLv
  generalize hLw (hyC s) r N = T1 at hI ⊢
  by_cases c3 : T1 = -1
  · rw [r_b2]
    simp only [c3, if_true, hyC_T]
    by_cases hz : (hyC s).T r = nI 0 <;> simp only [hz, if_true, if_false]
  · obtain ⟨m, hm, e⟩ := hI.resolve_left c3
    subst e
    rw [ix_nI (by omega), r_b2]
    simp only [c3, if_false, D_ofAct hs (show m < 7 by omega), e131_0, e131_1, e131_2, e131_5, e131_6, e131_7, e131_8, e131_9, e131_12, e131_13, e131_14, e131_17, e131_18, e131_21, e131_22, e131_23, e131_24, e131_27, e131_30, e131_31, e131_34, e131_35, en_29, en_100, Nat.reduceLT, Nat.reduceLeDiff, Nat.reduceAdd, Nat.reduceMul, lvH_Hq, Option.bind_some, psh_i, psh_n, Hq_G, Hq_setG, upf_same, upf_upf, b2_0, b2_1, b2_01, one_01, zero_01, le32, Classical.not_not, ite_not, hyC_T, hyC_W]
theorem D_toldBeside (hs : St 170 (SF L) p q) {a b : Nat} (ha : a < 7) (hb : b < 7) : Den 130 [.ref p, .int (nI a), .int (nI b)] (HP L (upf g q (lay s))) = some (some (b2 (hTb (hyC s) a b)), HP L (upf g q (lay s))) := by
  rw [D0_130, r_b2]
  refine Eq.trans ?_ if_an.symm
  simp only [e130_0, e130_1, e130_2, e130_3, e130_6, e130_9, e130_10, e130_11, e130_12, e130_15, e130_16, e130_17, e130_18, e130_21, e130_24, e130_25, e130_28, e130_29, en_29, en_102, hs.i, D_writesBeside hs ha hb, D_ofAct hs ha, D_ofAct hs hb, Nat.reduceLT, Nat.reduceLeDiff, Nat.reduceAdd, Nat.reduceMul, lvH_Hq, Option.bind_some, psh_i, psh_n, Hq_G, Hq_setG, upf_same, upf_upf, b2_0, b2_1, b2_01, one_01, zero_01, le32, Classical.not_not, ite_not, hyC_T, hyC_W]
end JJ
