section ST
variable {n : Nat} {S : Nat → Shp} {g : Nat → Nat → Int32} {p q : Nat} {s : Sx}
theorem L_underWay (hs : St n S p q) : ∀ k j, j + k = 5 → Rr 110 4 [.ref p, .int (cntU s j), .int (nI j)] [] (Hq n S (upf g q (lay s))) = some (some (cntU s 5), Hq n S (upf g q (lay s)))
  | 0, j, h => by
    have : j = 5 := by omega
    subst this
    rw [e110_4]
    simp only [e110_0, e110_1, e110_2, e110_3, e110_5, e110_6, e110_9, e110_10, e110_11, e110_14, e110_17, e110_20, e110_23, e110_26, e110_27, en_66, Int32.le_refl, if_true]
  | k + 1, j, h => by
    have hj : j < 5 := by omega
    have h1 : ¬ nI 5 ≤ nI j := nI_ge hj (by omega)
    have ih := L_underWay hs k (j + 1) (by omega)
    rw [e110_4]
    simp only [e110_0, e110_1, e110_2, e110_3, e110_5, e110_6, e110_9, e110_10, e110_11, e110_14, e110_17, e110_20, e110_23, e110_26, e110_27, en_66, h1, if_false, hs.i, D_isUnderWay hs hj, lvH_Hq, Option.bind_some, psh_i, psh_n, Hq_G, Hq_setG, upf_same, upf_upf, b2_0, Classical.not_not, nI_add]
    by_cases h2 : s.P j 0 = -1
    · simp only [cntU, h2, if_true] at ih ⊢
      exact ih
    · simp only [cntU, h2, if_false] at ih ⊢
      exact ih
theorem D_underWay (hs : St n S p q) : Den 110 [.ref p] (Hq n S (upf g q (lay s))) = some (some (cntU s 5), Hq n S (upf g q (lay s))) := by
  rw [D0_110]
  simp only [e110_0, e110_1, e110_2, e110_3, e110_5, e110_6, e110_9, e110_10, e110_11, e110_14, e110_17, e110_20, e110_23, e110_26, e110_27, en_66]
  exact L_underWay hs 5 0 rfl
theorem L_stamp (hs : St n S p q) {N : Nat} (hN : clls s = nI N) (h9 : N ≤ 9) : ∀ k j, j + k = N → Rr 133 15 [.ref p, .int (gst s j), .int (nI j)] [] (Hq n S (upf g q (lay s))) = some (some (gst s N), Hq n S (upf g q (lay s)))
  | 0, j, h => by
    have : j = N := by omega
    subst this
    rw [e133_15]
    simp only [e133_0, e133_1, e133_2, e133_3, e133_4, e133_7, e133_8, e133_11, e133_12, e133_13, e133_14, e133_16, e133_17, e133_20, e133_23, e133_24, e133_25, e133_26, e133_29, e133_31, e133_32, e133_35, e133_36, e133_39, e133_42, e133_43, en_25, en_26, en_107, hs.i, D_cells hs, lvH_Hq, Option.bind_some, psh_i, psh_n, Hq_G, Hq_setG, upf_same, upf_upf, hN, Int32.le_refl, if_true]
  | k + 1, j, h => by
    have hj : j < 9 := by omega
    have h1 : ¬ nI N ≤ nI j := nI_ge (by omega) (by omega)
    have h3 : ¬ nI 100 = 0 := by decide
    have ih := L_stamp hs hN h9 k (j + 1) (by omega)
    rw [e133_15]
    simp only [e133_0, e133_1, e133_2, e133_3, e133_4, e133_7, e133_8, e133_11, e133_12, e133_13, e133_14, e133_16, e133_17, e133_20, e133_23, e133_24, e133_25, e133_26, e133_29, e133_31, e133_32, e133_35, e133_36, e133_39, e133_42, e133_43, en_25, en_26, en_107, hs.i, D_cells hs, D_held hs hj, lvH_Hq, Option.bind_some, psh_i, psh_n, Hq_G, Hq_setG, upf_same, upf_upf, hN, h1, h3, not_false_eq_true, if_false, nI_add]
    exact ih
theorem D_greatestStamp (hs : St n S p q) {N : Nat} (hN : clls s = nI N) (h9 : N ≤ 9) : Den 133 [.ref p] (Hq n S (upf g q (lay s))) = some (some (if nI 3 ≤ s.H 0 then gst s N else nI 0), Hq n S (upf g q (lay s))) := by
  rw [D0_133]
  simp only [e133_0, e133_1, e133_2, e133_3, e133_4, e133_7, e133_8, e133_11, e133_12, e133_13, e133_14, e133_16, e133_17, e133_20, e133_23, e133_24, e133_25, e133_26, e133_29, e133_31, e133_32, e133_35, e133_36, e133_39, e133_42, e133_43, en_25, en_26, en_107, hs.i, D_get hs, Nat.reduceLT, Nat.reduceLeDiff, Nat.reduceAdd, Nat.reduceMul, lvH_Hq, Option.bind_some, psh_i, psh_n, Hq_G, Hq_setG, upf_same, upf_upf]
  by_cases h : nI 3 ≤ s.H 0
  · simp only [h, if_true]
    exact L_stamp hs hN h9 N 0 (by omega)
  · simp only [h, if_false]
def rsR (r : Nat → Int32) (j : Nat) : Nat → Int32 := fun i => if 5 ≤ i ∧ i < j then 0 else r i
theorem L_rst1 (hs : St n S p q) {r : Nat → Int32} {v : Value} : ∀ k j, j + k = 146 → 5 ≤ j → Rr 109 2 [.ref p, .int (nI j)] [] (Hq n S (upf g q (rsR r j))) = Rr 109 21 [.ref p, .int (nI 146)] [] (Hq n S (upf g q (rsR r 146)))
  | 0, j, h, h5 => by
    have : j = 146 := by omega
    subst this
    rw [e109_2]
    simp only [e109_3, e109_6, Int32.le_refl, if_true]
  | k + 1, j, h, h5 => by
    have hj : j < 146 := by omega
    have h1 : ¬ nI 146 ≤ nI j := nI_ge hj (by omega)
    have ih := L_rst1 hs (r := r) (v := v) k (j + 1) (by omega) (by omega)
    rw [e109_2]
    simp only [e109_3, e109_6, e109_9, e109_10, e109_11, e109_12, e109_15, e109_18, h1, if_false, hs.i, en_30, G_put hs hj, lvH_Hq, Option.bind_some, psh_i, psh_n, Hq_G, Hq_setG, upf_same, upf_upf, nI_add]
    rw [← ih]
    congr 3
    funext i
    unfold upd rsR
    by_cases e : i = j
    · subst e
      rw [if_pos rfl, if_pos (by omega)]
      rfl
    · rw [if_neg e]
      by_cases e2 : 5 ≤ i ∧ i < j
      · rw [if_pos e2, if_pos (by omega)]
      · rw [if_neg e2, if_neg (by omega)]
def rsP (s : Sx) (p : Nat) : Sx := (s.sP p 0 (-1)).sP p 3 (-1)
theorem L_rst2 (hs : St n S p q) : ∀ k j, j + k = 5 → Rr 109 23 [.ref p, .int (nI j)] [] (Hq n S (upf g q (lay (itr rsP j s)))) = Rr 109 48 [.ref p, .int (nI 5)] [] (Hq n S (upf g q (lay (itr rsP 5 s))))
  | 0, j, h => by
    have : j = 5 := by omega
    subst this
    rw [e109_23]
    simp only [e109_24, e109_25, Int32.le_refl, if_true]
  | k + 1, j, h => by
    have hj : j < 5 := by omega
    have h1 : ¬ nI 5 ≤ nI j := nI_ge hj (by omega)
    have ih := L_rst2 hs k (j + 1) (by omega)
    rw [e109_23]
    simp only [e109_24, e109_25, e109_28, e109_29, e109_30, e109_31, e109_32, e109_35, e109_36, e109_37, e109_38, e109_39, e109_42, e109_45, h1, if_false, hs.i, en_68, D_set hs hj, Nat.reduceLT, Nat.reduceLeDiff, Nat.reduceAdd, Nat.reduceMul, lvH_Hq, Option.bind_some, psh_i, psh_n, Hq_G, Hq_setG, upf_same, upf_upf, nI_add]
    exact ih
theorem lay_rst (s : Sx) : rsR (lay s) 146 = lay (mkS (fun k => if k < 5 then s.H k else 0) (fun _ => 0) (fun _ _ => 0) (fun _ _ => 0)) := by
  funext i
  unfold rsR lay
  by_cases h1 : i < 5
  · rw [if_neg (by omega), if_pos (by omega), if_pos (by omega)]
    exact (if_pos h1).symm
  · by_cases h2 : i < 7
    · rw [if_pos (by omega), if_pos h2]
      exact (if_neg h1).symm
    · rw [if_neg h2, if_neg h2]
      by_cases h3 : i < 146
      · rw [if_pos (by omega), if_pos h3]
        simp only [mk_C, mk_A, mk_P, ite_self]
      · rw [if_neg (by omega), if_neg h3, if_neg (by omega), if_neg (by omega), if_neg h3, if_neg (by omega), if_neg (by omega)]
theorem lay_congr {s t : Sx} (h1 : ∀ k, k < 7 → s.H k = t.H k) (h2 : ∀ k, k < 9 → s.C k = t.C k) (h3 : ∀ a, a < 7 → ∀ k, k < 5 → s.A a k = t.A a k) (h4 : ∀ a, a < 5 → ∀ k, k < 19 → s.P a k = t.P a k) : lay s = lay t := by
  funext i
  unfold lay
  by_cases c1 : i < 7
  · rw [if_pos c1, if_pos c1, h1 i c1]
  · rw [if_neg c1, if_neg c1]
    by_cases c2 : i < 16
    · rw [if_pos c2, if_pos c2, h2 _ (by omega)]
    · rw [if_neg c2, if_neg c2]
      by_cases c3 : i < 51
      · rw [if_pos c3, if_pos c3, h3 _ (by omega) _ (by omega)]
      · rw [if_neg c3, if_neg c3]
        by_cases c4 : i < 146
        · rw [if_pos c4, if_pos c4, h4 _ (by omega) _ (by omega)]
        · rw [if_neg c4, if_neg c4]
theorem D_restart (hs : St n S p q) : Den 109 [.ref p] (Hq n S (upf g q (lay s))) = some (none, Hq n S (upf g q (lay (rst s)))) := by
  rw [D0_109]
  simp only [e109_0, e109_1]
  have h1 := L_rst1 (g := g) (r := lay s) (v := .null) hs 141 5 rfl (by omega)
  have h0 : rsR (lay s) 5 = lay s := by
    funext i
    unfold rsR
    rw [if_neg (by omega)]
  rw [h0] at h1
  rw [h1, lay_rst]
  simp only [e109_21, e109_22]
  refine (L_rst2 (s := mkS (fun k => if k < 5 then s.H k else 0) (fun _ => 0) (fun _ _ => 0) (fun _ _ => 0)) hs 5 0 rfl).trans ?_
  simp only [e109_48, e109_49, e109_50, e109_53, e109_54, hs.i, en_25, D_get hs, Nat.reduceLT, Nat.reduceLeDiff, Nat.reduceAdd, Nat.reduceMul, lvH_Hq, Option.bind_some, psh_i, psh_n, Hq_G, Hq_setG, upf_same, upf_upf]
  have e0 : (itr rsP 5 (mkS (fun k => if k < 5 then s.H k else 0) (fun _ => 0) (fun _ _ => 0) (fun _ _ => 0))).H 0 = s.H 0 := rfl
  rw [e0]
  by_cases h : s.H 0 = nI 2
  · simp only [h, not_true_eq_false, if_false, e109_57, e109_58, e109_59, e109_60, e109_63, hs.i, en_64, D_hold hs, Nat.reduceLT, Nat.reduceLeDiff, Nat.reduceAdd, Nat.reduceMul, lvH_Hq, Option.bind_some, psh_i, psh_n, Hq_G, Hq_setG, upf_same, upf_upf]
    congr 4
    apply lay_congr
    · intro k hk; rfl
    · intro k hk
      show (if k = 0 then _ else _) = _
      unfold rst
      by_cases c : k = 0 <;> simp [c, h, mk_C, itr, rsP, sP_C]
    · intro a ha k hk; rfl
    · intro a ha k hk
      simp only [itr, rsP, sC_P, sP_P, rst, mk_P]
      by_cases c0 : k = 0
      · subst c0
        simp
        omega
      · by_cases c3 : k = 3
        · subst c3
          simp
          omega
        · simp [c0, c3]
  · simp only [h, not_false_eq_true, if_true, e109_63]
    congr 4
    apply lay_congr
    · intro k hk; rfl
    · intro k hk
      simp [h, rst, mk_C, itr, rsP, sP_C]
    · intro a ha k hk; rfl
    · intro a ha k hk
      simp only [itr, rsP, sC_P, sP_P, rst, mk_P]
      by_cases c0 : k = 0
      · subst c0
        simp
        omega
      · by_cases c3 : k = 3
        · subst c3
          simp
          omega
        · simp [c0, c3]
end ST
