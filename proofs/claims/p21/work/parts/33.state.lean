/-! class State: what its methods answer and leave -/
section ST
variable {n : Nat} {S : Nat → Shp} {g : Nat → Nat → Int32} {p q : Nat} {s : Sx}
theorem G_get (hs : St n S p q) {i : Nat} (hi : i < 146) : Den 25 [.ref p, .int (nI i)] (Hq n S g) = some (some (g q i), Hq n S g) := by
  have h1 : ¬ nI i < 0 := nI_pos (by omega)
  have h2 : ¬ nI 146 ≤ nI i := nI_ge hi (by omega)
  have h3 : (nI i).toNatClampNeg = i := nI_clamp (by omega)
  have h4 : ¬ 146 ≤ i := by omega
  rw [D0_25]
  simp only [e25_0, e25_1, e25_4, e25_5, e25_6, e25_9, e25_10, e25_13, e25_14, e25_17, e25_18, e25_19, e25_22, e25_23, hs.i, hs.f, hs.a, hs.len, hs.l, h1, h2, h3, h4, or_self, not_false_eq_true, if_false, if_true, Hq_G]
theorem G_put (hs : St n S p q) {i : Nat} (hi : i < 146) {v : Int32} : Den 30 [.ref p, .int (nI i), .int v] (Hq n S g) = some (none, Hq n S (upf g q (upd (g q) i v))) := by
  have h1 : ¬ nI i < 0 := nI_pos (by omega)
  have h2 : ¬ nI 146 ≤ nI i := nI_ge hi (by omega)
  have h3 : (nI i).toNatClampNeg = i := nI_clamp (by omega)
  have h4 : ¬ 146 ≤ i := by omega
  rw [D0_30]
  simp only [e30_0, e30_1, e30_4, e30_5, e30_6, e30_9, e30_10, e30_13, e30_14, e30_17, e30_18, e30_19, e30_20, hs.i, hs.f, hs.b, hs.len, hs.l, h1, h2, h3, h4, or_self, not_false_eq_true, if_false, if_true, Hq_G, Hq_setG]
theorem D_get (hs : St n S p q) {k : Nat} (hk : k < 7) : Den 25 [.ref p, .int (nI k)] (Hq n S (upf g q (lay s))) = some (some (s.H k), Hq n S (upf g q (lay s))) := by
  rw [G_get hs (by omega), upf_same, lay_H hk]
theorem D_put (hs : St n S p q) {k : Nat} (hk : k < 7) {v : Int32} : Den 30 [.ref p, .int (nI k), .int v] (Hq n S (upf g q (lay s))) = some (none, Hq n S (upf g q (lay (s.sH k v)))) := by
  rw [G_put hs (by omega), upf_same, upf_upf, lay_sH hk]
theorem D_held (hs : St n S p q) {c : Nat} (hi : c < 9) : Den 26 [.ref p, .int (nI c)] (Hq n S (upf g q (lay s))) = some (some (s.C c), Hq n S (upf g q (lay s))) := by
  have h0 : nI 7 + nI c = nI (7 + c) := nI_add 7 c
  have h1 : ¬ nI (7 + c) < 0 := nI_pos (by omega)
  have h2 : ¬ nI 146 ≤ nI (7 + c) := nI_ge (by omega) (by omega)
  have h3 : (nI (7 + c)).toNatClampNeg = 7 + c := nI_clamp (by omega)
  have h4 : ¬ 146 ≤ 7 + c := by omega
  rw [D0_26]
  simp only [e26_0, e26_2, e26_3, e26_4, e26_5, e26_6, e26_9, e26_10, e26_11, e26_14, e26_15, e26_18, e26_19, e26_22, e26_23, e26_24, e26_27, e26_28, hs.i, hs.f, hs.a, hs.len, hs.l, h0, h1, h2, h3, h4, or_self, not_false_eq_true, if_false, if_true, Hq_G, upf_same, lay_C hi]
theorem D_hold (hs : St n S p q) {c : Nat} (hi : c < 9) {v : Int32} : Den 64 [.ref p, .int (nI c), .int v] (Hq n S (upf g q (lay s))) = some (none, Hq n S (upf g q (lay (s.sC c v)))) := by
  have h0 : nI 7 + nI c = nI (7 + c) := nI_add 7 c
  rw [D0_64]
  simp only [e64_0, e64_1, e64_3, e64_4, e64_5, e64_6, e64_9, en_30, hs.i, h0, G_put hs (show 7 + c < 146 by omega), lvH_Hq, Option.bind_some, psh_i, psh_n, Hq_G, Hq_setG, upf_same, upf_upf, lay_sC hi]
theorem ix_P {p k : Nat} : nI 51 + nI p * nI 19 + nI k = nI (51 + 19 * p + k) := by
  rw [pk_mul, nI_add, nI_add, Nat.mul_comm p 19]
theorem ix_A {p k : Nat} : nI 16 + nI p * nI 5 + nI k = nI (16 + 5 * p + k) := by
  rw [pk_mul, nI_add, nI_add, Nat.mul_comm p 5]
theorem D_of (hs : St n S p q) {a k : Nat} (ha : a < 5) (hk : k < 19) : Den 28 [.ref p, .int (nI a), .int (nI k)] (Hq n S (upf g q (lay s))) = some (some (s.P a k), Hq n S (upf g q (lay s))) := by
  have h0 := @ix_P a k
  have h1 : ¬ nI (51 + 19 * a + k) < 0 := nI_pos (by omega)
  have h2 : ¬ nI 146 ≤ nI (51 + 19 * a + k) := nI_ge (by omega) (by omega)
  have h3 : (nI (51 + 19 * a + k)).toNatClampNeg = 51 + 19 * a + k := nI_clamp (by omega)
  have h4 : ¬ 146 ≤ 51 + 19 * a + k := by omega
  rw [D0_28]
  simp only [e28_0, e28_2, e28_3, e28_5, e28_6, e28_7, e28_8, e28_9, e28_10, e28_11, e28_14, e28_15, e28_16, e28_19, e28_20, e28_23, e28_24, e28_27, e28_28, e28_29, e28_32, e28_33, hs.i, hs.f, hs.a, hs.len, hs.l, h0, h1, h2, h3, h4, or_self, not_false_eq_true, if_false, if_true, Hq_G, upf_same, lay_P ha hk]
theorem D_ofAct (hs : St n S p q) {a k : Nat} (ha : a < 7) (hk : k < 5) : Den 29 [.ref p, .int (nI a), .int (nI k)] (Hq n S (upf g q (lay s))) = some (some (s.A a k), Hq n S (upf g q (lay s))) := by
  have h0 := @ix_A a k
  have h1 : ¬ nI (16 + 5 * a + k) < 0 := nI_pos (by omega)
  have h2 : ¬ nI 146 ≤ nI (16 + 5 * a + k) := nI_ge (by omega) (by omega)
  have h3 : (nI (16 + 5 * a + k)).toNatClampNeg = 16 + 5 * a + k := nI_clamp (by omega)
  have h4 : ¬ 146 ≤ 16 + 5 * a + k := by omega
  rw [D0_29]
  simp only [e29_0, e29_2, e29_3, e29_4, e29_5, e29_6, e29_7, e29_8, e29_9, e29_10, e29_13, e29_14, e29_15, e29_18, e29_19, e29_22, e29_23, e29_26, e29_27, e29_28, e29_31, e29_32, hs.i, hs.f, hs.a, hs.len, hs.l, h0, h1, h2, h3, h4, or_self, not_false_eq_true, if_false, if_true, Hq_G, upf_same, lay_A ha hk]
theorem D_set (hs : St n S p q) {a k : Nat} (ha : a < 5) (hk : k < 19) {v : Int32} : Den 68 [.ref p, .int (nI a), .int (nI k), .int v] (Hq n S (upf g q (lay s))) = some (none, Hq n S (upf g q (lay (s.sP a k v)))) := by
  rw [D0_68]
  simp only [e68_0, e68_1, e68_3, e68_4, e68_6, e68_7, e68_8, e68_9, e68_10, e68_11, e68_14, en_30, hs.i, ix_P, G_put hs (show 51 + 19 * a + k < 146 by omega), lvH_Hq, Option.bind_some, psh_i, psh_n, Hq_G, Hq_setG, upf_same, upf_upf, lay_sP ha hk]
theorem D_setAct (hs : St n S p q) {a k : Nat} (ha : a < 7) (hk : k < 5) {v : Int32} : Den 69 [.ref p, .int (nI a), .int (nI k), .int v] (Hq n S (upf g q (lay s))) = some (none, Hq n S (upf g q (lay (s.sA a k v)))) := by
  rw [D0_69]
  simp only [e69_0, e69_1, e69_3, e69_4, e69_5, e69_6, e69_7, e69_8, e69_9, e69_10, e69_13, en_30, hs.i, ix_A, G_put hs (show 16 + 5 * a + k < 146 by omega), lvH_Hq, Option.bind_some, psh_i, psh_n, Hq_G, Hq_setG, upf_same, upf_upf, lay_sA ha hk]
theorem D_shape (hs : St n S p q) {b po ba rr rd : Int32} : Den 70 [.ref p, .int b, .int po, .int ba, .int rr, .int rd] (Hq n S (upf g q (lay s))) = some (none, Hq n S (upf g q (lay (shp5 s b po ba rr rd)))) := by
  rw [D0_70]
  simp only [e70_0, e70_1, e70_2, e70_3, e70_6, e70_7, e70_8, e70_9, e70_12, e70_13, e70_14, e70_15, e70_18, e70_19, e70_20, e70_22, e70_25, e70_26, e70_27, e70_29, e70_32, en_30, hs.i, D_put hs, Nat.reduceLT, Nat.reduceLeDiff, Nat.reduceAdd, Nat.reduceMul, lvH_Hq, Option.bind_some, psh_i, psh_n, Hq_G, Hq_setG, upf_same, upf_upf]
  rfl
theorem D_isPoor (hs : St n S p q) : Den 65 [.ref p] (Hq n S (upf g q (lay s))) = some (some (b2 (s.H 1 = nI 1)), Hq n S (upf g q (lay s))) := by
  rw [D0_65]
  simp only [e65_0, e65_1, e65_2, e65_5, e65_6, e65_9, e65_10, e65_13, e65_14, en_25, hs.i, D_get hs, Nat.reduceLT, Nat.reduceLeDiff, Nat.reduceAdd, Nat.reduceMul, lvH_Hq, Option.bind_some, psh_i, psh_n, Hq_G, Hq_setG, upf_same, upf_upf, one_01, zero_01]
  unfold b2
  split <;> simp_all
theorem D_writers (hs : St n S p q) : Den 71 [.ref p] (Hq n S (upf g q (lay s))) = some (some (nI (wrs s)), Hq n S (upf g q (lay s))) := by
  rw [D0_71]
  simp only [e71_0, e71_1, e71_2, e71_5, e71_6, e71_9, e71_10, e71_13, e71_14, en_25, hs.i, D_get hs, Nat.reduceLT, Nat.reduceLeDiff, Nat.reduceAdd, Nat.reduceMul, lvH_Hq, Option.bind_some, psh_i, psh_n, Hq_G, Hq_setG, upf_same, upf_upf]
  unfold wrs
  split <;> simp_all
theorem D_isWriter (hs : St n S p q) {a : Nat} (ha : a < 5) : Den 67 [.ref p, .int (nI a)] (Hq n S (upf g q (lay s))) = some (some (b2 (a < wrs s)), Hq n S (upf g q (lay s))) := by
  rw [D0_67]
  simp only [e67_0, e67_1, e67_2, e67_3, e67_6, e67_7, e67_10, e67_11, e67_14, e67_15, e67_18, e67_19, e67_22, e67_23, en_25, hs.i, D_get hs, Nat.reduceLT, Nat.reduceLeDiff, Nat.reduceAdd, Nat.reduceMul, lvH_Hq, Option.bind_some, psh_i, psh_n, Hq_G, Hq_setG, upf_same, upf_upf, one_01, zero_01]
  have e1 : (nI 1 ≤ nI a) = (1 ≤ a) := propext (nI_leI (by omega) (by omega))
  have e2 : (nI 2 ≤ nI a) = (2 ≤ a) := propext (nI_leI (by omega) (by omega))
  simp only [e1, e2]
  unfold b2 wrs
  by_cases h5 : s.H 0 = nI 5 <;> simp only [h5, not_true_eq_false, not_false_eq_true, if_true, if_false] <;> split <;> rename_i h <;> first | rw [if_neg (by omega)] | rw [if_pos (by omega)]
theorem D_processes (hs : St n S p q) : Den 108 [.ref p] (Hq n S (upf g q (lay s))) = some (some (prcs s), Hq n S (upf g q (lay s))) := by
  rw [D0_108]
  simp only [e108_0, e108_1, e108_4, e108_5, e108_6, e108_9, e108_10, en_25, en_71, hs.i, D_writers hs, D_get hs, Nat.reduceLT, Nat.reduceLeDiff, Nat.reduceAdd, Nat.reduceMul, lvH_Hq, Option.bind_some, psh_i, psh_n, Hq_G, Hq_setG, upf_same, upf_upf]
  rfl
theorem k_ne {a b : Nat} (h : (a == b) = false) (ha : a < 2147483648) (hb : b < 2147483648) : (nI a = nI b) = False := by
  rw [propext (nI_eq ha hb)]
  simp_all
theorem k_2_3 : (nI 2 = nI 3) = False := by decide
theorem D_cells (hs : St n S p q) : Den 107 [.ref p] (Hq n S (upf g q (lay s))) = some (some (clls s), Hq n S (upf g q (lay s))) := by
  rw [D0_107]
  simp only [e107_0, e107_1, e107_2, e107_5, e107_36, e107_37, e107_38, e107_41, e107_42, e107_43, e107_44, e107_47, e107_48, e107_49, e107_52, e107_53, e107_54, e107_55, e107_58, e107_59, e107_60, en_25, en_71, hs.i, D_writers hs, D_get hs, Nat.reduceLT, Nat.reduceLeDiff, Nat.reduceAdd, Nat.reduceMul, lvH_Hq, Option.bind_some, psh_i, psh_n, Hq_G, Hq_setG, upf_same, upf_upf]
  unfold clls wrs
  have k1 : (nI 2 = nI 5) = False := by decide
  have k2 : (nI 3 = nI 5) = False := by decide
  have k3 : (nI 4 = nI 5) = False := by decide
  have k4 : (nI 3 = nI 4) = False := by decide
  have k5 : (nI 3 = nI 2) = False := by decide
  have k6 : (nI 4 = nI 2) = False := by decide
  have k7 : (nI 5 = nI 2) = False := by decide
  have k8 : (nI 5 = nI 4) = False := by decide
  have k9 : (nI 5 = nI 3) = False := by decide
  repeat' split
  all_goals simp_all
theorem D_isUnderWay (hs : St n S p q) {a : Nat} (ha : a < 5) : Den 66 [.ref p, .int (nI a)] (Hq n S (upf g q (lay s))) = some (some (b2 (¬ s.P a 0 = -1)), Hq n S (upf g q (lay s))) := by
  rw [D0_66]
  simp only [e66_0, e66_1, e66_2, e66_3, e66_6, e66_7, e66_10, e66_11, e66_14, e66_15, en_28, hs.i, D_of hs, ha, Nat.reduceLT, Nat.reduceLeDiff, Nat.reduceAdd, Nat.reduceMul, lvH_Hq, Option.bind_some, psh_i, psh_n, Hq_G, Hq_setG, upf_same, upf_upf, one_01, zero_01]
  unfold b2
  split <;> simp_all
theorem D_hasRoom (hs : St n S p q) : Den 63 [.ref p] (Hq n S (upf g q (lay s))) = some (some (b2 (s.H 6 < nI 7)), Hq n S (upf g q (lay s))) := by
  rw [D0_63]
  simp only [e63_0, e63_1, e63_3, e63_6, e63_8, e63_11, e63_12, e63_15, e63_16, en_25, hs.i, D_get hs, Nat.reduceLT, Nat.reduceLeDiff, Nat.reduceAdd, Nat.reduceMul, lvH_Hq, Option.bind_some, psh_i, psh_n, Hq_G, Hq_setG, upf_same, upf_upf, one_01, zero_01]
  unfold b2
  by_cases h : nI 7 ≤ s.H 6
  · rw [if_pos h, if_neg (Int32.not_lt.mpr h)]
  · rw [if_neg h, if_pos (Int32.not_le.mp h)]
end ST
