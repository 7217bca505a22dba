/-! class State: what its methods answer and leave -/
abbrev Row : Type := Nat → Int32
def oP (r : Row) (p k : Nat) : Int32 := r (51 + 19 * p + k)
def oA (r : Row) (a k : Nat) : Int32 := r (16 + 5 * a + k)
def oC (r : Row) (c : Nat) : Int32 := r (7 + c)
def sP (r : Row) (p k : Nat) (v : Int32) : Row := upd r (51 + 19 * p + k) v
def sA (r : Row) (a k : Nat) (v : Int32) : Row := upd r (16 + 5 * a + k) v
def sC (r : Row) (c : Nat) (v : Int32) : Row := upd r (7 + c) v
def b2 (q : Prop) [Decidable q] : Int32 := if q then nI 1 else nI 0
theorem b2_0 {q : Prop} [Decidable q] : (b2 q = 0) = ¬ q := by
  unfold b2
  split <;> simp_all [show ¬ nI 1 = 0 by decide, show nI 0 = 0 by decide]
theorem b2_01 {q : Prop} [Decidable q] : b2 q = 0 ∨ b2 q = 1 := by
  unfold b2
  split
  · exact Or.inr rfl
  · exact Or.inl rfl
theorem one_01 : nI 1 = 0 ∨ nI 1 = 1 := Or.inr rfl
theorem zero_01 : nI 0 = 0 ∨ nI 0 = 1 := Or.inl rfl
theorem ite_ret {q : Prop} [Decidable q] {h : Hp} : (if q then some (some (nI 1), h) else some (some (nI 0), h)) = some (some (b2 q), h) := by
  unfold b2
  split <;> rfl
theorem ite_retN {q : Prop} [Decidable q] {h : Hp} : (if q then some (some (nI 0), h) else some (some (nI 1), h)) = some (some (b2 (¬ q)), h) := by
  unfold b2
  by_cases hq : q <;> simp [hq]
section ST
variable {n : Nat} {S : Nat → Shp} {g : Nat → Nat → Int32} {p q : Nat}
theorem D_get (hs : St n S p q) {i : Nat} (hi : i < 146) : Den 25 [.ref p, .int (nI i)] (Hq n S g) = some (some (g q i), Hq n S g) := by
  have h1 : ¬ nI i < 0 := nI_pos (by omega)
  have h2 : ¬ nI 146 ≤ nI i := nI_ge hi (by omega)
  have h3 : (nI i).toNatClampNeg = i := nI_clamp (by omega)
  have h4 : ¬ 146 ≤ i := by omega
  rw [D0_25]
  simp only [e25_0, e25_1, e25_4, e25_5, e25_6, e25_9, e25_10, e25_13, e25_14, e25_17, e25_18, e25_19, e25_22, e25_23, hs.i, hs.f, hs.a, hs.len, hs.l, h1, h2, h3, h4, or_self, not_false_eq_true, if_false, if_true, Hq_G]
theorem D_put (hs : St n S p q) {i : Nat} (hi : i < 146) {v : Int32} : Den 30 [.ref p, .int (nI i), .int v] (Hq n S g) = some (none, Hq n S (upf g q (upd (g q) i v))) := by
  have h1 : ¬ nI i < 0 := nI_pos (by omega)
  have h2 : ¬ nI 146 ≤ nI i := nI_ge hi (by omega)
  have h3 : (nI i).toNatClampNeg = i := nI_clamp (by omega)
  have h4 : ¬ 146 ≤ i := by omega
  rw [D0_30]
  simp only [e30_0, e30_1, e30_4, e30_5, e30_6, e30_9, e30_10, e30_13, e30_14, e30_17, e30_18, e30_19, e30_20, hs.i, hs.f, hs.b, hs.len, hs.l, h1, h2, h3, h4, or_self, not_false_eq_true, if_false, if_true, Hq_G, Hq_setG]
theorem D_held (hs : St n S p q) {c : Nat} (hi : c < 9) : Den 26 [.ref p, .int (nI c)] (Hq n S g) = some (some (oC (g q) c), Hq n S g) := by
  have h0 : nI 7 + nI c = nI (7 + c) := nI_add 7 c
  have h1 : ¬ nI (7 + c) < 0 := nI_pos (by omega)
  have h2 : ¬ nI 146 ≤ nI (7 + c) := nI_ge (by omega) (by omega)
  have h3 : (nI (7 + c)).toNatClampNeg = 7 + c := nI_clamp (by omega)
  have h4 : ¬ 146 ≤ 7 + c := by omega
  rw [D0_26]
  simp only [e26_0, e26_2, e26_3, e26_4, e26_5, e26_6, e26_9, e26_10, e26_11, e26_14, e26_15, e26_18, e26_19, e26_22, e26_23, e26_24, e26_27, e26_28, hs.i, hs.f, hs.a, hs.len, hs.l, h0, h1, h2, h3, h4, or_self, not_false_eq_true, if_false, if_true, Hq_G]
  rfl
theorem D_hold (hs : St n S p q) {c : Nat} (hi : c < 9) {v : Int32} : Den 64 [.ref p, .int (nI c), .int v] (Hq n S g) = some (none, Hq n S (upf g q (sC (g q) c v))) := by
  have h0 : nI 7 + nI c = nI (7 + c) := nI_add 7 c
  rw [D0_64]
  simp only [e64_0, e64_1, e64_3, e64_4, e64_5, e64_6, e64_9, hs.i, h0, en_30, D_put hs (show 7 + c < 146 by omega), lvH_Hq, Option.bind_some, psh_i, psh_n, Hq_G, Hq_setG, upf_same, upf_upf]
  rfl
theorem ix_P {p k : Nat} : nI 51 + nI p * nI 19 + nI k = nI (51 + 19 * p + k) := by
  rw [pk_mul, nI_add, nI_add, Nat.mul_comm p 19]
theorem ix_A {p k : Nat} : nI 16 + nI p * nI 5 + nI k = nI (16 + 5 * p + k) := by
  rw [pk_mul, nI_add, nI_add, Nat.mul_comm p 5]
theorem D_of (hs : St n S p q) {a k : Nat} (ha : a < 5) (hk : k < 19) : Den 28 [.ref p, .int (nI a), .int (nI k)] (Hq n S g) = some (some (oP (g q) a k), Hq n S g) := by
  have h0 := @ix_P a k
  have h1 : ¬ nI (51 + 19 * a + k) < 0 := nI_pos (by omega)
  have h2 : ¬ nI 146 ≤ nI (51 + 19 * a + k) := nI_ge (by omega) (by omega)
  have h3 : (nI (51 + 19 * a + k)).toNatClampNeg = 51 + 19 * a + k := nI_clamp (by omega)
  have h4 : ¬ 146 ≤ 51 + 19 * a + k := by omega
  rw [D0_28]
  simp only [e28_0, e28_2, e28_3, e28_5, e28_6, e28_7, e28_8, e28_9, e28_10, e28_11, e28_14, e28_15, e28_16, e28_19, e28_20, e28_23, e28_24, e28_27, e28_28, e28_29, e28_32, e28_33, hs.i, hs.f, hs.a, hs.len, hs.l, h0, h1, h2, h3, h4, or_self, not_false_eq_true, if_false, if_true, Hq_G]
  rfl
theorem D_ofAct (hs : St n S p q) {a k : Nat} (ha : a < 7) (hk : k < 5) : Den 29 [.ref p, .int (nI a), .int (nI k)] (Hq n S g) = some (some (oA (g q) a k), Hq n S g) := by
  have h0 := @ix_A a k
  have h1 : ¬ nI (16 + 5 * a + k) < 0 := nI_pos (by omega)
  have h2 : ¬ nI 146 ≤ nI (16 + 5 * a + k) := nI_ge (by omega) (by omega)
  have h3 : (nI (16 + 5 * a + k)).toNatClampNeg = 16 + 5 * a + k := nI_clamp (by omega)
  have h4 : ¬ 146 ≤ 16 + 5 * a + k := by omega
  rw [D0_29]
  simp only [e29_0, e29_2, e29_3, e29_4, e29_5, e29_6, e29_7, e29_8, e29_9, e29_10, e29_13, e29_14, e29_15, e29_18, e29_19, e29_22, e29_23, e29_26, e29_27, e29_28, e29_31, e29_32, hs.i, hs.f, hs.a, hs.len, hs.l, h0, h1, h2, h3, h4, or_self, not_false_eq_true, if_false, if_true, Hq_G]
  rfl
theorem D_set (hs : St n S p q) {a k : Nat} (ha : a < 5) (hk : k < 19) {v : Int32} : Den 68 [.ref p, .int (nI a), .int (nI k), .int v] (Hq n S g) = some (none, Hq n S (upf g q (sP (g q) a k v))) := by
  rw [D0_68]
  simp only [e68_0, e68_1, e68_3, e68_4, e68_6, e68_7, e68_8, e68_9, e68_10, e68_11, e68_14, hs.i, ix_P, en_30, D_put hs (show 51 + 19 * a + k < 146 by omega), lvH_Hq, Option.bind_some, psh_i, psh_n, Hq_G, Hq_setG, upf_same, upf_upf]
  rfl
theorem D_setAct (hs : St n S p q) {a k : Nat} (ha : a < 7) (hk : k < 5) {v : Int32} : Den 69 [.ref p, .int (nI a), .int (nI k), .int v] (Hq n S g) = some (none, Hq n S (upf g q (sA (g q) a k v))) := by
  rw [D0_69]
  simp only [e69_0, e69_1, e69_3, e69_4, e69_5, e69_6, e69_7, e69_8, e69_9, e69_10, e69_13, hs.i, ix_A, en_30, D_put hs (show 16 + 5 * a + k < 146 by omega), lvH_Hq, Option.bind_some, psh_i, psh_n, Hq_G, Hq_setG, upf_same, upf_upf]
  rfl
def shp5 (r : Row) (b po ba rr rd : Int32) : Row := upd (upd (upd (upd (upd r 0 b) 1 po) 2 ba) 3 rr) 4 rd
theorem D_shape (hs : St n S p q) {b po ba rr rd : Int32} : Den 70 [.ref p, .int b, .int po, .int ba, .int rr, .int rd] (Hq n S g) = some (none, Hq n S (upf g q (shp5 (g q) b po ba rr rd))) := by
  rw [D0_70]
  simp only [e70_0, e70_1, e70_2, e70_3, e70_6, e70_7, e70_8, e70_9, e70_12, e70_13, e70_14, e70_15, e70_18, e70_19, e70_20, e70_22, e70_25, e70_26, e70_27, e70_29, e70_32, hs.i, en_30, D_put hs (show 0 < 146 by omega), D_put hs (show 1 < 146 by omega), D_put hs (show 2 < 146 by omega), D_put hs (show 3 < 146 by omega), D_put hs (show 4 < 146 by omega), lvH_Hq, Option.bind_some, psh_i, psh_n, Hq_G, Hq_setG, upf_same, upf_upf]
  rfl
theorem D_isPoor (hs : St n S p q) : Den 65 [.ref p] (Hq n S g) = some (some (b2 (g q 1 = nI 1)), Hq n S g) := by
  rw [D0_65]
  simp only [e65_0, e65_1, e65_2, e65_5, e65_6, e65_9, e65_10, e65_13, e65_14, hs.i, en_25, D_get hs (show 1 < 146 by omega), lvH_Hq, Option.bind_some, psh_i, psh_n, Hq_G, Hq_setG, upf_same, upf_upf, one_01, zero_01, ite_ret, ite_retN, Classical.not_not]
theorem D_writers (hs : St n S p q) : Den 71 [.ref p] (Hq n S g) = some (some (if g q 0 = nI 5 then nI 2 else nI 1), Hq n S g) := by
  rw [D0_71]
  simp only [e71_0, e71_1, e71_2, e71_5, e71_6, e71_9, e71_10, e71_13, e71_14, hs.i, en_25, D_get hs (show 0 < 146 by omega), lvH_Hq, Option.bind_some, psh_i, psh_n, Hq_G, Hq_setG, upf_same, upf_upf]
  split <;> simp_all
theorem D_isWriter (hs : St n S p q) {x : Int32} : Den 67 [.ref p, .int x] (Hq n S g) = some (some (b2 (x < if g q 0 = nI 5 then nI 2 else nI 1)), Hq n S g) := by
  rw [D0_67]
  simp only [e67_0, e67_1, e67_2, e67_3, e67_6, e67_7, e67_10, e67_11, e67_14, e67_15, e67_18, e67_19, e67_22, e67_23, hs.i, en_25, D_get hs (show 0 < 146 by omega), lvH_Hq, Option.bind_some, psh_i, psh_n, Hq_G, Hq_setG, upf_same, upf_upf, one_01, zero_01]
  unfold b2
  repeat' split
  all_goals simp_all
theorem D_processes (hs : St n S p q) : Den 108 [.ref p] (Hq n S g) = some (some ((if g q 0 = nI 5 then nI 2 else nI 1) + g q 4), Hq n S g) := by
  rw [D0_108]
  simp only [e108_0, e108_1, e108_4, e108_5, e108_6, e108_9, e108_10, hs.i, en_25, en_71, D_writers hs, D_get hs (show 4 < 146 by omega), lvH_Hq, Option.bind_some, psh_i, psh_n, Hq_G, Hq_setG, upf_same, upf_upf]
theorem D_cells (hs : St n S p q) : Den 107 [.ref p] (Hq n S g) = some (some (if g q 0 = nI 2 then g q 3 else if g q 0 = nI 4 then g q 4 * g q 4 else if g q 0 = nI 5 then nI 2 else nI 1), Hq n S g) := by
  rw [D0_107]
  simp only [e107_0, e107_1, e107_2, e107_5, e107_36, e107_37, e107_38, e107_41, e107_42, e107_43, e107_44, e107_47, e107_48, e107_49, e107_52, e107_53, e107_54, e107_55, e107_58, e107_59, e107_60, hs.i, en_25, en_71, D_writers hs, D_get hs (show 0 < 146 by omega), D_get hs (show 3 < 146 by omega), D_get hs (show 4 < 146 by omega), lvH_Hq, Option.bind_some, psh_i, psh_n, Hq_G, Hq_setG, upf_same, upf_upf]
  repeat' split
  all_goals simp_all
theorem D_isUnderWay (hs : St n S p q) {a : Nat} (ha : a < 5) : Den 66 [.ref p, .int (nI a)] (Hq n S g) = some (some (b2 (¬ oP (g q) a 0 = -1)), Hq n S g) := by
  rw [D0_66]
  simp only [e66_0, e66_1, e66_2, e66_3, e66_6, e66_7, e66_10, e66_11, e66_14, e66_15, hs.i, en_28, D_of hs ha (show 0 < 19 by omega), lvH_Hq, Option.bind_some, psh_i, psh_n, Hq_G, Hq_setG, upf_same, upf_upf, one_01, zero_01, ite_ret, ite_retN]
theorem D_hasRoom (hs : St n S p q) : Den 63 [.ref p] (Hq n S g) = some (some (b2 (g q 6 < nI 7)), Hq n S g) := by
  rw [D0_63]
  simp only [e63_0, e63_1, e63_3, e63_6, e63_8, e63_11, e63_12, e63_15, e63_16, hs.i, en_25, D_get hs (show 6 < 146 by omega), lvH_Hq, Option.bind_some, psh_i, psh_n, Hq_G, Hq_setG, upf_same, upf_upf, one_01, zero_01, ite_ret, ite_retN]
  unfold b2
  repeat' split
  all_goals simp_all
end ST
