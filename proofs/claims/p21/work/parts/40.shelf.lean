/-! classes Shelf, Deeds, Images, Book -/
theorem z0n : ¬ nI 0 < 0 := by decide
theorem z146 : ¬ nI 146 < 0 := by decide
theorem c0n : (nI 0).toNatClampNeg = 0 := rfl
theorem c146 : (nI 146).toNatClampNeg = 146 := rfl
theorem cpy_lay (s t : Sx) : va_cpy (lay s) (lay t) 0 0 146 = lay s := by
  funext i
  unfold va_cpy
  by_cases h : i < 146
  · rw [if_pos ⟨Nat.zero_le _, by omega⟩, Nat.sub_zero, Nat.zero_add]
  · rw [if_neg (by omega)]
    unfold lay
    simp only [show ¬ i < 7 by omega, show ¬ i < 16 by omega, show ¬ i < 51 by omega, h, if_false]
/-- a shelf sh, its rows' row rw, N of them from cell b on -/
def Shl (n : Nat) (S : Nat → Shp) (sh rw N b : Nat) : Prop := ∀ g : Nat → Nat → Int32, Ins sh (Hq n S g) 4 ∧ Rf (Hq n S g) sh 0 = .ref rw ∧ Rws rw (Hq n S g) ∧ ArL rw (Hq n S g) ∧ Lng (Hq n S g) rw = N ∧ ∀ i, i < N → Rf (Hq n S g) rw i = .ref (b + i) ∧ ArW (b + i) (Hq n S g) ∧ Lng (Hq n S g) (b + i) = 146
theorem SF_lv {L i : Nat} (h : i < 41) : SF L (10 + i) = (0, 146, f0) := (SF_1 (by omega) (by omega)).trans (if_pos ⟨by omega, by omega⟩)
theorem SF_dd {L i : Nat} (h : i < 16) : SF L (61 + i) = (0, 146, f0) := by
  rw [SF_1 (by omega) (by omega)]
  unfold S1
  rw [if_neg (by omega), if_pos ⟨by omega, by omega⟩]
theorem shl_8 {L : Nat} : Shl 170 (SF L) 8 9 41 10 := fun g => ⟨i_8, f_8_0, c_9, l_9, n_9, fun i h => ⟨r_9 h, ⟨by omega, by show 10 + i ≤ 170; omega, by show (SF L (10 + i)).1 = 0; rw [SF_lv h]⟩, by show (SF L (10 + i)).2.1 = 146; rw [SF_lv h]⟩⟩
theorem shl_51 {L : Nat} : Shl 170 (SF L) 51 52 1 53 := fun g => ⟨i_51, f_51_0, c_52, l_52, n_52, fun i h => ⟨r_52 h, by match i, h with
  | 0, _ => exact b_53, by match i, h with
  | 0, _ => exact n_53⟩⟩
theorem shl_59 {L : Nat} : Shl 170 (SF L) 59 60 16 61 := fun g => ⟨i_59, f_59_0, c_60, l_60, n_60, fun i h => ⟨r_60 h, ⟨by omega, by show 61 + i ≤ 170; omega, by show (SF L (61 + i)).1 = 0; rw [SF_dd h]⟩, by show (SF L (61 + i)).2.1 = 146; rw [SF_dd h]⟩⟩
theorem shl_78 {L : Nat} : Shl 170 (SF L) 78 79 2 80 := fun g => ⟨i_78, f_78_0, c_79, l_79, n_79, fun i h => ⟨r_79 h, by match i, h with
  | 0, _ => exact b_80
  | 1, _ => exact b_81, by match i, h with
  | 0, _ => exact n_80
  | 1, _ => exact n_81⟩⟩
section SH
variable {n : Nat} {S : Nat → Shp} {g : Nat → Nat → Int32} {p q sh rw N b : Nat} {s t : Sx}
theorem D_shPut (hs : St n S p q) (hh : Shl n S sh rw N b) (hN : N < 1000) {i : Nat} (hi : i < N) (h1 : g q = lay s) (h2 : g (b + i) = lay t) : Den 23 [.ref sh, .int (nI i), .ref p] (Hq n S g) = some (none, Hq n S (upf g (b + i) (lay s))) := by
  have a1 : ¬ nI i < 0 := nI_pos (by omega)
  have a2 : ¬ nI N ≤ nI i := nI_ge hi (by omega)
  have a3 : (nI i).toNatClampNeg = i := nI_clamp (by omega)
  have a4 : ¬ N ≤ i := by omega
  obtain ⟨q0, q1, q2, q3, q4, q5⟩ := hh g
  obtain ⟨q6, q7, q8⟩ := q5 i hi
  rw [D0_23]
  simp only [e23_0, e23_1, e23_4, e23_5, e23_6, e23_9, e23_10, e23_13, e23_14, e23_17, e23_18, e23_19, e23_22, e23_23, e23_24, e23_25, e23_31, q0, q1, q2, q3, q4, a1, a2, a3, a4, q6, hs.i, hs.f, if_false, or_self, not_false_eq_true]
  rw [e23_28 ⟨hs.b, q7⟩ ⟨z0n, z0n, z146, by rw [hs.len]; decide, by rw [q8]; decide⟩]
  simp only [e23_0, e23_1, e23_4, e23_5, e23_6, e23_9, e23_10, e23_13, e23_14, e23_17, e23_18, e23_19, e23_22, e23_23, e23_24, e23_25, e23_31, Hq_G, Hq_setG, c0n, c146, h1, h2, cpy_lay]
theorem D_shTake (hs : St n S p q) (hh : Shl n S sh rw N b) (hN : N < 1000) {i : Nat} (hi : i < N) (h1 : g q = lay s) (h2 : g (b + i) = lay t) : Den 24 [.ref sh, .int (nI i), .ref p] (Hq n S g) = some (none, Hq n S (upf g q (lay t))) := by
  have a1 : ¬ nI i < 0 := nI_pos (by omega)
  have a2 : ¬ nI N ≤ nI i := nI_ge hi (by omega)
  have a3 : (nI i).toNatClampNeg = i := nI_clamp (by omega)
  have a4 : ¬ N ≤ i := by omega
  obtain ⟨q0, q1, q2, q3, q4, q5⟩ := hh g
  obtain ⟨q6, q7, q8⟩ := q5 i hi
  rw [D0_24]
  simp only [e24_0, e24_1, e24_4, e24_5, e24_6, e24_9, e24_10, e24_13, e24_14, e24_17, e24_18, e24_19, e24_20, e24_21, e24_24, e24_25, e24_31, q0, q1, q2, q3, q4, a1, a2, a3, a4, q6, hs.i, hs.f, if_false, or_self, not_false_eq_true]
  rw [e24_28 ⟨q7, hs.b⟩ ⟨z0n, z0n, z146, by rw [q8]; decide, by rw [hs.len]; decide⟩]
  simp only [e24_0, e24_1, e24_4, e24_5, e24_6, e24_9, e24_10, e24_13, e24_14, e24_17, e24_18, e24_19, e24_20, e24_21, e24_24, e24_25, e24_31, Hq_G, Hq_setG, c0n, c146, h1, h2, cpy_lay]
end SH
section DD
variable {L : Nat} {g : Nat → Nat → Int32} {s t : Sx}
theorem D_ddSize : Den 17 [.ref 58] (HP L g) = some (some (g 58 2), HP L g) := by
  rw [D0_17]
  simp only [e17_0, e17_1, e17_4, i_58, Hq_G]
theorem D_ddForget : Den 16 [.ref 58] (HP L g) = some (none, HP L (upf g 58 (upd (g 58) 2 (nI 0)))) := by
  rw [D0_16]
  simp only [e16_0, e16_1, e16_2, e16_5, i_58, Hq_G, Hq_setG]
/-- the deeds: cell 58's numbers o, k, the rows of its shelf -/
theorem D_ddAdd (hs : St 170 (SF L) 2 3) {o k : Nat} (ho : o < 16) (hk : k ≤ 16) (h1 : g 58 1 = nI o) (h2 : g 58 2 = nI k) (h3 : g 3 = lay s) (h4 : g (61 + (o + k) % 16) = lay t) : Den 50 [.ref 58, .ref 2] (HP L g) = some (none, HP L (upf (upf g (61 + (o + k) % 16) (lay s)) 58 (if k < 16 then upd (g 58) 2 (nI (k + 1)) else upd (g 58) 1 (nI ((o + 1) % 16))))) := by
  have a1 : nI (o + k) - nI (o + k) / nI 16 * nI 16 = nI ((o + k) % 16) := pk_rem (by omega) (by omega) (by omega)
  have a2 : nI (o + 1) - nI (o + 1) / nI 16 * nI 16 = nI ((o + 1) % 16) := pk_rem (by omega) (by omega) (by omega)
  have a3 : ¬ nI 16 = 0 := by decide
  have a5 := D_shPut (i := (o + k) % 16) hs shl_59 (by omega) (by omega) h3 h4
  have a6 : ¬ 58 = 61 + (o + k) % 16 := by omega
  have a7 : ∀ x, upf g (61 + (o + k) % 16) x 58 = g 58 := fun x => upf_ne a6
  rw [D0_50]
  simp only [e50_0, e50_1, e50_4, e50_5, e50_8, e50_9, e50_12, e50_13, e50_15, e50_16, e50_17, e50_20, e50_21, e50_24, e50_26, e50_29, e50_30, e50_31, e50_34, e50_35, e50_36, e50_39, e50_42, e50_43, e50_44, e50_47, e50_48, e50_49, e50_51, e50_52, e50_55, en_23, i_58, i_59, f_58_0, Hq_G, Hq_setG, h1, h2, nI_add, a1, a3, not_false_eq_true, a5, lvH_Hq, Option.bind_some, psh_i, psh_n, Hq_G, Hq_setG, upf_same, upf_upf, a7]
  by_cases h : k < 16
  · simp only [nI_ge h (show 16 < 2147483648 by omega), h, if_true, if_false, nI_add]
  · simp only [nI_le (show 16 ≤ k by omega) (show k < 2147483648 by omega), h, if_true, if_false, nI_add, a2]
theorem D_ddTake (hs : St 170 (SF L) 2 3) {o k m : Nat} (ho : o < 16) (hm : m ≤ k) (hk : k ≤ 16) (h1 : g 58 1 = nI o) (h2 : g 58 2 = nI k) (h3 : g 3 = lay s) (h4 : g (61 + (o + (k - m)) % 16) = lay t) : Den 52 [.ref 58, .int (nI m), .ref 2] (HP L g) = some (none, HP L (upf (upf g 58 (upd (g 58) 2 (nI (k - m)))) 3 (lay t))) := by
  have a1 : nI (o + (k - m)) - nI (o + (k - m)) / nI 16 * nI 16 = nI ((o + (k - m)) % 16) := pk_rem (by omega) (by omega) (by omega)
  have a3 : ¬ nI 16 = 0 := by decide
  have a4 : nI k - nI m = nI (k - m) := pk_sub hm
  have a6 : ∀ x, upf g 58 x (61 + (o + (k - m)) % 16) = g (61 + (o + (k - m)) % 16) := fun x => upf_ne (by omega)
  have a7 : ∀ x, upf g 58 x 3 = g 3 := fun x => upf_ne (by omega)
  have a5 := D_shTake (g := upf g 58 (upd (g 58) 2 (nI (k - m)))) (i := (o + (k - m)) % 16) hs shl_59 (by omega) (by omega) ((a7 _).trans h3) ((a6 _).trans h4)
  have u1 : upd (g 58) 2 (nI (k - m)) 1 = nI o := h1
  have u2 : upd (g 58) 2 (nI (k - m)) 2 = nI (k - m) := rfl
  rw [D0_52]
  simp only [e52_0, e52_1, e52_2, e52_5, e52_6, e52_7, e52_10, e52_11, e52_14, e52_15, e52_18, e52_19, e52_22, e52_23, e52_25, e52_26, e52_27, e52_30, en_24, i_58, i_59, f_58_0, Hq_G, Hq_setG, h1, h2, nI_add, a1, a3, a4, u1, u2, not_false_eq_true, a5, lvH_Hq, Option.bind_some, psh_i, psh_n, Hq_G, Hq_setG, upf_same, upf_upf]
/-! Images -/
theorem D_isImage {x : Int32} : Den 18 [.ref 77, .int x] (HP L g) = some (some (b2 (0 ≤ x ∧ x < nI 2)), HP L g) := by
  rw [D0_18]
  simp only [e18_0, e18_1, e18_4, e18_5, e18_6, e18_9, e18_10, e18_13, e18_14, e18_17, e18_18, i_77, f_77_1, l_82, n_82, one_01, zero_01]
  unfold b2
  by_cases h : x < 0
  · simp only [h, if_true, Int32.not_le.mpr h, false_and, if_false]
  · simp only [h, if_false, Int32.not_lt.mp h, true_and]
    by_cases h2 : x < nI 2
    · simp only [h2, Int32.not_le.mpr h2, if_true, if_false]
    · simp only [h2, Int32.not_lt.mp h2, if_true, if_false]
theorem im_b {i : Nat} (hi : i < 2) : b2 (0 ≤ nI i ∧ nI i < nI 2) = nI 1 := by
  unfold b2
  rw [if_pos ⟨nI_pos' (by omega), nI_lt hi (by omega)⟩]
theorem one_n0 : (nI 1 = 0) = False := by decide
theorem D_seedOf {i : Nat} (hi : i < 2) : Den 55 [.ref 77, .int (nI i)] (HP L g) = some (some (g 82 i), HP L g) := by
  have a2 : ¬ 2 ≤ i := by omega
  have a1 : ¬ nI i < 0 := nI_pos (by omega)
  have a3 : (nI i).toNatClampNeg = i := nI_clamp (by omega)
  rw [D0_55]
  simp only [e55_0, e55_1, e55_2, e55_5, e55_8, e55_9, e55_12, e55_13, e55_14, e55_17, e55_18, en_18, i_77, f_77_1, a_82, n_82, D_isImage, im_b hi, lvH_Hq, Option.bind_some, psh_i, psh_n, Hq_G, Hq_setG, upf_same, upf_upf, one_n0, if_false, a1, a2, a3, or_self, not_false_eq_true]
theorem D_isKept {i : Nat} (hi : i < 2) : Den 96 [.ref 77, .int (nI i)] (HP L g) = some (some (b2 (¬ g 82 i = -1)), HP L g) := by
  rw [D0_96]
  simp only [e96_0, e96_1, e96_2, e96_5, e96_6, e96_9, e96_10, e96_13, e96_14, en_55, i_77, D_seedOf hi, lvH_Hq, Option.bind_some, psh_i, psh_n, Hq_G, Hq_setG, upf_same, upf_upf, one_01, zero_01]
  unfold b2
  by_cases h : g 82 i = -1 <;> simp only [h, if_true, if_false, not_true_eq_false, not_false_eq_true]
theorem D_imStore (hs : St 170 (SF L) 2 3) {i : Nat} (hi : i < 2) {x : Int32} (h1 : g 3 = lay s) (h2 : g (80 + i) = lay t) : Den 56 [.ref 77, .int (nI i), .ref 2, .int x] (HP L g) = some (none, HP L (upf (upf g (80 + i) (lay s)) 82 (upd (g 82) i x))) := by
  have a2 : ¬ 2 ≤ i := by omega
  have a1 : ¬ nI i < 0 := nI_pos (by omega)
  have a3 : (nI i).toNatClampNeg = i := nI_clamp (by omega)
  have a5 := D_shPut (i := i) hs shl_78 (by omega) (by omega) h1 h2
  have a7 : ∀ x, upf g (80 + i) x 82 = g 82 := fun x => upf_ne (by omega)
  rw [D0_56]
  simp only [e56_0, e56_1, e56_2, e56_5, e56_8, e56_9, e56_10, e56_13, e56_14, e56_15, e56_18, e56_19, e56_22, e56_23, e56_24, e56_25, en_18, en_23, i_77, i_78, f_77_0, f_77_1, a_82, b_82, n_82, D_isImage, im_b hi, lvH_Hq, Option.bind_some, psh_i, psh_n, Hq_G, Hq_setG, upf_same, upf_upf, one_n0, not_false_eq_true, if_true, if_false, a1, a2, a3, a5, a7, or_self]
theorem D_imRestore (hs : St 170 (SF L) 2 3) {i : Nat} (hi : i < 2) (h1 : g 3 = lay s) (h2 : g (80 + i) = lay t) : Den 54 [.ref 77, .int (nI i), .ref 2] (HP L g) = some (none, HP L (upf g 3 (lay t))) := by
  have a5 := D_shTake (i := i) hs shl_78 (by omega) (by omega) h1 h2
  rw [D0_54]
  simp only [e54_0, e54_1, e54_4, e54_5, e54_6, e54_9, en_24, i_77, i_78, f_77_0, a5, lvH_Hq, Option.bind_some, psh_i, psh_n, Hq_G, Hq_setG, upf_same, upf_upf]
/-! Book -/
theorem D_bkSize : Den 5 [.ref 83] (HP L g) = some (some (g 83 2), HP L g) := by
  rw [D0_5]
  simp only [e5_0, e5_1, e5_4, i_83, Hq_G]
end DD
