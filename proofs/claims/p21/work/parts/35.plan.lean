/-! class Plan -/
theorem K01 : (nI 0 = nI 1) = False := by decide
theorem K02 : (nI 0 = nI 2) = False := by decide
theorem K03 : (nI 0 = nI 3) = False := by decide
theorem K04 : (nI 0 = nI 4) = False := by decide
theorem K05 : (nI 0 = nI 5) = False := by decide
theorem K10 : (nI 1 = nI 0) = False := by decide
theorem K12 : (nI 1 = nI 2) = False := by decide
theorem K13 : (nI 1 = nI 3) = False := by decide
theorem K14 : (nI 1 = nI 4) = False := by decide
theorem K15 : (nI 1 = nI 5) = False := by decide
theorem K20 : (nI 2 = nI 0) = False := by decide
theorem K21 : (nI 2 = nI 1) = False := by decide
theorem K23 : (nI 2 = nI 3) = False := by decide
theorem K24 : (nI 2 = nI 4) = False := by decide
theorem K25 : (nI 2 = nI 5) = False := by decide
theorem K30 : (nI 3 = nI 0) = False := by decide
theorem K31 : (nI 3 = nI 1) = False := by decide
theorem K32 : (nI 3 = nI 2) = False := by decide
theorem K34 : (nI 3 = nI 4) = False := by decide
theorem K35 : (nI 3 = nI 5) = False := by decide
theorem K40 : (nI 4 = nI 0) = False := by decide
theorem K41 : (nI 4 = nI 1) = False := by decide
theorem K42 : (nI 4 = nI 2) = False := by decide
theorem K43 : (nI 4 = nI 3) = False := by decide
theorem K45 : (nI 4 = nI 5) = False := by decide
theorem K50 : (nI 5 = nI 0) = False := by decide
theorem K51 : (nI 5 = nI 1) = False := by decide
theorem K52 : (nI 5 = nI 2) = False := by decide
theorem K53 : (nI 5 = nI 3) = False := by decide
theorem K54 : (nI 5 = nI 4) = False := by decide
theorem K00 : (nI 0 = 0) = True := by decide
theorem le32 {a b : Int32} : (a ≤ b) = ¬ b < a := propext Int32.not_lt.symm
theorem nlt_le {a b : Int32} : (¬ a < b) = (b ≤ a) := propext Int32.not_lt
theorem nle_lt {a b : Int32} : (¬ a ≤ b) = (b < a) := propext Int32.not_le
abbrev cbb (b ba r rd : Int32) : Prop := if b = nI 1 then r = nI 2 else if b = nI 3 then rd = nI 1 ∧ ba = nI 1 else if b = nI 4 then ba = nI 1 else if b = nI 5 then ba = nI 2 else True
section ST
variable {n : Nat} {S : Nat → Shp} {g : Nat → Nat → Int32} {p q : Nat} {s : Sx}
theorem D_canBeBuilt {h : Hp} {b ba r rd : Int32} : Den 20 [.int b, .int ba, .int r, .int rd] h = some (some (b2 (cbb b ba r rd)), h) := by
  rw [D0_20]
  simp only [e20_0, e20_1, e20_36, e20_37, e20_38, e20_41, e20_42, e20_45, e20_46, e20_47, e20_48, e20_49, e20_52, e20_53, e20_54, e20_57, e20_58, e20_61, e20_62, e20_63, e20_64, e20_65, e20_68, e20_69, e20_72, e20_73, e20_74, e20_75, e20_76, e20_79, e20_80, e20_83, e20_84, e20_85, e20_86, one_01, zero_01]
  unfold cbb b2
  repeat' split
  all_goals simp_all [K01, K02, K03, K04, K05, K10, K12, K13, K14, K15, K20, K21, K23, K24, K25, K30, K31, K32, K34, K35, K40, K41, K42, K43, K45, K50, K51, K52, K53, K54, K00]
theorem D_tellingCell {h : Hp} {rd i j : Int32} : Den 21 [.int rd, .int i, .int j] h = some (some (tellC rd i j), h) := by
  rw [D0_21]
  simp only [e21_0, e21_1, e21_2, e21_3, e21_4, e21_5, e21_6, e21_7, e21_8, e21_9]
  rfl
theorem D_relayCell {rd i nth : Int32} : Den 61 [.int rd, .int i, .int nth] (Hq n S g) = some (some (relC rd i nth), Hq n S g) := by
  rw [D0_61]
  simp only [e61_0, e61_1, e61_4, e61_5, e61_6, e61_7, e61_8, e61_11, e61_12, e61_13, e61_14, e61_15, e61_16, e61_19, e61_20, e61_21, e61_22, e61_25, e61_26, e61_27, e61_28, e61_31, e61_32, e61_33, e61_34, e61_35, e61_36, e61_37, e61_40, e61_41, e61_44, e61_45, e61_46, e61_47, e61_50, en_21, D_tellingCell, lvH_Hq, Option.bind_some, psh_i, psh_n, Hq_G, Hq_setG, upf_same, upf_upf, le32, Classical.not_not, ite_not]
  unfold relC
  simp only [le32, ite_not]
  repeat' split
  all_goals simp_all [-Int32.not_lt, -Int32.not_le]
theorem D_valueWritten (hs : St n S p q) {a : Nat} (ha : a < 5) (hA : Ix 7 (s.P a 0)) : Den 62 [.ref p, .int (nI a)] (Hq n S (upf g q (lay s))) = some (some (valW s a), Hq n S (upf g q (lay s))) := by
  obtain ⟨k, hk, hA⟩ := hA
  rw [D0_62]
  simp only [e62_0, e62_1, e62_2, e62_3, e62_4, e62_7, e62_8, e62_11, en_28, en_29, hs.i, D_of hs ha, hA, D_ofAct hs hk, Nat.reduceLT, Nat.reduceLeDiff, Nat.reduceAdd, Nat.reduceMul, lvH_Hq, Option.bind_some, psh_i, psh_n, Hq_G, Hq_setG, upf_same, upf_upf]
  unfold valW
  rw [hA, ix_nI (by omega)]
theorem D_bitWritten (hs : St n S p q) {v nth : Int32} : Den 60 [.ref p, .int v, .int nth] (Hq n S (upf g q (lay s))) = some (some (bitW s v nth), Hq n S (upf g q (lay s))) := by
  rw [D0_60]
  simp only [e60_0, e60_1, e60_2, e60_5, e60_8, e60_9, e60_10, e60_11, e60_12, e60_13, e60_14, e60_15, e60_18, e60_19, e60_20, e60_23, e60_24, e60_25, e60_26, e60_27, e60_30, e60_31, e60_34, e60_35, e60_36, e60_37, en_25, hs.i, D_get hs, Nat.reduceLT, Nat.reduceLeDiff, Nat.reduceAdd, Nat.reduceMul, lvH_Hq, Option.bind_some, psh_i, psh_n, Hq_G, Hq_setG, upf_same, upf_upf, le32, Classical.not_not, ite_not]
  unfold bitW
  simp only [nI_0]
  repeat' split
  all_goals simp_all [-Int32.not_lt, -Int32.not_le]
theorem D_reads (hs : St n S p q) {a : Nat} (ha : a < 5) {nth : Int32} : Den 106 [.ref p, .int (nI a), .int nth] (Hq n S (upf g q (lay s))) = some (some (b2 (rds s a nth)), Hq n S (upf g q (lay s))) := by
  rw [D0_106]
  simp only [e106_0, e106_1, e106_2, e106_5, e106_6, e106_7, e106_8, e106_11, e106_14, e106_15, e106_16, e106_19, e106_20, e106_23, e106_26, e106_27, e106_28, e106_31, e106_32, e106_35, e106_36, e106_37, e106_38, e106_39, e106_42, e106_43, e106_44, e106_45, e106_48, e106_51, e106_52, e106_55, e106_56, en_25, en_65, en_67, hs.i, D_get hs, D_isWriter hs ha, D_isPoor hs, Nat.reduceLT, Nat.reduceLeDiff, Nat.reduceAdd, Nat.reduceMul, lvH_Hq, Option.bind_some, psh_i, psh_n, Hq_G, Hq_setG, upf_same, upf_upf, b2_0, one_01, zero_01, le32, Classical.not_not, ite_not]
  unfold b2 rds
  repeat' split
  all_goals simp_all [-Int32.not_lt, -Int32.not_le]
end ST
