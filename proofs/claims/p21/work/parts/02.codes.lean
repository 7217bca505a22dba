/-! THE TABLES: methods, classes, links of the program, by number; each row with the place of its word in lw_tbl -/
def wsAll : List Cond := lw_tbl.filter goodWord
theorem wsAll_of {i : Nat} {w : Cond} (h : lw_tbl[i]? = some w) (g : goodWord w = true) : w ∈ wsAll := List.mem_filter.mpr ⟨List.mem_of_getElem? h, g⟩
theorem wsAll_and {i : Nat} {w : Cond} (h : (decide (lw_tbl[i]? = some w) && goodWord w) = true) : w ∈ wsAll := by rw [Bool.and_eq_true] at h; exact wsAll_of (of_decide_eq_true h.1) h.2
def mNl : List MethodName := [⟨"java/util/Arrays", "fill", "([II)V"⟩, ⟨"StrongCellsLaw", "cell", "([II)I"⟩, ⟨"StrongCellsLaw", "low", "(II)I"⟩, ⟨"StrongCells$Book", "<init>", "()V"⟩, ⟨"StrongCellsLaw", "built", "(LStrongCells;II)I"⟩, ⟨"StrongCells$Book", "size", "()I"⟩, ⟨"StrongCellsLaw", "deed", "(LStrongCells;II)I"⟩, ⟨"StrongCellsLaw", "isWell", "(LStrongCells;)Z"⟩, ⟨"StrongCellsLaw", "waysAre", "(LStrongCells;)Z"⟩, ⟨"StrongCells", "within", "(III)Z"⟩, ⟨"StrongCells", "within", "(III)Z"⟩, ⟨"StrongCells", "within", "(III)Z"⟩, ⟨"StrongCells", "within", "(III)Z"⟩, ⟨"StrongCells", "within", "(III)Z"⟩, ⟨"StrongCells", "within", "(III)Z"⟩, ⟨"StrongCells", "within", "(III)Z"⟩, ⟨"StrongCells$Deeds", "forget", "()V"⟩, ⟨"StrongCells$Deeds", "size", "()I"⟩, ⟨"StrongCells$Images", "isImage", "(I)Z"⟩, ⟨"StrongCells$Judge", "<init>", "()V"⟩, ⟨"StrongCells$Plan", "canBeBuilt", "(IIII)Z"⟩, ⟨"StrongCells$Plan", "tellingCell", "(III)I"⟩, ⟨"StrongCells$Shelf", "<init>", "(I)V"⟩, ⟨"StrongCells$Shelf", "put", "(ILStrongCells$State;)V"⟩, ⟨"StrongCells$Shelf", "take", "(ILStrongCells$State;)V"⟩, ⟨"StrongCells$State", "get", "(I)I"⟩, ⟨"StrongCells$State", "held", "(I)I"⟩, ⟨"StrongCells$State", "<init>", "()V"⟩, ⟨"StrongCells$State", "of", "(II)I"⟩, ⟨"StrongCells$State", "ofAct", "(II)I"⟩, ⟨"StrongCells$State", "put", "(II)V"⟩, ⟨"StrongCells$Ways", "forget", "()V"⟩, ⟨"StrongCells$Ways", "open", "(I)V"⟩, ⟨"StrongCells", "draw", "(I)I"⟩, ⟨"StrongCells", "within", "(III)Z"⟩, ⟨"StrongCells", "within", "(III)Z"⟩, ⟨"StrongCells$Book", "firstWrong", "(LStrongCells$State;)I"⟩, ⟨"StrongCells", "within", "(III)Z"⟩, ⟨"StrongCells", "within", "(III)Z"⟩, ⟨"StrongCells", "within", "(III)Z"⟩, ⟨"StrongCells", "within", "(III)Z"⟩, ⟨"StrongCells", "within", "(III)Z"⟩, ⟨"StrongCells", "within", "(III)Z"⟩, ⟨"StrongCells", "within", "(III)Z"⟩, ⟨"StrongCells", "within", "(III)Z"⟩, ⟨"StrongCells", "within", "(III)Z"⟩, ⟨"StrongCells", "within", "(III)Z"⟩, ⟨"StrongCells", "within", "(III)Z"⟩, ⟨"StrongCells", "within", "(III)Z"⟩, ⟨"StrongCells", "within", "(III)Z"⟩, ⟨"StrongCells$Deeds", "add", "(LStrongCells$State;)V"⟩, ⟨"StrongCells$Deeds", "<init>", "()V"⟩, ⟨"StrongCells$Deeds", "takeBack", "(ILStrongCells$State;)V"⟩, ⟨"StrongCells$Images", "<init>", "()V"⟩, ⟨"StrongCells$Images", "restore", "(ILStrongCells$State;)V"⟩, ⟨"StrongCells$Images", "seedOf", "(I)I"⟩, ⟨"StrongCells$Images", "store", "(ILStrongCells$State;I)V"⟩, ⟨"StrongCells$Judge", "hasEnded", "(LStrongCells$State;I)Z"⟩, ⟨"StrongCells$Judge", "isAhead", "(LStrongCells$State;II)Z"⟩, ⟨"StrongCells$Judge", "isRead", "(LStrongCells$State;I)Z"⟩, ⟨"StrongCells$Plan", "bitWritten", "(LStrongCells$State;II)I"⟩, ⟨"StrongCells$Plan", "relayCell", "(III)I"⟩, ⟨"StrongCells$Plan", "valueWritten", "(LStrongCells$State;I)I"⟩, ⟨"StrongCells$State", "hasRoom", "()Z"⟩, ⟨"StrongCells$State", "hold", "(II)V"⟩, ⟨"StrongCells$State", "isPoor", "()Z"⟩, ⟨"StrongCells$State", "isUnderWay", "(I)Z"⟩, ⟨"StrongCells$State", "isWriter", "(I)Z"⟩, ⟨"StrongCells$State", "set", "(III)V"⟩, ⟨"StrongCells$State", "setAct", "(III)V"⟩, ⟨"StrongCells$State", "shape", "(IIIII)V"⟩, ⟨"StrongCells$State", "writers", "()I"⟩, ⟨"StrongCells$Steps", "numberGot", "(LStrongCells$State;II)I"⟩, ⟨"StrongCells$Steps", "tick", "(LStrongCells$State;)V"⟩, ⟨"StrongCells$Ways", "goFirstBad", "(LStrongCells$State;)V"⟩, ⟨"StrongCells$Ways", "<init>", "()V"⟩, ⟨"StrongCells", "isAct", "(I)Z"⟩, ⟨"StrongCells", "within", "(III)Z"⟩, ⟨"StrongCells", "within", "(III)Z"⟩, ⟨"StrongCells", "within", "(III)Z"⟩, ⟨"StrongCells", "within", "(III)Z"⟩, ⟨"StrongCells", "within", "(III)Z"⟩, ⟨"StrongCells", "within", "(III)Z"⟩, ⟨"StrongCells", "within", "(III)Z"⟩, ⟨"StrongCells", "within", "(III)Z"⟩, ⟨"StrongCells", "within", "(III)Z"⟩, ⟨"StrongCells", "within", "(III)Z"⟩, ⟨"StrongCells", "within", "(III)Z"⟩, ⟨"StrongCells", "within", "(III)Z"⟩, ⟨"StrongCells", "within", "(III)Z"⟩, ⟨"StrongCells", "within", "(III)Z"⟩, ⟨"StrongCells", "within", "(III)Z"⟩, ⟨"StrongCells", "within", "(III)Z"⟩, ⟨"StrongCells", "within", "(III)Z"⟩, ⟨"StrongCells", "within", "(III)Z"⟩, ⟨"StrongCells", "within", "(III)Z"⟩, ⟨"StrongCells$Images", "isKept", "(I)Z"⟩, ⟨"StrongCells$Judge", "actsAhead", "(LStrongCells$State;I)I"⟩, ⟨"StrongCells$Judge", "endedActs", "(LStrongCells$State;I)I"⟩, ⟨"StrongCells$Judge", "judges", "(LStrongCells$State;I)Z"⟩, ⟨"StrongCells$Judge", "lastWriting", "(LStrongCells$State;I)I"⟩, ⟨"StrongCells$Judge", "putBehind", "(LStrongCells$State;II)V"⟩, ⟨"StrongCells$Judge", "writesBeside", "(LStrongCells$State;II)Z"⟩, ⟨"StrongCells$Plan", "accesses", "(LStrongCells$State;II)I"⟩, ⟨"StrongCells$Plan", "cellOf", "(LStrongCells$State;IIZ)I"⟩, ⟨"StrongCells$Plan", "numberWritten", "(LStrongCells$State;II)I"⟩, ⟨"StrongCells$Plan", "reads", "(LStrongCells$State;II)Z"⟩, ⟨"StrongCells$State", "cells", "()I"⟩, ⟨"StrongCells$State", "processes", "()I"⟩, ⟨"StrongCells$State", "restart", "()V"⟩, ⟨"StrongCells$State", "underWay", "()I"⟩, ⟨"StrongCells$Steps", "addNumber", "(LStrongCells$State;II)V"⟩, ⟨"StrongCells$Steps", "choices", "(LStrongCells$State;I)I"⟩, ⟨"StrongCells$Steps", "finish", "(LStrongCells$State;I)V"⟩, ⟨"StrongCells$Steps", "keepAtStart", "(LStrongCells$State;II)V"⟩, ⟨"StrongCells$Steps", "keepNewer", "(LStrongCells$State;II)V"⟩, ⟨"StrongCells$Steps", "putDown", "(LStrongCells$State;I)V"⟩, ⟨"StrongCells", "keep", "(I)I"⟩, ⟨"StrongCells", "remember", "()V"⟩, ⟨"StrongCells", "undo", "(I)I"⟩, ⟨"StrongCells", "within", "(III)Z"⟩, ⟨"StrongCells", "within", "(III)Z"⟩, ⟨"StrongCells", "within", "(III)Z"⟩, ⟨"StrongCells", "within", "(III)Z"⟩, ⟨"StrongCells", "within", "(III)Z"⟩, ⟨"StrongCells", "within", "(III)Z"⟩, ⟨"StrongCells", "within", "(III)Z"⟩, ⟨"StrongCells", "within", "(III)Z"⟩, ⟨"StrongCells", "within", "(III)Z"⟩, ⟨"StrongCells$Judge", "atomic", "(LStrongCells$State;)Z"⟩, ⟨"StrongCells$Judge", "toldBeside", "(LStrongCells$State;II)Z"⟩, ⟨"StrongCells$Judge", "toldLast", "(LStrongCells$State;I)Z"⟩, ⟨"StrongCells$Plan", "prepare", "(LStrongCells$State;I)V"⟩, ⟨"StrongCells$State", "greatestStamp", "()I"⟩, ⟨"StrongCells$Steps", "beginAccess", "(LStrongCells$State;I)V"⟩, ⟨"StrongCells$Steps", "takeIn", "(LStrongCells$State;II)V"⟩, ⟨"StrongCells", "beginAnew", "()V"⟩, ⟨"StrongCells", "cell", "(I)I"⟩, ⟨"StrongCells", "goBack", "(I)I"⟩, ⟨"StrongCells", "<init>", "()V"⟩, ⟨"StrongCells", "isProcess", "(I)Z"⟩, ⟨"StrongCells", "within", "(III)Z"⟩, ⟨"StrongCells", "within", "(III)Z"⟩, ⟨"StrongCells", "within", "(III)Z"⟩, ⟨"StrongCells", "within", "(III)Z"⟩, ⟨"StrongCells", "within", "(III)Z"⟩, ⟨"StrongCells", "within", "(III)Z"⟩, ⟨"StrongCells$Judge", "greatestSource", "(LStrongCells$State;I)I"⟩, ⟨"StrongCells$Judge", "leastSource", "(LStrongCells$State;I)I"⟩, ⟨"StrongCells$Judge", "safe", "(LStrongCells$State;I)Z"⟩, ⟨"StrongCells$Steps", "go", "(LStrongCells$State;II)Z"⟩, ⟨"StrongCells$Steps", "start", "(LStrongCells$State;II)I"⟩, ⟨"StrongCells$Ways", "countWay", "(ILStrongCells$Judge;)V"⟩, ⟨"StrongCells", "build", "(IIIII)I"⟩, ⟨"StrongCells", "clear", "()I"⟩, ⟨"StrongCells", "process", "(II)I"⟩, ⟨"StrongCells", "within", "(III)Z"⟩, ⟨"StrongCells", "within", "(III)Z"⟩, ⟨"StrongCells", "within", "(III)Z"⟩, ⟨"StrongCells", "within", "(III)Z"⟩, ⟨"StrongCells", "within", "(III)Z"⟩, ⟨"StrongCells", "within", "(III)Z"⟩, ⟨"StrongCells$Judge", "firstNotSafe", "(LStrongCells$State;)I"⟩, ⟨"StrongCells$Judge", "goesBack", "(LStrongCells$State;I)Z"⟩, ⟨"StrongCells$Judge", "regular", "(LStrongCells$State;I)Z"⟩, ⟨"StrongCells$Ways", "goOn", "(I)Z"⟩, ⟨"StrongCells", "begin", "(II)I"⟩, ⟨"StrongCells", "driftOnce", "()V"⟩, ⟨"StrongCells", "run", "()I"⟩, ⟨"StrongCells", "step", "(II)I"⟩, ⟨"StrongCells", "within", "(III)Z"⟩, ⟨"StrongCells", "within", "(III)Z"⟩, ⟨"StrongCells", "within", "(III)Z"⟩, ⟨"StrongCells", "within", "(III)Z"⟩, ⟨"StrongCells", "within", "(III)Z"⟩, ⟨"StrongCells", "within", "(III)Z"⟩, ⟨"StrongCells", "within", "(III)Z"⟩, ⟨"StrongCells$Judge", "firstGoingBack", "(LStrongCells$State;)I"⟩, ⟨"StrongCells$Judge", "firstNotRegular", "(LStrongCells$State;)I"⟩, ⟨"StrongCells$Ways", "goThrough", "(LStrongCells$State;LStrongCells$Judge;)V"⟩, ⟨"StrongCells", "act", "(II)I"⟩, ⟨"StrongCells", "drift", "(I)I"⟩, ⟨"StrongCells", "within", "(III)Z"⟩, ⟨"StrongCells", "within", "(III)Z"⟩, ⟨"StrongCells", "within", "(III)Z"⟩, ⟨"StrongCells", "bad", "()I"⟩, ⟨"StrongCells", "told", "(I)I"⟩, ⟨"StrongCells", "ways", "(I)I"⟩, ⟨"StrongCells", "within", "(III)Z"⟩, ⟨"StrongCells", "within", "(III)Z"⟩, ⟨"StrongCells", "within", "(III)Z"⟩, ⟨"StrongCells", "within", "(III)Z"⟩, ⟨"StrongCells", "within", "(III)Z"⟩, ⟨"StrongCells", "within", "(III)Z"⟩, ⟨"StrongCells", "within", "(III)Z"⟩, ⟨"StrongCells", "within", "(III)Z"⟩, ⟨"StrongCells", "within", "(III)Z"⟩, ⟨"StrongCells", "within", "(III)Z"⟩, ⟨"StrongCells", "within", "(III)Z"⟩, ⟨"StrongCellsLaw", "law", "([I)Z"⟩]
def mN (m : Nat) : MethodName := mNl.getD m ⟨"", "", ""⟩
def mBl : List ByteArray := [prog_15_method_103_code, method_2_code, method_3_code, prog_2_method_1_code, method_4_code, prog_2_method_2_code, method_5_code, method_6_code, method_7_code, prog_1_method_20_code, prog_1_method_20_code, prog_1_method_20_code, prog_1_method_20_code, prog_1_method_20_code, prog_1_method_20_code, prog_1_method_20_code, prog_3_method_3_code, prog_3_method_2_code, prog_4_method_2_code, prog_5_method_1_code, prog_6_method_2_code, prog_6_method_11_code, prog_7_method_1_code, prog_7_method_2_code, prog_7_method_3_code, prog_8_method_2_code, prog_8_method_4_code, prog_8_method_1_code, prog_8_method_8_code, prog_8_method_6_code, prog_8_method_3_code, prog_10_method_2_code, prog_10_method_5_code, prog_1_method_26_code, prog_1_method_20_code, prog_1_method_20_code, prog_2_method_6_code, prog_1_method_20_code, prog_1_method_20_code, prog_1_method_20_code, prog_1_method_20_code, prog_1_method_20_code, prog_1_method_20_code, prog_1_method_20_code, prog_1_method_20_code, prog_1_method_20_code, prog_1_method_20_code, prog_1_method_20_code, prog_1_method_20_code, prog_1_method_20_code, prog_3_method_4_code, prog_3_method_1_code, prog_3_method_5_code, prog_4_method_1_code, prog_4_method_6_code, prog_4_method_4_code, prog_4_method_5_code, prog_5_method_13_code, prog_5_method_14_code, prog_5_method_12_code, prog_6_method_9_code, prog_6_method_10_code, prog_6_method_8_code, prog_8_method_19_code, prog_8_method_5_code, prog_8_method_12_code, prog_8_method_17_code, prog_8_method_14_code, prog_8_method_9_code, prog_8_method_7_code, prog_8_method_10_code, prog_8_method_13_code, prog_9_method_9_code, prog_9_method_5_code, prog_10_method_3_code, prog_10_method_1_code, prog_1_method_22_code, prog_1_method_20_code, prog_1_method_20_code, prog_1_method_20_code, prog_1_method_20_code, prog_1_method_20_code, prog_1_method_20_code, prog_1_method_20_code, prog_1_method_20_code, prog_1_method_20_code, prog_1_method_20_code, prog_1_method_20_code, prog_1_method_20_code, prog_1_method_20_code, prog_1_method_20_code, prog_1_method_20_code, prog_1_method_20_code, prog_1_method_20_code, prog_1_method_20_code, prog_1_method_20_code, prog_4_method_3_code, prog_5_method_11_code, prog_5_method_10_code, prog_5_method_2_code, prog_5_method_16_code, prog_5_method_9_code, prog_5_method_15_code, prog_6_method_3_code, prog_6_method_6_code, prog_6_method_7_code, prog_6_method_5_code, prog_8_method_16_code, prog_8_method_15_code, prog_8_method_11_code, prog_8_method_18_code, prog_9_method_8_code, prog_9_method_3_code, prog_9_method_13_code, prog_9_method_6_code, prog_9_method_12_code, prog_9_method_10_code, prog_1_method_18_code, prog_1_method_24_code, prog_1_method_14_code, prog_1_method_20_code, prog_1_method_20_code, prog_1_method_20_code, prog_1_method_20_code, prog_1_method_20_code, prog_1_method_20_code, prog_1_method_20_code, prog_1_method_20_code, prog_1_method_20_code, prog_5_method_8_code, prog_5_method_18_code, prog_5_method_17_code, prog_6_method_4_code, prog_8_method_20_code, prog_9_method_7_code, prog_9_method_11_code, prog_1_method_23_code, prog_1_method_3_code, prog_1_method_19_code, prog_1_method_1_code, prog_1_method_21_code, prog_1_method_20_code, prog_1_method_20_code, prog_1_method_20_code, prog_1_method_20_code, prog_1_method_20_code, prog_1_method_20_code, prog_5_method_19_code, prog_5_method_20_code, prog_5_method_3_code, prog_9_method_4_code, prog_9_method_2_code, prog_10_method_6_code, prog_1_method_7_code, prog_1_method_8_code, prog_1_method_4_code, prog_1_method_20_code, prog_1_method_20_code, prog_1_method_20_code, prog_1_method_20_code, prog_1_method_20_code, prog_1_method_20_code, prog_5_method_5_code, prog_5_method_21_code, prog_5_method_4_code, prog_10_method_7_code, prog_1_method_9_code, prog_1_method_25_code, prog_1_method_11_code, prog_1_method_10_code, prog_1_method_20_code, prog_1_method_20_code, prog_1_method_20_code, prog_1_method_20_code, prog_1_method_20_code, prog_1_method_20_code, prog_1_method_20_code, prog_5_method_7_code, prog_5_method_6_code, prog_10_method_4_code, prog_1_method_5_code, prog_1_method_13_code, prog_1_method_20_code, prog_1_method_20_code, prog_1_method_20_code, prog_1_method_12_code, prog_1_method_2_code, prog_1_method_6_code, prog_1_method_20_code, prog_1_method_20_code, prog_1_method_20_code, prog_1_method_20_code, prog_1_method_20_code, prog_1_method_20_code, prog_1_method_20_code, prog_1_method_20_code, prog_1_method_20_code, prog_1_method_20_code, prog_1_method_20_code, code]
def mB (m : Nat) : ByteArray := mBl.getD m ⟨#[]⟩
def mLl : List Nat := [4, 2, 2, 1, 7, 1, 5, 5, 10, 3, 3, 3, 3, 3, 3, 3, 1, 1, 2, 1, 4, 3, 2, 3, 3, 2, 3, 1, 4, 4, 3, 1, 2, 2, 3, 3, 3, 3, 3, 3, 3, 3, 3, 3, 3, 3, 3, 3, 3, 3, 2, 1, 3, 1, 3, 2, 4, 2, 4, 2, 3, 4, 2, 1, 3, 1, 2, 2, 4, 4, 6, 1, 5, 1, 2, 1, 2, 3, 3, 3, 3, 3, 3, 3, 3, 3, 3, 3, 3, 3, 3, 3, 3, 3, 3, 3, 2, 4, 4, 3, 4, 5, 3, 6, 5, 5, 4, 1, 1, 2, 3, 5, 2, 3, 6, 3, 3, 2, 1, 2, 3, 3, 3, 3, 3, 3, 3, 3, 3, 6, 3, 3, 4, 3, 6, 5, 1, 2, 2, 1, 2, 3, 3, 3, 3, 3, 3, 3, 3, 4, 4, 4, 3, 6, 2, 3, 3, 3, 3, 3, 3, 3, 3, 5, 3, 4, 3, 3, 4, 3, 3, 3, 3, 3, 3, 3, 3, 3, 3, 5, 4, 3, 3, 3, 3, 2, 2, 2, 3, 3, 3, 3, 3, 3, 3, 3, 3, 3, 3, 6]
def mL (m : Nat) : Nat := mLl.getD m 0
def mRl : List (Option FieldType) := [none, some .int, some .int, none, some .int, some .int, some .int, some .boolean, some .boolean, some .boolean, some .boolean, some .boolean, some .boolean, some .boolean, some .boolean, some .boolean, none, some .int, some .boolean, none, some .boolean, some .int, none, none, none, some .int, some .int, none, some .int, some .int, none, none, none, some .int, some .boolean, some .boolean, some .int, some .boolean, some .boolean, some .boolean, some .boolean, some .boolean, some .boolean, some .boolean, some .boolean, some .boolean, some .boolean, some .boolean, some .boolean, some .boolean, none, none, none, none, none, some .int, none, some .boolean, some .boolean, some .boolean, some .int, some .int, some .int, some .boolean, none, some .boolean, some .boolean, some .boolean, none, none, none, some .int, some .int, none, none, none, some .boolean, some .boolean, some .boolean, some .boolean, some .boolean, some .boolean, some .boolean, some .boolean, some .boolean, some .boolean, some .boolean, some .boolean, some .boolean, some .boolean, some .boolean, some .boolean, some .boolean, some .boolean, some .boolean, some .boolean, some .boolean, some .int, some .int, some .boolean, some .int, none, some .boolean, some .int, some .int, some .int, some .boolean, some .int, some .int, none, some .int, none, some .int, none, none, none, none, some .int, none, some .int, some .boolean, some .boolean, some .boolean, some .boolean, some .boolean, some .boolean, some .boolean, some .boolean, some .boolean, some .boolean, some .boolean, some .boolean, none, some .int, none, none, none, some .int, some .int, none, some .boolean, some .boolean, some .boolean, some .boolean, some .boolean, some .boolean, some .boolean, some .int, some .int, some .boolean, some .boolean, some .int, none, some .int, some .int, some .int, some .boolean, some .boolean, some .boolean, some .boolean, some .boolean, some .boolean, some .int, some .boolean, some .boolean, some .boolean, some .int, none, some .int, some .int, some .boolean, some .boolean, some .boolean, some .boolean, some .boolean, some .boolean, some .boolean, some .int, some .int, none, some .int, some .int, some .boolean, some .boolean, some .boolean, some .int, some .int, some .int, some .boolean, some .boolean, some .boolean, some .boolean, some .boolean, some .boolean, some .boolean, some .boolean, some .boolean, some .boolean, some .boolean, some .boolean]
def mR (m : Nat) : Option FieldType := mRl.getD m none
def codT : List (Nat × Nat) := [(0, 274), (1, 373), (2, 377), (3, 157), (4, 381), (5, 342), (6, 404), (7, 603), (8, 607), (9, 221), (10, 221), (11, 221), (12, 221), (13, 221), (14, 221), (15, 221), (16, 397), (17, 352), (18, 563), (19, 49), (20, 388), (21, 510), (22, 68), (23, 447), (24, 551), (25, 188), (26, 337), (27, 37), (28, 247), (29, 265), (30, 176), (31, 401), (32, 620), (33, 431), (34, 221), (35, 221), (36, 346), (37, 221), (38, 221), (39, 221), (40, 221), (41, 221), (42, 221), (43, 221), (44, 221), (45, 221), (46, 221), (47, 221), (48, 221), (49, 221), (50, 443), (51, 124), (52, 547), (53, 142), (54, 585), (55, 581), (56, 567), (57, 261), (58, 271), (59, 281), (60, 503), (61, 507), (62, 499), (63, 529), (64, 192), (65, 471), (66, 243), (67, 492), (68, 184), (69, 521), (70, 172), (71, 230), (72, 464), (73, 524), (74, 644), (75, 62), (76, 366), (77, 221), (78, 221), (79, 221), (80, 221), (81, 221), (82, 221), (83, 221), (84, 221), (85, 221), (86, 221), (87, 221), (88, 221), (89, 221), (90, 221), (91, 221), (92, 221), (93, 221), (94, 221), (95, 221), (96, 577), (97, 268), (98, 258), (99, 289), (100, 300), (101, 278), (102, 303), (103, 536), (104, 496), (105, 513), (106, 487), (107, 234), (108, 226), (109, 180), (110, 239), (111, 461), (112, 416), (113, 516), (114, 539), (115, 474), (116, 478), (117, 559), (118, 439), (119, 543), (120, 221), (121, 221), (122, 221), (123, 221), (124, 221), (125, 221), (126, 221), (127, 221), (128, 221), (129, 251), (130, 317), (131, 297), (132, 482), (133, 332), (134, 456), (135, 467), (136, 393), (137, 356), (138, 573), (139, 29), (140, 412), (141, 221), (142, 221), (143, 221), (144, 221), (145, 221), (146, 221), (147, 314), (148, 328), (149, 294), (150, 453), (151, 533), (152, 627), (153, 385), (154, 555), (155, 408), (156, 221), (157, 221), (158, 221), (159, 221), (160, 221), (161, 221), (162, 285), (163, 325), (164, 311), (165, 633), (166, 599), (167, 427), (168, 591), (169, 595), (170, 221), (171, 221), (172, 221), (173, 221), (174, 221), (175, 221), (176, 221), (177, 321), (178, 307), (179, 615), (180, 362), (181, 423), (182, 221), (183, 221), (184, 221), (185, 640), (186, 218), (187, 611), (188, 221), (189, 221), (190, 221), (191, 221), (192, 221), (193, 221), (194, 221), (195, 221), (196, 221), (197, 221), (198, 221)]
set_option maxRecDepth 40000 in
theorem cod_0 : Cond.code (mN 0) (mB 0) (mL 0) (mR 0) ∈ lw_tbl := List.mem_append_right _ (List.mem_append_right _ (List.mem_append_left _ (List.mem_of_getElem? (i := 23) (rfl : tables_1_2[23]? = some (Cond.code (mN 0) (mB 0) (mL 0) (mR 0))))))
set_option maxRecDepth 40000 in
theorem cod_1 : Cond.code (mN 1) (mB 1) (mL 1) (mR 1) ∈ lw_tbl := List.mem_append_right _ (List.mem_append_right _ (List.mem_append_left _ (List.mem_of_getElem? (i := 122) (rfl : tables_1_2[122]? = some (Cond.code (mN 1) (mB 1) (mL 1) (mR 1))))))
set_option maxRecDepth 40000 in
theorem cod_2 : Cond.code (mN 2) (mB 2) (mL 2) (mR 2) ∈ lw_tbl := List.mem_append_right _ (List.mem_append_right _ (List.mem_append_left _ (List.mem_of_getElem? (i := 126) (rfl : tables_1_2[126]? = some (Cond.code (mN 2) (mB 2) (mL 2) (mR 2))))))
set_option maxRecDepth 40000 in
theorem cod_3 : Cond.code (mN 3) (mB 3) (mL 3) (mR 3) ∈ lw_tbl := List.mem_append_right _ (List.mem_append_left _ (List.mem_of_getElem? (i := 146) (rfl : tables_1_1[146]? = some (Cond.code (mN 3) (mB 3) (mL 3) (mR 3)))))
set_option maxRecDepth 40000 in
theorem cod_4 : Cond.code (mN 4) (mB 4) (mL 4) (mR 4) ∈ lw_tbl := List.mem_append_right _ (List.mem_append_right _ (List.mem_append_left _ (List.mem_of_getElem? (i := 130) (rfl : tables_1_2[130]? = some (Cond.code (mN 4) (mB 4) (mL 4) (mR 4))))))
set_option maxRecDepth 40000 in
theorem cod_5 : Cond.code (mN 5) (mB 5) (mL 5) (mR 5) ∈ lw_tbl := List.mem_append_right _ (List.mem_append_right _ (List.mem_append_left _ (List.mem_of_getElem? (i := 91) (rfl : tables_1_2[91]? = some (Cond.code (mN 5) (mB 5) (mL 5) (mR 5))))))
set_option maxRecDepth 40000 in
theorem cod_6 : Cond.code (mN 6) (mB 6) (mL 6) (mR 6) ∈ lw_tbl := List.mem_append_right _ (List.mem_append_right _ (List.mem_append_left _ (List.mem_of_getElem? (i := 153) (rfl : tables_1_2[153]? = some (Cond.code (mN 6) (mB 6) (mL 6) (mR 6))))))
set_option maxRecDepth 40000 in
theorem cod_7 : Cond.code (mN 7) (mB 7) (mL 7) (mR 7) ∈ lw_tbl := List.mem_append_right _ (List.mem_append_right _ (List.mem_append_right _ (List.mem_of_getElem? (i := 112) (rfl : tables_1_3[112]? = some (Cond.code (mN 7) (mB 7) (mL 7) (mR 7))))))
set_option maxRecDepth 40000 in
theorem cod_8 : Cond.code (mN 8) (mB 8) (mL 8) (mR 8) ∈ lw_tbl := List.mem_append_right _ (List.mem_append_right _ (List.mem_append_right _ (List.mem_of_getElem? (i := 116) (rfl : tables_1_3[116]? = some (Cond.code (mN 8) (mB 8) (mL 8) (mR 8))))))
set_option maxRecDepth 40000 in
theorem cod_9 : Cond.code (mN 9) (mB 9) (mL 9) (mR 9) ∈ lw_tbl := List.mem_append_right _ (List.mem_append_left _ (List.mem_of_getElem? (i := 210) (rfl : tables_1_1[210]? = some (Cond.code (mN 9) (mB 9) (mL 9) (mR 9)))))
set_option maxRecDepth 40000 in
theorem cod_10 : Cond.code (mN 10) (mB 10) (mL 10) (mR 10) ∈ lw_tbl := List.mem_append_right _ (List.mem_append_left _ (List.mem_of_getElem? (i := 210) (rfl : tables_1_1[210]? = some (Cond.code (mN 10) (mB 10) (mL 10) (mR 10)))))
set_option maxRecDepth 40000 in
theorem cod_11 : Cond.code (mN 11) (mB 11) (mL 11) (mR 11) ∈ lw_tbl := List.mem_append_right _ (List.mem_append_left _ (List.mem_of_getElem? (i := 210) (rfl : tables_1_1[210]? = some (Cond.code (mN 11) (mB 11) (mL 11) (mR 11)))))
set_option maxRecDepth 40000 in
theorem cod_12 : Cond.code (mN 12) (mB 12) (mL 12) (mR 12) ∈ lw_tbl := List.mem_append_right _ (List.mem_append_left _ (List.mem_of_getElem? (i := 210) (rfl : tables_1_1[210]? = some (Cond.code (mN 12) (mB 12) (mL 12) (mR 12)))))
set_option maxRecDepth 40000 in
theorem cod_13 : Cond.code (mN 13) (mB 13) (mL 13) (mR 13) ∈ lw_tbl := List.mem_append_right _ (List.mem_append_left _ (List.mem_of_getElem? (i := 210) (rfl : tables_1_1[210]? = some (Cond.code (mN 13) (mB 13) (mL 13) (mR 13)))))
set_option maxRecDepth 40000 in
theorem cod_14 : Cond.code (mN 14) (mB 14) (mL 14) (mR 14) ∈ lw_tbl := List.mem_append_right _ (List.mem_append_left _ (List.mem_of_getElem? (i := 210) (rfl : tables_1_1[210]? = some (Cond.code (mN 14) (mB 14) (mL 14) (mR 14)))))
set_option maxRecDepth 40000 in
theorem cod_15 : Cond.code (mN 15) (mB 15) (mL 15) (mR 15) ∈ lw_tbl := List.mem_append_right _ (List.mem_append_left _ (List.mem_of_getElem? (i := 210) (rfl : tables_1_1[210]? = some (Cond.code (mN 15) (mB 15) (mL 15) (mR 15)))))
set_option maxRecDepth 40000 in
theorem cod_16 : Cond.code (mN 16) (mB 16) (mL 16) (mR 16) ∈ lw_tbl := List.mem_append_right _ (List.mem_append_right _ (List.mem_append_left _ (List.mem_of_getElem? (i := 146) (rfl : tables_1_2[146]? = some (Cond.code (mN 16) (mB 16) (mL 16) (mR 16))))))
set_option maxRecDepth 40000 in
theorem cod_17 : Cond.code (mN 17) (mB 17) (mL 17) (mR 17) ∈ lw_tbl := List.mem_append_right _ (List.mem_append_right _ (List.mem_append_left _ (List.mem_of_getElem? (i := 101) (rfl : tables_1_2[101]? = some (Cond.code (mN 17) (mB 17) (mL 17) (mR 17))))))
set_option maxRecDepth 40000 in
theorem cod_18 : Cond.code (mN 18) (mB 18) (mL 18) (mR 18) ∈ lw_tbl := List.mem_append_right _ (List.mem_append_right _ (List.mem_append_right _ (List.mem_of_getElem? (i := 72) (rfl : tables_1_3[72]? = some (Cond.code (mN 18) (mB 18) (mL 18) (mR 18))))))
set_option maxRecDepth 40000 in
theorem cod_19 : Cond.code (mN 19) (mB 19) (mL 19) (mR 19) ∈ lw_tbl := List.mem_append_right _ (List.mem_append_left _ (List.mem_of_getElem? (i := 38) (rfl : tables_1_1[38]? = some (Cond.code (mN 19) (mB 19) (mL 19) (mR 19)))))
set_option maxRecDepth 40000 in
theorem cod_20 : Cond.code (mN 20) (mB 20) (mL 20) (mR 20) ∈ lw_tbl := List.mem_append_right _ (List.mem_append_right _ (List.mem_append_left _ (List.mem_of_getElem? (i := 137) (rfl : tables_1_2[137]? = some (Cond.code (mN 20) (mB 20) (mL 20) (mR 20))))))
set_option maxRecDepth 40000 in
theorem cod_21 : Cond.code (mN 21) (mB 21) (mL 21) (mR 21) ∈ lw_tbl := List.mem_append_right _ (List.mem_append_right _ (List.mem_append_right _ (List.mem_of_getElem? (i := 19) (rfl : tables_1_3[19]? = some (Cond.code (mN 21) (mB 21) (mL 21) (mR 21))))))
set_option maxRecDepth 40000 in
theorem cod_22 : Cond.code (mN 22) (mB 22) (mL 22) (mR 22) ∈ lw_tbl := List.mem_append_right _ (List.mem_append_left _ (List.mem_of_getElem? (i := 57) (rfl : tables_1_1[57]? = some (Cond.code (mN 22) (mB 22) (mL 22) (mR 22)))))
set_option maxRecDepth 40000 in
theorem cod_23 : Cond.code (mN 23) (mB 23) (mL 23) (mR 23) ∈ lw_tbl := List.mem_append_right _ (List.mem_append_right _ (List.mem_append_left _ (List.mem_of_getElem? (i := 196) (rfl : tables_1_2[196]? = some (Cond.code (mN 23) (mB 23) (mL 23) (mR 23))))))
set_option maxRecDepth 40000 in
theorem cod_24 : Cond.code (mN 24) (mB 24) (mL 24) (mR 24) ∈ lw_tbl := List.mem_append_right _ (List.mem_append_right _ (List.mem_append_right _ (List.mem_of_getElem? (i := 60) (rfl : tables_1_3[60]? = some (Cond.code (mN 24) (mB 24) (mL 24) (mR 24))))))
set_option maxRecDepth 40000 in
theorem cod_25 : Cond.code (mN 25) (mB 25) (mL 25) (mR 25) ∈ lw_tbl := List.mem_append_right _ (List.mem_append_left _ (List.mem_of_getElem? (i := 177) (rfl : tables_1_1[177]? = some (Cond.code (mN 25) (mB 25) (mL 25) (mR 25)))))
set_option maxRecDepth 40000 in
theorem cod_26 : Cond.code (mN 26) (mB 26) (mL 26) (mR 26) ∈ lw_tbl := List.mem_append_right _ (List.mem_append_right _ (List.mem_append_left _ (List.mem_of_getElem? (i := 86) (rfl : tables_1_2[86]? = some (Cond.code (mN 26) (mB 26) (mL 26) (mR 26))))))
set_option maxRecDepth 40000 in
theorem cod_27 : Cond.code (mN 27) (mB 27) (mL 27) (mR 27) ∈ lw_tbl := List.mem_append_right _ (List.mem_append_left _ (List.mem_of_getElem? (i := 26) (rfl : tables_1_1[26]? = some (Cond.code (mN 27) (mB 27) (mL 27) (mR 27)))))
set_option maxRecDepth 40000 in
theorem cod_28 : Cond.code (mN 28) (mB 28) (mL 28) (mR 28) ∈ lw_tbl := List.mem_append_right _ (List.mem_append_left _ (List.mem_of_getElem? (i := 236) (rfl : tables_1_1[236]? = some (Cond.code (mN 28) (mB 28) (mL 28) (mR 28)))))
set_option maxRecDepth 40000 in
theorem cod_29 : Cond.code (mN 29) (mB 29) (mL 29) (mR 29) ∈ lw_tbl := List.mem_append_right _ (List.mem_append_right _ (List.mem_append_left _ (List.mem_of_getElem? (i := 14) (rfl : tables_1_2[14]? = some (Cond.code (mN 29) (mB 29) (mL 29) (mR 29))))))
set_option maxRecDepth 40000 in
theorem cod_30 : Cond.code (mN 30) (mB 30) (mL 30) (mR 30) ∈ lw_tbl := List.mem_append_right _ (List.mem_append_left _ (List.mem_of_getElem? (i := 165) (rfl : tables_1_1[165]? = some (Cond.code (mN 30) (mB 30) (mL 30) (mR 30)))))
set_option maxRecDepth 40000 in
theorem cod_31 : Cond.code (mN 31) (mB 31) (mL 31) (mR 31) ∈ lw_tbl := List.mem_append_right _ (List.mem_append_right _ (List.mem_append_left _ (List.mem_of_getElem? (i := 150) (rfl : tables_1_2[150]? = some (Cond.code (mN 31) (mB 31) (mL 31) (mR 31))))))
set_option maxRecDepth 40000 in
theorem cod_32 : Cond.code (mN 32) (mB 32) (mL 32) (mR 32) ∈ lw_tbl := List.mem_append_right _ (List.mem_append_right _ (List.mem_append_right _ (List.mem_of_getElem? (i := 129) (rfl : tables_1_3[129]? = some (Cond.code (mN 32) (mB 32) (mL 32) (mR 32))))))
set_option maxRecDepth 40000 in
theorem cod_33 : Cond.code (mN 33) (mB 33) (mL 33) (mR 33) ∈ lw_tbl := List.mem_append_right _ (List.mem_append_right _ (List.mem_append_left _ (List.mem_of_getElem? (i := 180) (rfl : tables_1_2[180]? = some (Cond.code (mN 33) (mB 33) (mL 33) (mR 33))))))
set_option maxRecDepth 40000 in
theorem cod_34 : Cond.code (mN 34) (mB 34) (mL 34) (mR 34) ∈ lw_tbl := List.mem_append_right _ (List.mem_append_left _ (List.mem_of_getElem? (i := 210) (rfl : tables_1_1[210]? = some (Cond.code (mN 34) (mB 34) (mL 34) (mR 34)))))
set_option maxRecDepth 40000 in
theorem cod_35 : Cond.code (mN 35) (mB 35) (mL 35) (mR 35) ∈ lw_tbl := List.mem_append_right _ (List.mem_append_left _ (List.mem_of_getElem? (i := 210) (rfl : tables_1_1[210]? = some (Cond.code (mN 35) (mB 35) (mL 35) (mR 35)))))
set_option maxRecDepth 40000 in
theorem cod_36 : Cond.code (mN 36) (mB 36) (mL 36) (mR 36) ∈ lw_tbl := List.mem_append_right _ (List.mem_append_right _ (List.mem_append_left _ (List.mem_of_getElem? (i := 95) (rfl : tables_1_2[95]? = some (Cond.code (mN 36) (mB 36) (mL 36) (mR 36))))))
set_option maxRecDepth 40000 in
theorem cod_37 : Cond.code (mN 37) (mB 37) (mL 37) (mR 37) ∈ lw_tbl := List.mem_append_right _ (List.mem_append_left _ (List.mem_of_getElem? (i := 210) (rfl : tables_1_1[210]? = some (Cond.code (mN 37) (mB 37) (mL 37) (mR 37)))))
set_option maxRecDepth 40000 in
theorem cod_38 : Cond.code (mN 38) (mB 38) (mL 38) (mR 38) ∈ lw_tbl := List.mem_append_right _ (List.mem_append_left _ (List.mem_of_getElem? (i := 210) (rfl : tables_1_1[210]? = some (Cond.code (mN 38) (mB 38) (mL 38) (mR 38)))))
set_option maxRecDepth 40000 in
theorem cod_39 : Cond.code (mN 39) (mB 39) (mL 39) (mR 39) ∈ lw_tbl := List.mem_append_right _ (List.mem_append_left _ (List.mem_of_getElem? (i := 210) (rfl : tables_1_1[210]? = some (Cond.code (mN 39) (mB 39) (mL 39) (mR 39)))))
set_option maxRecDepth 40000 in
theorem cod_40 : Cond.code (mN 40) (mB 40) (mL 40) (mR 40) ∈ lw_tbl := List.mem_append_right _ (List.mem_append_left _ (List.mem_of_getElem? (i := 210) (rfl : tables_1_1[210]? = some (Cond.code (mN 40) (mB 40) (mL 40) (mR 40)))))
set_option maxRecDepth 40000 in
theorem cod_41 : Cond.code (mN 41) (mB 41) (mL 41) (mR 41) ∈ lw_tbl := List.mem_append_right _ (List.mem_append_left _ (List.mem_of_getElem? (i := 210) (rfl : tables_1_1[210]? = some (Cond.code (mN 41) (mB 41) (mL 41) (mR 41)))))
set_option maxRecDepth 40000 in
theorem cod_42 : Cond.code (mN 42) (mB 42) (mL 42) (mR 42) ∈ lw_tbl := List.mem_append_right _ (List.mem_append_left _ (List.mem_of_getElem? (i := 210) (rfl : tables_1_1[210]? = some (Cond.code (mN 42) (mB 42) (mL 42) (mR 42)))))
set_option maxRecDepth 40000 in
theorem cod_43 : Cond.code (mN 43) (mB 43) (mL 43) (mR 43) ∈ lw_tbl := List.mem_append_right _ (List.mem_append_left _ (List.mem_of_getElem? (i := 210) (rfl : tables_1_1[210]? = some (Cond.code (mN 43) (mB 43) (mL 43) (mR 43)))))
set_option maxRecDepth 40000 in
theorem cod_44 : Cond.code (mN 44) (mB 44) (mL 44) (mR 44) ∈ lw_tbl := List.mem_append_right _ (List.mem_append_left _ (List.mem_of_getElem? (i := 210) (rfl : tables_1_1[210]? = some (Cond.code (mN 44) (mB 44) (mL 44) (mR 44)))))
set_option maxRecDepth 40000 in
theorem cod_45 : Cond.code (mN 45) (mB 45) (mL 45) (mR 45) ∈ lw_tbl := List.mem_append_right _ (List.mem_append_left _ (List.mem_of_getElem? (i := 210) (rfl : tables_1_1[210]? = some (Cond.code (mN 45) (mB 45) (mL 45) (mR 45)))))
set_option maxRecDepth 40000 in
theorem cod_46 : Cond.code (mN 46) (mB 46) (mL 46) (mR 46) ∈ lw_tbl := List.mem_append_right _ (List.mem_append_left _ (List.mem_of_getElem? (i := 210) (rfl : tables_1_1[210]? = some (Cond.code (mN 46) (mB 46) (mL 46) (mR 46)))))
set_option maxRecDepth 40000 in
theorem cod_47 : Cond.code (mN 47) (mB 47) (mL 47) (mR 47) ∈ lw_tbl := List.mem_append_right _ (List.mem_append_left _ (List.mem_of_getElem? (i := 210) (rfl : tables_1_1[210]? = some (Cond.code (mN 47) (mB 47) (mL 47) (mR 47)))))
set_option maxRecDepth 40000 in
theorem cod_48 : Cond.code (mN 48) (mB 48) (mL 48) (mR 48) ∈ lw_tbl := List.mem_append_right _ (List.mem_append_left _ (List.mem_of_getElem? (i := 210) (rfl : tables_1_1[210]? = some (Cond.code (mN 48) (mB 48) (mL 48) (mR 48)))))
set_option maxRecDepth 40000 in
theorem cod_49 : Cond.code (mN 49) (mB 49) (mL 49) (mR 49) ∈ lw_tbl := List.mem_append_right _ (List.mem_append_left _ (List.mem_of_getElem? (i := 210) (rfl : tables_1_1[210]? = some (Cond.code (mN 49) (mB 49) (mL 49) (mR 49)))))
set_option maxRecDepth 40000 in
theorem cod_50 : Cond.code (mN 50) (mB 50) (mL 50) (mR 50) ∈ lw_tbl := List.mem_append_right _ (List.mem_append_right _ (List.mem_append_left _ (List.mem_of_getElem? (i := 192) (rfl : tables_1_2[192]? = some (Cond.code (mN 50) (mB 50) (mL 50) (mR 50))))))
set_option maxRecDepth 40000 in
theorem cod_51 : Cond.code (mN 51) (mB 51) (mL 51) (mR 51) ∈ lw_tbl := List.mem_append_right _ (List.mem_append_left _ (List.mem_of_getElem? (i := 113) (rfl : tables_1_1[113]? = some (Cond.code (mN 51) (mB 51) (mL 51) (mR 51)))))
set_option maxRecDepth 40000 in
theorem cod_52 : Cond.code (mN 52) (mB 52) (mL 52) (mR 52) ∈ lw_tbl := List.mem_append_right _ (List.mem_append_right _ (List.mem_append_right _ (List.mem_of_getElem? (i := 56) (rfl : tables_1_3[56]? = some (Cond.code (mN 52) (mB 52) (mL 52) (mR 52))))))
set_option maxRecDepth 40000 in
theorem cod_53 : Cond.code (mN 53) (mB 53) (mL 53) (mR 53) ∈ lw_tbl := List.mem_append_right _ (List.mem_append_left _ (List.mem_of_getElem? (i := 131) (rfl : tables_1_1[131]? = some (Cond.code (mN 53) (mB 53) (mL 53) (mR 53)))))
set_option maxRecDepth 40000 in
theorem cod_54 : Cond.code (mN 54) (mB 54) (mL 54) (mR 54) ∈ lw_tbl := List.mem_append_right _ (List.mem_append_right _ (List.mem_append_right _ (List.mem_of_getElem? (i := 94) (rfl : tables_1_3[94]? = some (Cond.code (mN 54) (mB 54) (mL 54) (mR 54))))))
set_option maxRecDepth 40000 in
theorem cod_55 : Cond.code (mN 55) (mB 55) (mL 55) (mR 55) ∈ lw_tbl := List.mem_append_right _ (List.mem_append_right _ (List.mem_append_right _ (List.mem_of_getElem? (i := 90) (rfl : tables_1_3[90]? = some (Cond.code (mN 55) (mB 55) (mL 55) (mR 55))))))
set_option maxRecDepth 40000 in
theorem cod_56 : Cond.code (mN 56) (mB 56) (mL 56) (mR 56) ∈ lw_tbl := List.mem_append_right _ (List.mem_append_right _ (List.mem_append_right _ (List.mem_of_getElem? (i := 76) (rfl : tables_1_3[76]? = some (Cond.code (mN 56) (mB 56) (mL 56) (mR 56))))))
set_option maxRecDepth 40000 in
theorem cod_57 : Cond.code (mN 57) (mB 57) (mL 57) (mR 57) ∈ lw_tbl := List.mem_append_right _ (List.mem_append_right _ (List.mem_append_left _ (List.mem_of_getElem? (i := 10) (rfl : tables_1_2[10]? = some (Cond.code (mN 57) (mB 57) (mL 57) (mR 57))))))
set_option maxRecDepth 40000 in
theorem cod_58 : Cond.code (mN 58) (mB 58) (mL 58) (mR 58) ∈ lw_tbl := List.mem_append_right _ (List.mem_append_right _ (List.mem_append_left _ (List.mem_of_getElem? (i := 20) (rfl : tables_1_2[20]? = some (Cond.code (mN 58) (mB 58) (mL 58) (mR 58))))))
set_option maxRecDepth 40000 in
theorem cod_59 : Cond.code (mN 59) (mB 59) (mL 59) (mR 59) ∈ lw_tbl := List.mem_append_right _ (List.mem_append_right _ (List.mem_append_left _ (List.mem_of_getElem? (i := 30) (rfl : tables_1_2[30]? = some (Cond.code (mN 59) (mB 59) (mL 59) (mR 59))))))
set_option maxRecDepth 40000 in
theorem cod_60 : Cond.code (mN 60) (mB 60) (mL 60) (mR 60) ∈ lw_tbl := List.mem_append_right _ (List.mem_append_right _ (List.mem_append_right _ (List.mem_of_getElem? (i := 12) (rfl : tables_1_3[12]? = some (Cond.code (mN 60) (mB 60) (mL 60) (mR 60))))))
set_option maxRecDepth 40000 in
theorem cod_61 : Cond.code (mN 61) (mB 61) (mL 61) (mR 61) ∈ lw_tbl := List.mem_append_right _ (List.mem_append_right _ (List.mem_append_right _ (List.mem_of_getElem? (i := 16) (rfl : tables_1_3[16]? = some (Cond.code (mN 61) (mB 61) (mL 61) (mR 61))))))
set_option maxRecDepth 40000 in
theorem cod_62 : Cond.code (mN 62) (mB 62) (mL 62) (mR 62) ∈ lw_tbl := List.mem_append_right _ (List.mem_append_right _ (List.mem_append_right _ (List.mem_of_getElem? (i := 8) (rfl : tables_1_3[8]? = some (Cond.code (mN 62) (mB 62) (mL 62) (mR 62))))))
set_option maxRecDepth 40000 in
theorem cod_63 : Cond.code (mN 63) (mB 63) (mL 63) (mR 63) ∈ lw_tbl := List.mem_append_right _ (List.mem_append_right _ (List.mem_append_right _ (List.mem_of_getElem? (i := 38) (rfl : tables_1_3[38]? = some (Cond.code (mN 63) (mB 63) (mL 63) (mR 63))))))
set_option maxRecDepth 40000 in
theorem cod_64 : Cond.code (mN 64) (mB 64) (mL 64) (mR 64) ∈ lw_tbl := List.mem_append_right _ (List.mem_append_left _ (List.mem_of_getElem? (i := 181) (rfl : tables_1_1[181]? = some (Cond.code (mN 64) (mB 64) (mL 64) (mR 64)))))
set_option maxRecDepth 40000 in
theorem cod_65 : Cond.code (mN 65) (mB 65) (mL 65) (mR 65) ∈ lw_tbl := List.mem_append_right _ (List.mem_append_right _ (List.mem_append_left _ (List.mem_of_getElem? (i := 220) (rfl : tables_1_2[220]? = some (Cond.code (mN 65) (mB 65) (mL 65) (mR 65))))))
set_option maxRecDepth 40000 in
theorem cod_66 : Cond.code (mN 66) (mB 66) (mL 66) (mR 66) ∈ lw_tbl := List.mem_append_right _ (List.mem_append_left _ (List.mem_of_getElem? (i := 232) (rfl : tables_1_1[232]? = some (Cond.code (mN 66) (mB 66) (mL 66) (mR 66)))))
set_option maxRecDepth 40000 in
theorem cod_67 : Cond.code (mN 67) (mB 67) (mL 67) (mR 67) ∈ lw_tbl := List.mem_append_right _ (List.mem_append_right _ (List.mem_append_right _ (List.mem_of_getElem? (i := 1) (rfl : tables_1_3[1]? = some (Cond.code (mN 67) (mB 67) (mL 67) (mR 67))))))
set_option maxRecDepth 40000 in
theorem cod_68 : Cond.code (mN 68) (mB 68) (mL 68) (mR 68) ∈ lw_tbl := List.mem_append_right _ (List.mem_append_left _ (List.mem_of_getElem? (i := 173) (rfl : tables_1_1[173]? = some (Cond.code (mN 68) (mB 68) (mL 68) (mR 68)))))
set_option maxRecDepth 40000 in
theorem cod_69 : Cond.code (mN 69) (mB 69) (mL 69) (mR 69) ∈ lw_tbl := List.mem_append_right _ (List.mem_append_right _ (List.mem_append_right _ (List.mem_of_getElem? (i := 30) (rfl : tables_1_3[30]? = some (Cond.code (mN 69) (mB 69) (mL 69) (mR 69))))))
set_option maxRecDepth 40000 in
theorem cod_70 : Cond.code (mN 70) (mB 70) (mL 70) (mR 70) ∈ lw_tbl := List.mem_append_right _ (List.mem_append_left _ (List.mem_of_getElem? (i := 161) (rfl : tables_1_1[161]? = some (Cond.code (mN 70) (mB 70) (mL 70) (mR 70)))))
set_option maxRecDepth 40000 in
theorem cod_71 : Cond.code (mN 71) (mB 71) (mL 71) (mR 71) ∈ lw_tbl := List.mem_append_right _ (List.mem_append_left _ (List.mem_of_getElem? (i := 219) (rfl : tables_1_1[219]? = some (Cond.code (mN 71) (mB 71) (mL 71) (mR 71)))))
set_option maxRecDepth 40000 in
theorem cod_72 : Cond.code (mN 72) (mB 72) (mL 72) (mR 72) ∈ lw_tbl := List.mem_append_right _ (List.mem_append_right _ (List.mem_append_left _ (List.mem_of_getElem? (i := 213) (rfl : tables_1_2[213]? = some (Cond.code (mN 72) (mB 72) (mL 72) (mR 72))))))
set_option maxRecDepth 40000 in
theorem cod_73 : Cond.code (mN 73) (mB 73) (mL 73) (mR 73) ∈ lw_tbl := List.mem_append_right _ (List.mem_append_right _ (List.mem_append_right _ (List.mem_of_getElem? (i := 33) (rfl : tables_1_3[33]? = some (Cond.code (mN 73) (mB 73) (mL 73) (mR 73))))))
set_option maxRecDepth 40000 in
theorem cod_74 : Cond.code (mN 74) (mB 74) (mL 74) (mR 74) ∈ lw_tbl := List.mem_append_right _ (List.mem_append_right _ (List.mem_append_right _ (List.mem_of_getElem? (i := 153) (rfl : tables_1_3[153]? = some (Cond.code (mN 74) (mB 74) (mL 74) (mR 74))))))
set_option maxRecDepth 40000 in
theorem cod_75 : Cond.code (mN 75) (mB 75) (mL 75) (mR 75) ∈ lw_tbl := List.mem_append_right _ (List.mem_append_left _ (List.mem_of_getElem? (i := 51) (rfl : tables_1_1[51]? = some (Cond.code (mN 75) (mB 75) (mL 75) (mR 75)))))
set_option maxRecDepth 40000 in
theorem cod_76 : Cond.code (mN 76) (mB 76) (mL 76) (mR 76) ∈ lw_tbl := List.mem_append_right _ (List.mem_append_right _ (List.mem_append_left _ (List.mem_of_getElem? (i := 115) (rfl : tables_1_2[115]? = some (Cond.code (mN 76) (mB 76) (mL 76) (mR 76))))))
set_option maxRecDepth 40000 in
theorem cod_77 : Cond.code (mN 77) (mB 77) (mL 77) (mR 77) ∈ lw_tbl := List.mem_append_right _ (List.mem_append_left _ (List.mem_of_getElem? (i := 210) (rfl : tables_1_1[210]? = some (Cond.code (mN 77) (mB 77) (mL 77) (mR 77)))))
set_option maxRecDepth 40000 in
theorem cod_78 : Cond.code (mN 78) (mB 78) (mL 78) (mR 78) ∈ lw_tbl := List.mem_append_right _ (List.mem_append_left _ (List.mem_of_getElem? (i := 210) (rfl : tables_1_1[210]? = some (Cond.code (mN 78) (mB 78) (mL 78) (mR 78)))))
set_option maxRecDepth 40000 in
theorem cod_79 : Cond.code (mN 79) (mB 79) (mL 79) (mR 79) ∈ lw_tbl := List.mem_append_right _ (List.mem_append_left _ (List.mem_of_getElem? (i := 210) (rfl : tables_1_1[210]? = some (Cond.code (mN 79) (mB 79) (mL 79) (mR 79)))))
set_option maxRecDepth 40000 in
theorem cod_80 : Cond.code (mN 80) (mB 80) (mL 80) (mR 80) ∈ lw_tbl := List.mem_append_right _ (List.mem_append_left _ (List.mem_of_getElem? (i := 210) (rfl : tables_1_1[210]? = some (Cond.code (mN 80) (mB 80) (mL 80) (mR 80)))))
set_option maxRecDepth 40000 in
theorem cod_81 : Cond.code (mN 81) (mB 81) (mL 81) (mR 81) ∈ lw_tbl := List.mem_append_right _ (List.mem_append_left _ (List.mem_of_getElem? (i := 210) (rfl : tables_1_1[210]? = some (Cond.code (mN 81) (mB 81) (mL 81) (mR 81)))))
set_option maxRecDepth 40000 in
theorem cod_82 : Cond.code (mN 82) (mB 82) (mL 82) (mR 82) ∈ lw_tbl := List.mem_append_right _ (List.mem_append_left _ (List.mem_of_getElem? (i := 210) (rfl : tables_1_1[210]? = some (Cond.code (mN 82) (mB 82) (mL 82) (mR 82)))))
set_option maxRecDepth 40000 in
theorem cod_83 : Cond.code (mN 83) (mB 83) (mL 83) (mR 83) ∈ lw_tbl := List.mem_append_right _ (List.mem_append_left _ (List.mem_of_getElem? (i := 210) (rfl : tables_1_1[210]? = some (Cond.code (mN 83) (mB 83) (mL 83) (mR 83)))))
set_option maxRecDepth 40000 in
theorem cod_84 : Cond.code (mN 84) (mB 84) (mL 84) (mR 84) ∈ lw_tbl := List.mem_append_right _ (List.mem_append_left _ (List.mem_of_getElem? (i := 210) (rfl : tables_1_1[210]? = some (Cond.code (mN 84) (mB 84) (mL 84) (mR 84)))))
set_option maxRecDepth 40000 in
theorem cod_85 : Cond.code (mN 85) (mB 85) (mL 85) (mR 85) ∈ lw_tbl := List.mem_append_right _ (List.mem_append_left _ (List.mem_of_getElem? (i := 210) (rfl : tables_1_1[210]? = some (Cond.code (mN 85) (mB 85) (mL 85) (mR 85)))))
set_option maxRecDepth 40000 in
theorem cod_86 : Cond.code (mN 86) (mB 86) (mL 86) (mR 86) ∈ lw_tbl := List.mem_append_right _ (List.mem_append_left _ (List.mem_of_getElem? (i := 210) (rfl : tables_1_1[210]? = some (Cond.code (mN 86) (mB 86) (mL 86) (mR 86)))))
set_option maxRecDepth 40000 in
theorem cod_87 : Cond.code (mN 87) (mB 87) (mL 87) (mR 87) ∈ lw_tbl := List.mem_append_right _ (List.mem_append_left _ (List.mem_of_getElem? (i := 210) (rfl : tables_1_1[210]? = some (Cond.code (mN 87) (mB 87) (mL 87) (mR 87)))))
set_option maxRecDepth 40000 in
theorem cod_88 : Cond.code (mN 88) (mB 88) (mL 88) (mR 88) ∈ lw_tbl := List.mem_append_right _ (List.mem_append_left _ (List.mem_of_getElem? (i := 210) (rfl : tables_1_1[210]? = some (Cond.code (mN 88) (mB 88) (mL 88) (mR 88)))))
set_option maxRecDepth 40000 in
theorem cod_89 : Cond.code (mN 89) (mB 89) (mL 89) (mR 89) ∈ lw_tbl := List.mem_append_right _ (List.mem_append_left _ (List.mem_of_getElem? (i := 210) (rfl : tables_1_1[210]? = some (Cond.code (mN 89) (mB 89) (mL 89) (mR 89)))))
set_option maxRecDepth 40000 in
theorem cod_90 : Cond.code (mN 90) (mB 90) (mL 90) (mR 90) ∈ lw_tbl := List.mem_append_right _ (List.mem_append_left _ (List.mem_of_getElem? (i := 210) (rfl : tables_1_1[210]? = some (Cond.code (mN 90) (mB 90) (mL 90) (mR 90)))))
set_option maxRecDepth 40000 in
theorem cod_91 : Cond.code (mN 91) (mB 91) (mL 91) (mR 91) ∈ lw_tbl := List.mem_append_right _ (List.mem_append_left _ (List.mem_of_getElem? (i := 210) (rfl : tables_1_1[210]? = some (Cond.code (mN 91) (mB 91) (mL 91) (mR 91)))))
set_option maxRecDepth 40000 in
theorem cod_92 : Cond.code (mN 92) (mB 92) (mL 92) (mR 92) ∈ lw_tbl := List.mem_append_right _ (List.mem_append_left _ (List.mem_of_getElem? (i := 210) (rfl : tables_1_1[210]? = some (Cond.code (mN 92) (mB 92) (mL 92) (mR 92)))))
set_option maxRecDepth 40000 in
theorem cod_93 : Cond.code (mN 93) (mB 93) (mL 93) (mR 93) ∈ lw_tbl := List.mem_append_right _ (List.mem_append_left _ (List.mem_of_getElem? (i := 210) (rfl : tables_1_1[210]? = some (Cond.code (mN 93) (mB 93) (mL 93) (mR 93)))))
set_option maxRecDepth 40000 in
theorem cod_94 : Cond.code (mN 94) (mB 94) (mL 94) (mR 94) ∈ lw_tbl := List.mem_append_right _ (List.mem_append_left _ (List.mem_of_getElem? (i := 210) (rfl : tables_1_1[210]? = some (Cond.code (mN 94) (mB 94) (mL 94) (mR 94)))))
set_option maxRecDepth 40000 in
theorem cod_95 : Cond.code (mN 95) (mB 95) (mL 95) (mR 95) ∈ lw_tbl := List.mem_append_right _ (List.mem_append_left _ (List.mem_of_getElem? (i := 210) (rfl : tables_1_1[210]? = some (Cond.code (mN 95) (mB 95) (mL 95) (mR 95)))))
set_option maxRecDepth 40000 in
theorem cod_96 : Cond.code (mN 96) (mB 96) (mL 96) (mR 96) ∈ lw_tbl := List.mem_append_right _ (List.mem_append_right _ (List.mem_append_right _ (List.mem_of_getElem? (i := 86) (rfl : tables_1_3[86]? = some (Cond.code (mN 96) (mB 96) (mL 96) (mR 96))))))
set_option maxRecDepth 40000 in
theorem cod_97 : Cond.code (mN 97) (mB 97) (mL 97) (mR 97) ∈ lw_tbl := List.mem_append_right _ (List.mem_append_right _ (List.mem_append_left _ (List.mem_of_getElem? (i := 17) (rfl : tables_1_2[17]? = some (Cond.code (mN 97) (mB 97) (mL 97) (mR 97))))))
set_option maxRecDepth 40000 in
theorem cod_98 : Cond.code (mN 98) (mB 98) (mL 98) (mR 98) ∈ lw_tbl := List.mem_append_right _ (List.mem_append_right _ (List.mem_append_left _ (List.mem_of_getElem? (i := 7) (rfl : tables_1_2[7]? = some (Cond.code (mN 98) (mB 98) (mL 98) (mR 98))))))
set_option maxRecDepth 40000 in
theorem cod_99 : Cond.code (mN 99) (mB 99) (mL 99) (mR 99) ∈ lw_tbl := List.mem_append_right _ (List.mem_append_right _ (List.mem_append_left _ (List.mem_of_getElem? (i := 38) (rfl : tables_1_2[38]? = some (Cond.code (mN 99) (mB 99) (mL 99) (mR 99))))))
set_option maxRecDepth 40000 in
theorem cod_100 : Cond.code (mN 100) (mB 100) (mL 100) (mR 100) ∈ lw_tbl := List.mem_append_right _ (List.mem_append_right _ (List.mem_append_left _ (List.mem_of_getElem? (i := 49) (rfl : tables_1_2[49]? = some (Cond.code (mN 100) (mB 100) (mL 100) (mR 100))))))
set_option maxRecDepth 40000 in
theorem cod_101 : Cond.code (mN 101) (mB 101) (mL 101) (mR 101) ∈ lw_tbl := List.mem_append_right _ (List.mem_append_right _ (List.mem_append_left _ (List.mem_of_getElem? (i := 27) (rfl : tables_1_2[27]? = some (Cond.code (mN 101) (mB 101) (mL 101) (mR 101))))))
set_option maxRecDepth 40000 in
theorem cod_102 : Cond.code (mN 102) (mB 102) (mL 102) (mR 102) ∈ lw_tbl := List.mem_append_right _ (List.mem_append_right _ (List.mem_append_left _ (List.mem_of_getElem? (i := 52) (rfl : tables_1_2[52]? = some (Cond.code (mN 102) (mB 102) (mL 102) (mR 102))))))
set_option maxRecDepth 40000 in
theorem cod_103 : Cond.code (mN 103) (mB 103) (mL 103) (mR 103) ∈ lw_tbl := List.mem_append_right _ (List.mem_append_right _ (List.mem_append_right _ (List.mem_of_getElem? (i := 45) (rfl : tables_1_3[45]? = some (Cond.code (mN 103) (mB 103) (mL 103) (mR 103))))))
set_option maxRecDepth 40000 in
theorem cod_104 : Cond.code (mN 104) (mB 104) (mL 104) (mR 104) ∈ lw_tbl := List.mem_append_right _ (List.mem_append_right _ (List.mem_append_right _ (List.mem_of_getElem? (i := 5) (rfl : tables_1_3[5]? = some (Cond.code (mN 104) (mB 104) (mL 104) (mR 104))))))
set_option maxRecDepth 40000 in
theorem cod_105 : Cond.code (mN 105) (mB 105) (mL 105) (mR 105) ∈ lw_tbl := List.mem_append_right _ (List.mem_append_right _ (List.mem_append_right _ (List.mem_of_getElem? (i := 22) (rfl : tables_1_3[22]? = some (Cond.code (mN 105) (mB 105) (mL 105) (mR 105))))))
set_option maxRecDepth 40000 in
theorem cod_106 : Cond.code (mN 106) (mB 106) (mL 106) (mR 106) ∈ lw_tbl := List.mem_append_right _ (List.mem_append_right _ (List.mem_append_left _ (List.mem_of_getElem? (i := 236) (rfl : tables_1_2[236]? = some (Cond.code (mN 106) (mB 106) (mL 106) (mR 106))))))
set_option maxRecDepth 40000 in
theorem cod_107 : Cond.code (mN 107) (mB 107) (mL 107) (mR 107) ∈ lw_tbl := List.mem_append_right _ (List.mem_append_left _ (List.mem_of_getElem? (i := 223) (rfl : tables_1_1[223]? = some (Cond.code (mN 107) (mB 107) (mL 107) (mR 107)))))
set_option maxRecDepth 40000 in
theorem cod_108 : Cond.code (mN 108) (mB 108) (mL 108) (mR 108) ∈ lw_tbl := List.mem_append_right _ (List.mem_append_left _ (List.mem_of_getElem? (i := 215) (rfl : tables_1_1[215]? = some (Cond.code (mN 108) (mB 108) (mL 108) (mR 108)))))
set_option maxRecDepth 40000 in
theorem cod_109 : Cond.code (mN 109) (mB 109) (mL 109) (mR 109) ∈ lw_tbl := List.mem_append_right _ (List.mem_append_left _ (List.mem_of_getElem? (i := 169) (rfl : tables_1_1[169]? = some (Cond.code (mN 109) (mB 109) (mL 109) (mR 109)))))
set_option maxRecDepth 40000 in
theorem cod_110 : Cond.code (mN 110) (mB 110) (mL 110) (mR 110) ∈ lw_tbl := List.mem_append_right _ (List.mem_append_left _ (List.mem_of_getElem? (i := 228) (rfl : tables_1_1[228]? = some (Cond.code (mN 110) (mB 110) (mL 110) (mR 110)))))
set_option maxRecDepth 40000 in
theorem cod_111 : Cond.code (mN 111) (mB 111) (mL 111) (mR 111) ∈ lw_tbl := List.mem_append_right _ (List.mem_append_right _ (List.mem_append_left _ (List.mem_of_getElem? (i := 210) (rfl : tables_1_2[210]? = some (Cond.code (mN 111) (mB 111) (mL 111) (mR 111))))))
set_option maxRecDepth 40000 in
theorem cod_112 : Cond.code (mN 112) (mB 112) (mL 112) (mR 112) ∈ lw_tbl := List.mem_append_right _ (List.mem_append_right _ (List.mem_append_left _ (List.mem_of_getElem? (i := 165) (rfl : tables_1_2[165]? = some (Cond.code (mN 112) (mB 112) (mL 112) (mR 112))))))
set_option maxRecDepth 40000 in
theorem cod_113 : Cond.code (mN 113) (mB 113) (mL 113) (mR 113) ∈ lw_tbl := List.mem_append_right _ (List.mem_append_right _ (List.mem_append_right _ (List.mem_of_getElem? (i := 25) (rfl : tables_1_3[25]? = some (Cond.code (mN 113) (mB 113) (mL 113) (mR 113))))))
set_option maxRecDepth 40000 in
theorem cod_114 : Cond.code (mN 114) (mB 114) (mL 114) (mR 114) ∈ lw_tbl := List.mem_append_right _ (List.mem_append_right _ (List.mem_append_right _ (List.mem_of_getElem? (i := 48) (rfl : tables_1_3[48]? = some (Cond.code (mN 114) (mB 114) (mL 114) (mR 114))))))
set_option maxRecDepth 40000 in
theorem cod_115 : Cond.code (mN 115) (mB 115) (mL 115) (mR 115) ∈ lw_tbl := List.mem_append_right _ (List.mem_append_right _ (List.mem_append_left _ (List.mem_of_getElem? (i := 223) (rfl : tables_1_2[223]? = some (Cond.code (mN 115) (mB 115) (mL 115) (mR 115))))))
set_option maxRecDepth 40000 in
theorem cod_116 : Cond.code (mN 116) (mB 116) (mL 116) (mR 116) ∈ lw_tbl := List.mem_append_right _ (List.mem_append_right _ (List.mem_append_left _ (List.mem_of_getElem? (i := 227) (rfl : tables_1_2[227]? = some (Cond.code (mN 116) (mB 116) (mL 116) (mR 116))))))
set_option maxRecDepth 40000 in
theorem cod_117 : Cond.code (mN 117) (mB 117) (mL 117) (mR 117) ∈ lw_tbl := List.mem_append_right _ (List.mem_append_right _ (List.mem_append_right _ (List.mem_of_getElem? (i := 68) (rfl : tables_1_3[68]? = some (Cond.code (mN 117) (mB 117) (mL 117) (mR 117))))))
set_option maxRecDepth 40000 in
theorem cod_118 : Cond.code (mN 118) (mB 118) (mL 118) (mR 118) ∈ lw_tbl := List.mem_append_right _ (List.mem_append_right _ (List.mem_append_left _ (List.mem_of_getElem? (i := 188) (rfl : tables_1_2[188]? = some (Cond.code (mN 118) (mB 118) (mL 118) (mR 118))))))
set_option maxRecDepth 40000 in
theorem cod_119 : Cond.code (mN 119) (mB 119) (mL 119) (mR 119) ∈ lw_tbl := List.mem_append_right _ (List.mem_append_right _ (List.mem_append_right _ (List.mem_of_getElem? (i := 52) (rfl : tables_1_3[52]? = some (Cond.code (mN 119) (mB 119) (mL 119) (mR 119))))))
set_option maxRecDepth 40000 in
theorem cod_120 : Cond.code (mN 120) (mB 120) (mL 120) (mR 120) ∈ lw_tbl := List.mem_append_right _ (List.mem_append_left _ (List.mem_of_getElem? (i := 210) (rfl : tables_1_1[210]? = some (Cond.code (mN 120) (mB 120) (mL 120) (mR 120)))))
set_option maxRecDepth 40000 in
theorem cod_121 : Cond.code (mN 121) (mB 121) (mL 121) (mR 121) ∈ lw_tbl := List.mem_append_right _ (List.mem_append_left _ (List.mem_of_getElem? (i := 210) (rfl : tables_1_1[210]? = some (Cond.code (mN 121) (mB 121) (mL 121) (mR 121)))))
set_option maxRecDepth 40000 in
theorem cod_122 : Cond.code (mN 122) (mB 122) (mL 122) (mR 122) ∈ lw_tbl := List.mem_append_right _ (List.mem_append_left _ (List.mem_of_getElem? (i := 210) (rfl : tables_1_1[210]? = some (Cond.code (mN 122) (mB 122) (mL 122) (mR 122)))))
set_option maxRecDepth 40000 in
theorem cod_123 : Cond.code (mN 123) (mB 123) (mL 123) (mR 123) ∈ lw_tbl := List.mem_append_right _ (List.mem_append_left _ (List.mem_of_getElem? (i := 210) (rfl : tables_1_1[210]? = some (Cond.code (mN 123) (mB 123) (mL 123) (mR 123)))))
set_option maxRecDepth 40000 in
theorem cod_124 : Cond.code (mN 124) (mB 124) (mL 124) (mR 124) ∈ lw_tbl := List.mem_append_right _ (List.mem_append_left _ (List.mem_of_getElem? (i := 210) (rfl : tables_1_1[210]? = some (Cond.code (mN 124) (mB 124) (mL 124) (mR 124)))))
set_option maxRecDepth 40000 in
theorem cod_125 : Cond.code (mN 125) (mB 125) (mL 125) (mR 125) ∈ lw_tbl := List.mem_append_right _ (List.mem_append_left _ (List.mem_of_getElem? (i := 210) (rfl : tables_1_1[210]? = some (Cond.code (mN 125) (mB 125) (mL 125) (mR 125)))))
set_option maxRecDepth 40000 in
theorem cod_126 : Cond.code (mN 126) (mB 126) (mL 126) (mR 126) ∈ lw_tbl := List.mem_append_right _ (List.mem_append_left _ (List.mem_of_getElem? (i := 210) (rfl : tables_1_1[210]? = some (Cond.code (mN 126) (mB 126) (mL 126) (mR 126)))))
set_option maxRecDepth 40000 in
theorem cod_127 : Cond.code (mN 127) (mB 127) (mL 127) (mR 127) ∈ lw_tbl := List.mem_append_right _ (List.mem_append_left _ (List.mem_of_getElem? (i := 210) (rfl : tables_1_1[210]? = some (Cond.code (mN 127) (mB 127) (mL 127) (mR 127)))))
set_option maxRecDepth 40000 in
theorem cod_128 : Cond.code (mN 128) (mB 128) (mL 128) (mR 128) ∈ lw_tbl := List.mem_append_right _ (List.mem_append_left _ (List.mem_of_getElem? (i := 210) (rfl : tables_1_1[210]? = some (Cond.code (mN 128) (mB 128) (mL 128) (mR 128)))))
set_option maxRecDepth 40000 in
theorem cod_129 : Cond.code (mN 129) (mB 129) (mL 129) (mR 129) ∈ lw_tbl := List.mem_append_right _ (List.mem_append_right _ (List.mem_append_left _ (List.mem_of_getElem? (i := 0) (rfl : tables_1_2[0]? = some (Cond.code (mN 129) (mB 129) (mL 129) (mR 129))))))
set_option maxRecDepth 40000 in
theorem cod_130 : Cond.code (mN 130) (mB 130) (mL 130) (mR 130) ∈ lw_tbl := List.mem_append_right _ (List.mem_append_right _ (List.mem_append_left _ (List.mem_of_getElem? (i := 66) (rfl : tables_1_2[66]? = some (Cond.code (mN 130) (mB 130) (mL 130) (mR 130))))))
set_option maxRecDepth 40000 in
theorem cod_131 : Cond.code (mN 131) (mB 131) (mL 131) (mR 131) ∈ lw_tbl := List.mem_append_right _ (List.mem_append_right _ (List.mem_append_left _ (List.mem_of_getElem? (i := 46) (rfl : tables_1_2[46]? = some (Cond.code (mN 131) (mB 131) (mL 131) (mR 131))))))
set_option maxRecDepth 40000 in
theorem cod_132 : Cond.code (mN 132) (mB 132) (mL 132) (mR 132) ∈ lw_tbl := List.mem_append_right _ (List.mem_append_right _ (List.mem_append_left _ (List.mem_of_getElem? (i := 231) (rfl : tables_1_2[231]? = some (Cond.code (mN 132) (mB 132) (mL 132) (mR 132))))))
set_option maxRecDepth 40000 in
theorem cod_133 : Cond.code (mN 133) (mB 133) (mL 133) (mR 133) ∈ lw_tbl := List.mem_append_right _ (List.mem_append_right _ (List.mem_append_left _ (List.mem_of_getElem? (i := 81) (rfl : tables_1_2[81]? = some (Cond.code (mN 133) (mB 133) (mL 133) (mR 133))))))
set_option maxRecDepth 40000 in
theorem cod_134 : Cond.code (mN 134) (mB 134) (mL 134) (mR 134) ∈ lw_tbl := List.mem_append_right _ (List.mem_append_right _ (List.mem_append_left _ (List.mem_of_getElem? (i := 205) (rfl : tables_1_2[205]? = some (Cond.code (mN 134) (mB 134) (mL 134) (mR 134))))))
set_option maxRecDepth 40000 in
theorem cod_135 : Cond.code (mN 135) (mB 135) (mL 135) (mR 135) ∈ lw_tbl := List.mem_append_right _ (List.mem_append_right _ (List.mem_append_left _ (List.mem_of_getElem? (i := 216) (rfl : tables_1_2[216]? = some (Cond.code (mN 135) (mB 135) (mL 135) (mR 135))))))
set_option maxRecDepth 40000 in
theorem cod_136 : Cond.code (mN 136) (mB 136) (mL 136) (mR 136) ∈ lw_tbl := List.mem_append_right _ (List.mem_append_right _ (List.mem_append_left _ (List.mem_of_getElem? (i := 142) (rfl : tables_1_2[142]? = some (Cond.code (mN 136) (mB 136) (mL 136) (mR 136))))))
set_option maxRecDepth 40000 in
theorem cod_137 : Cond.code (mN 137) (mB 137) (mL 137) (mR 137) ∈ lw_tbl := List.mem_append_right _ (List.mem_append_right _ (List.mem_append_left _ (List.mem_of_getElem? (i := 105) (rfl : tables_1_2[105]? = some (Cond.code (mN 137) (mB 137) (mL 137) (mR 137))))))
set_option maxRecDepth 40000 in
theorem cod_138 : Cond.code (mN 138) (mB 138) (mL 138) (mR 138) ∈ lw_tbl := List.mem_append_right _ (List.mem_append_right _ (List.mem_append_right _ (List.mem_of_getElem? (i := 82) (rfl : tables_1_3[82]? = some (Cond.code (mN 138) (mB 138) (mL 138) (mR 138))))))
set_option maxRecDepth 40000 in
theorem cod_139 : Cond.code (mN 139) (mB 139) (mL 139) (mR 139) ∈ lw_tbl := List.mem_append_right _ (List.mem_append_left _ (List.mem_of_getElem? (i := 18) (rfl : tables_1_1[18]? = some (Cond.code (mN 139) (mB 139) (mL 139) (mR 139)))))
set_option maxRecDepth 40000 in
theorem cod_140 : Cond.code (mN 140) (mB 140) (mL 140) (mR 140) ∈ lw_tbl := List.mem_append_right _ (List.mem_append_right _ (List.mem_append_left _ (List.mem_of_getElem? (i := 161) (rfl : tables_1_2[161]? = some (Cond.code (mN 140) (mB 140) (mL 140) (mR 140))))))
set_option maxRecDepth 40000 in
theorem cod_141 : Cond.code (mN 141) (mB 141) (mL 141) (mR 141) ∈ lw_tbl := List.mem_append_right _ (List.mem_append_left _ (List.mem_of_getElem? (i := 210) (rfl : tables_1_1[210]? = some (Cond.code (mN 141) (mB 141) (mL 141) (mR 141)))))
set_option maxRecDepth 40000 in
theorem cod_142 : Cond.code (mN 142) (mB 142) (mL 142) (mR 142) ∈ lw_tbl := List.mem_append_right _ (List.mem_append_left _ (List.mem_of_getElem? (i := 210) (rfl : tables_1_1[210]? = some (Cond.code (mN 142) (mB 142) (mL 142) (mR 142)))))
set_option maxRecDepth 40000 in
theorem cod_143 : Cond.code (mN 143) (mB 143) (mL 143) (mR 143) ∈ lw_tbl := List.mem_append_right _ (List.mem_append_left _ (List.mem_of_getElem? (i := 210) (rfl : tables_1_1[210]? = some (Cond.code (mN 143) (mB 143) (mL 143) (mR 143)))))
set_option maxRecDepth 40000 in
theorem cod_144 : Cond.code (mN 144) (mB 144) (mL 144) (mR 144) ∈ lw_tbl := List.mem_append_right _ (List.mem_append_left _ (List.mem_of_getElem? (i := 210) (rfl : tables_1_1[210]? = some (Cond.code (mN 144) (mB 144) (mL 144) (mR 144)))))
set_option maxRecDepth 40000 in
theorem cod_145 : Cond.code (mN 145) (mB 145) (mL 145) (mR 145) ∈ lw_tbl := List.mem_append_right _ (List.mem_append_left _ (List.mem_of_getElem? (i := 210) (rfl : tables_1_1[210]? = some (Cond.code (mN 145) (mB 145) (mL 145) (mR 145)))))
set_option maxRecDepth 40000 in
theorem cod_146 : Cond.code (mN 146) (mB 146) (mL 146) (mR 146) ∈ lw_tbl := List.mem_append_right _ (List.mem_append_left _ (List.mem_of_getElem? (i := 210) (rfl : tables_1_1[210]? = some (Cond.code (mN 146) (mB 146) (mL 146) (mR 146)))))
set_option maxRecDepth 40000 in
theorem cod_147 : Cond.code (mN 147) (mB 147) (mL 147) (mR 147) ∈ lw_tbl := List.mem_append_right _ (List.mem_append_right _ (List.mem_append_left _ (List.mem_of_getElem? (i := 63) (rfl : tables_1_2[63]? = some (Cond.code (mN 147) (mB 147) (mL 147) (mR 147))))))
set_option maxRecDepth 40000 in
theorem cod_148 : Cond.code (mN 148) (mB 148) (mL 148) (mR 148) ∈ lw_tbl := List.mem_append_right _ (List.mem_append_right _ (List.mem_append_left _ (List.mem_of_getElem? (i := 77) (rfl : tables_1_2[77]? = some (Cond.code (mN 148) (mB 148) (mL 148) (mR 148))))))
set_option maxRecDepth 40000 in
theorem cod_149 : Cond.code (mN 149) (mB 149) (mL 149) (mR 149) ∈ lw_tbl := List.mem_append_right _ (List.mem_append_right _ (List.mem_append_left _ (List.mem_of_getElem? (i := 43) (rfl : tables_1_2[43]? = some (Cond.code (mN 149) (mB 149) (mL 149) (mR 149))))))
set_option maxRecDepth 40000 in
theorem cod_150 : Cond.code (mN 150) (mB 150) (mL 150) (mR 150) ∈ lw_tbl := List.mem_append_right _ (List.mem_append_right _ (List.mem_append_left _ (List.mem_of_getElem? (i := 202) (rfl : tables_1_2[202]? = some (Cond.code (mN 150) (mB 150) (mL 150) (mR 150))))))
set_option maxRecDepth 40000 in
theorem cod_151 : Cond.code (mN 151) (mB 151) (mL 151) (mR 151) ∈ lw_tbl := List.mem_append_right _ (List.mem_append_right _ (List.mem_append_right _ (List.mem_of_getElem? (i := 42) (rfl : tables_1_3[42]? = some (Cond.code (mN 151) (mB 151) (mL 151) (mR 151))))))
set_option maxRecDepth 40000 in
theorem cod_152 : Cond.code (mN 152) (mB 152) (mL 152) (mR 152) ∈ lw_tbl := List.mem_append_right _ (List.mem_append_right _ (List.mem_append_right _ (List.mem_of_getElem? (i := 136) (rfl : tables_1_3[136]? = some (Cond.code (mN 152) (mB 152) (mL 152) (mR 152))))))
set_option maxRecDepth 40000 in
theorem cod_153 : Cond.code (mN 153) (mB 153) (mL 153) (mR 153) ∈ lw_tbl := List.mem_append_right _ (List.mem_append_right _ (List.mem_append_left _ (List.mem_of_getElem? (i := 134) (rfl : tables_1_2[134]? = some (Cond.code (mN 153) (mB 153) (mL 153) (mR 153))))))
set_option maxRecDepth 40000 in
theorem cod_154 : Cond.code (mN 154) (mB 154) (mL 154) (mR 154) ∈ lw_tbl := List.mem_append_right _ (List.mem_append_right _ (List.mem_append_right _ (List.mem_of_getElem? (i := 64) (rfl : tables_1_3[64]? = some (Cond.code (mN 154) (mB 154) (mL 154) (mR 154))))))
set_option maxRecDepth 40000 in
theorem cod_155 : Cond.code (mN 155) (mB 155) (mL 155) (mR 155) ∈ lw_tbl := List.mem_append_right _ (List.mem_append_right _ (List.mem_append_left _ (List.mem_of_getElem? (i := 157) (rfl : tables_1_2[157]? = some (Cond.code (mN 155) (mB 155) (mL 155) (mR 155))))))
set_option maxRecDepth 40000 in
theorem cod_156 : Cond.code (mN 156) (mB 156) (mL 156) (mR 156) ∈ lw_tbl := List.mem_append_right _ (List.mem_append_left _ (List.mem_of_getElem? (i := 210) (rfl : tables_1_1[210]? = some (Cond.code (mN 156) (mB 156) (mL 156) (mR 156)))))
set_option maxRecDepth 40000 in
theorem cod_157 : Cond.code (mN 157) (mB 157) (mL 157) (mR 157) ∈ lw_tbl := List.mem_append_right _ (List.mem_append_left _ (List.mem_of_getElem? (i := 210) (rfl : tables_1_1[210]? = some (Cond.code (mN 157) (mB 157) (mL 157) (mR 157)))))
set_option maxRecDepth 40000 in
theorem cod_158 : Cond.code (mN 158) (mB 158) (mL 158) (mR 158) ∈ lw_tbl := List.mem_append_right _ (List.mem_append_left _ (List.mem_of_getElem? (i := 210) (rfl : tables_1_1[210]? = some (Cond.code (mN 158) (mB 158) (mL 158) (mR 158)))))
set_option maxRecDepth 40000 in
theorem cod_159 : Cond.code (mN 159) (mB 159) (mL 159) (mR 159) ∈ lw_tbl := List.mem_append_right _ (List.mem_append_left _ (List.mem_of_getElem? (i := 210) (rfl : tables_1_1[210]? = some (Cond.code (mN 159) (mB 159) (mL 159) (mR 159)))))
set_option maxRecDepth 40000 in
theorem cod_160 : Cond.code (mN 160) (mB 160) (mL 160) (mR 160) ∈ lw_tbl := List.mem_append_right _ (List.mem_append_left _ (List.mem_of_getElem? (i := 210) (rfl : tables_1_1[210]? = some (Cond.code (mN 160) (mB 160) (mL 160) (mR 160)))))
set_option maxRecDepth 40000 in
theorem cod_161 : Cond.code (mN 161) (mB 161) (mL 161) (mR 161) ∈ lw_tbl := List.mem_append_right _ (List.mem_append_left _ (List.mem_of_getElem? (i := 210) (rfl : tables_1_1[210]? = some (Cond.code (mN 161) (mB 161) (mL 161) (mR 161)))))
set_option maxRecDepth 40000 in
theorem cod_162 : Cond.code (mN 162) (mB 162) (mL 162) (mR 162) ∈ lw_tbl := List.mem_append_right _ (List.mem_append_right _ (List.mem_append_left _ (List.mem_of_getElem? (i := 34) (rfl : tables_1_2[34]? = some (Cond.code (mN 162) (mB 162) (mL 162) (mR 162))))))
set_option maxRecDepth 40000 in
theorem cod_163 : Cond.code (mN 163) (mB 163) (mL 163) (mR 163) ∈ lw_tbl := List.mem_append_right _ (List.mem_append_right _ (List.mem_append_left _ (List.mem_of_getElem? (i := 74) (rfl : tables_1_2[74]? = some (Cond.code (mN 163) (mB 163) (mL 163) (mR 163))))))
set_option maxRecDepth 40000 in
theorem cod_164 : Cond.code (mN 164) (mB 164) (mL 164) (mR 164) ∈ lw_tbl := List.mem_append_right _ (List.mem_append_right _ (List.mem_append_left _ (List.mem_of_getElem? (i := 60) (rfl : tables_1_2[60]? = some (Cond.code (mN 164) (mB 164) (mL 164) (mR 164))))))
set_option maxRecDepth 40000 in
theorem cod_165 : Cond.code (mN 165) (mB 165) (mL 165) (mR 165) ∈ lw_tbl := List.mem_append_right _ (List.mem_append_right _ (List.mem_append_right _ (List.mem_of_getElem? (i := 142) (rfl : tables_1_3[142]? = some (Cond.code (mN 165) (mB 165) (mL 165) (mR 165))))))
set_option maxRecDepth 40000 in
theorem cod_166 : Cond.code (mN 166) (mB 166) (mL 166) (mR 166) ∈ lw_tbl := List.mem_append_right _ (List.mem_append_right _ (List.mem_append_right _ (List.mem_of_getElem? (i := 108) (rfl : tables_1_3[108]? = some (Cond.code (mN 166) (mB 166) (mL 166) (mR 166))))))
set_option maxRecDepth 40000 in
theorem cod_167 : Cond.code (mN 167) (mB 167) (mL 167) (mR 167) ∈ lw_tbl := List.mem_append_right _ (List.mem_append_right _ (List.mem_append_left _ (List.mem_of_getElem? (i := 176) (rfl : tables_1_2[176]? = some (Cond.code (mN 167) (mB 167) (mL 167) (mR 167))))))
set_option maxRecDepth 40000 in
theorem cod_168 : Cond.code (mN 168) (mB 168) (mL 168) (mR 168) ∈ lw_tbl := List.mem_append_right _ (List.mem_append_right _ (List.mem_append_right _ (List.mem_of_getElem? (i := 100) (rfl : tables_1_3[100]? = some (Cond.code (mN 168) (mB 168) (mL 168) (mR 168))))))
set_option maxRecDepth 40000 in
theorem cod_169 : Cond.code (mN 169) (mB 169) (mL 169) (mR 169) ∈ lw_tbl := List.mem_append_right _ (List.mem_append_right _ (List.mem_append_right _ (List.mem_of_getElem? (i := 104) (rfl : tables_1_3[104]? = some (Cond.code (mN 169) (mB 169) (mL 169) (mR 169))))))
set_option maxRecDepth 40000 in
theorem cod_170 : Cond.code (mN 170) (mB 170) (mL 170) (mR 170) ∈ lw_tbl := List.mem_append_right _ (List.mem_append_left _ (List.mem_of_getElem? (i := 210) (rfl : tables_1_1[210]? = some (Cond.code (mN 170) (mB 170) (mL 170) (mR 170)))))
set_option maxRecDepth 40000 in
theorem cod_171 : Cond.code (mN 171) (mB 171) (mL 171) (mR 171) ∈ lw_tbl := List.mem_append_right _ (List.mem_append_left _ (List.mem_of_getElem? (i := 210) (rfl : tables_1_1[210]? = some (Cond.code (mN 171) (mB 171) (mL 171) (mR 171)))))
set_option maxRecDepth 40000 in
theorem cod_172 : Cond.code (mN 172) (mB 172) (mL 172) (mR 172) ∈ lw_tbl := List.mem_append_right _ (List.mem_append_left _ (List.mem_of_getElem? (i := 210) (rfl : tables_1_1[210]? = some (Cond.code (mN 172) (mB 172) (mL 172) (mR 172)))))
set_option maxRecDepth 40000 in
theorem cod_173 : Cond.code (mN 173) (mB 173) (mL 173) (mR 173) ∈ lw_tbl := List.mem_append_right _ (List.mem_append_left _ (List.mem_of_getElem? (i := 210) (rfl : tables_1_1[210]? = some (Cond.code (mN 173) (mB 173) (mL 173) (mR 173)))))
set_option maxRecDepth 40000 in
theorem cod_174 : Cond.code (mN 174) (mB 174) (mL 174) (mR 174) ∈ lw_tbl := List.mem_append_right _ (List.mem_append_left _ (List.mem_of_getElem? (i := 210) (rfl : tables_1_1[210]? = some (Cond.code (mN 174) (mB 174) (mL 174) (mR 174)))))
set_option maxRecDepth 40000 in
theorem cod_175 : Cond.code (mN 175) (mB 175) (mL 175) (mR 175) ∈ lw_tbl := List.mem_append_right _ (List.mem_append_left _ (List.mem_of_getElem? (i := 210) (rfl : tables_1_1[210]? = some (Cond.code (mN 175) (mB 175) (mL 175) (mR 175)))))
set_option maxRecDepth 40000 in
theorem cod_176 : Cond.code (mN 176) (mB 176) (mL 176) (mR 176) ∈ lw_tbl := List.mem_append_right _ (List.mem_append_left _ (List.mem_of_getElem? (i := 210) (rfl : tables_1_1[210]? = some (Cond.code (mN 176) (mB 176) (mL 176) (mR 176)))))
set_option maxRecDepth 40000 in
theorem cod_177 : Cond.code (mN 177) (mB 177) (mL 177) (mR 177) ∈ lw_tbl := List.mem_append_right _ (List.mem_append_right _ (List.mem_append_left _ (List.mem_of_getElem? (i := 70) (rfl : tables_1_2[70]? = some (Cond.code (mN 177) (mB 177) (mL 177) (mR 177))))))
set_option maxRecDepth 40000 in
theorem cod_178 : Cond.code (mN 178) (mB 178) (mL 178) (mR 178) ∈ lw_tbl := List.mem_append_right _ (List.mem_append_right _ (List.mem_append_left _ (List.mem_of_getElem? (i := 56) (rfl : tables_1_2[56]? = some (Cond.code (mN 178) (mB 178) (mL 178) (mR 178))))))
set_option maxRecDepth 40000 in
theorem cod_179 : Cond.code (mN 179) (mB 179) (mL 179) (mR 179) ∈ lw_tbl := List.mem_append_right _ (List.mem_append_right _ (List.mem_append_right _ (List.mem_of_getElem? (i := 124) (rfl : tables_1_3[124]? = some (Cond.code (mN 179) (mB 179) (mL 179) (mR 179))))))
set_option maxRecDepth 40000 in
theorem cod_180 : Cond.code (mN 180) (mB 180) (mL 180) (mR 180) ∈ lw_tbl := List.mem_append_right _ (List.mem_append_right _ (List.mem_append_left _ (List.mem_of_getElem? (i := 111) (rfl : tables_1_2[111]? = some (Cond.code (mN 180) (mB 180) (mL 180) (mR 180))))))
set_option maxRecDepth 40000 in
theorem cod_181 : Cond.code (mN 181) (mB 181) (mL 181) (mR 181) ∈ lw_tbl := List.mem_append_right _ (List.mem_append_right _ (List.mem_append_left _ (List.mem_of_getElem? (i := 172) (rfl : tables_1_2[172]? = some (Cond.code (mN 181) (mB 181) (mL 181) (mR 181))))))
set_option maxRecDepth 40000 in
theorem cod_182 : Cond.code (mN 182) (mB 182) (mL 182) (mR 182) ∈ lw_tbl := List.mem_append_right _ (List.mem_append_left _ (List.mem_of_getElem? (i := 210) (rfl : tables_1_1[210]? = some (Cond.code (mN 182) (mB 182) (mL 182) (mR 182)))))
set_option maxRecDepth 40000 in
theorem cod_183 : Cond.code (mN 183) (mB 183) (mL 183) (mR 183) ∈ lw_tbl := List.mem_append_right _ (List.mem_append_left _ (List.mem_of_getElem? (i := 210) (rfl : tables_1_1[210]? = some (Cond.code (mN 183) (mB 183) (mL 183) (mR 183)))))
set_option maxRecDepth 40000 in
theorem cod_184 : Cond.code (mN 184) (mB 184) (mL 184) (mR 184) ∈ lw_tbl := List.mem_append_right _ (List.mem_append_left _ (List.mem_of_getElem? (i := 210) (rfl : tables_1_1[210]? = some (Cond.code (mN 184) (mB 184) (mL 184) (mR 184)))))
set_option maxRecDepth 40000 in
theorem cod_185 : Cond.code (mN 185) (mB 185) (mL 185) (mR 185) ∈ lw_tbl := List.mem_append_right _ (List.mem_append_right _ (List.mem_append_right _ (List.mem_of_getElem? (i := 149) (rfl : tables_1_3[149]? = some (Cond.code (mN 185) (mB 185) (mL 185) (mR 185))))))
set_option maxRecDepth 40000 in
theorem cod_186 : Cond.code (mN 186) (mB 186) (mL 186) (mR 186) ∈ lw_tbl := List.mem_append_right _ (List.mem_append_left _ (List.mem_of_getElem? (i := 207) (rfl : tables_1_1[207]? = some (Cond.code (mN 186) (mB 186) (mL 186) (mR 186)))))
set_option maxRecDepth 40000 in
theorem cod_187 : Cond.code (mN 187) (mB 187) (mL 187) (mR 187) ∈ lw_tbl := List.mem_append_right _ (List.mem_append_right _ (List.mem_append_right _ (List.mem_of_getElem? (i := 120) (rfl : tables_1_3[120]? = some (Cond.code (mN 187) (mB 187) (mL 187) (mR 187))))))
set_option maxRecDepth 40000 in
theorem cod_188 : Cond.code (mN 188) (mB 188) (mL 188) (mR 188) ∈ lw_tbl := List.mem_append_right _ (List.mem_append_left _ (List.mem_of_getElem? (i := 210) (rfl : tables_1_1[210]? = some (Cond.code (mN 188) (mB 188) (mL 188) (mR 188)))))
set_option maxRecDepth 40000 in
theorem cod_189 : Cond.code (mN 189) (mB 189) (mL 189) (mR 189) ∈ lw_tbl := List.mem_append_right _ (List.mem_append_left _ (List.mem_of_getElem? (i := 210) (rfl : tables_1_1[210]? = some (Cond.code (mN 189) (mB 189) (mL 189) (mR 189)))))
set_option maxRecDepth 40000 in
theorem cod_190 : Cond.code (mN 190) (mB 190) (mL 190) (mR 190) ∈ lw_tbl := List.mem_append_right _ (List.mem_append_left _ (List.mem_of_getElem? (i := 210) (rfl : tables_1_1[210]? = some (Cond.code (mN 190) (mB 190) (mL 190) (mR 190)))))
set_option maxRecDepth 40000 in
theorem cod_191 : Cond.code (mN 191) (mB 191) (mL 191) (mR 191) ∈ lw_tbl := List.mem_append_right _ (List.mem_append_left _ (List.mem_of_getElem? (i := 210) (rfl : tables_1_1[210]? = some (Cond.code (mN 191) (mB 191) (mL 191) (mR 191)))))
set_option maxRecDepth 40000 in
theorem cod_192 : Cond.code (mN 192) (mB 192) (mL 192) (mR 192) ∈ lw_tbl := List.mem_append_right _ (List.mem_append_left _ (List.mem_of_getElem? (i := 210) (rfl : tables_1_1[210]? = some (Cond.code (mN 192) (mB 192) (mL 192) (mR 192)))))
set_option maxRecDepth 40000 in
theorem cod_193 : Cond.code (mN 193) (mB 193) (mL 193) (mR 193) ∈ lw_tbl := List.mem_append_right _ (List.mem_append_left _ (List.mem_of_getElem? (i := 210) (rfl : tables_1_1[210]? = some (Cond.code (mN 193) (mB 193) (mL 193) (mR 193)))))
set_option maxRecDepth 40000 in
theorem cod_194 : Cond.code (mN 194) (mB 194) (mL 194) (mR 194) ∈ lw_tbl := List.mem_append_right _ (List.mem_append_left _ (List.mem_of_getElem? (i := 210) (rfl : tables_1_1[210]? = some (Cond.code (mN 194) (mB 194) (mL 194) (mR 194)))))
set_option maxRecDepth 40000 in
theorem cod_195 : Cond.code (mN 195) (mB 195) (mL 195) (mR 195) ∈ lw_tbl := List.mem_append_right _ (List.mem_append_left _ (List.mem_of_getElem? (i := 210) (rfl : tables_1_1[210]? = some (Cond.code (mN 195) (mB 195) (mL 195) (mR 195)))))
set_option maxRecDepth 40000 in
theorem cod_196 : Cond.code (mN 196) (mB 196) (mL 196) (mR 196) ∈ lw_tbl := List.mem_append_right _ (List.mem_append_left _ (List.mem_of_getElem? (i := 210) (rfl : tables_1_1[210]? = some (Cond.code (mN 196) (mB 196) (mL 196) (mR 196)))))
set_option maxRecDepth 40000 in
theorem cod_197 : Cond.code (mN 197) (mB 197) (mL 197) (mR 197) ∈ lw_tbl := List.mem_append_right _ (List.mem_append_left _ (List.mem_of_getElem? (i := 210) (rfl : tables_1_1[210]? = some (Cond.code (mN 197) (mB 197) (mL 197) (mR 197)))))
set_option maxRecDepth 40000 in
theorem cod_198 : Cond.code (mN 198) (mB 198) (mL 198) (mR 198) ∈ lw_tbl := List.mem_append_right _ (List.mem_append_left _ (List.mem_of_getElem? (i := 210) (rfl : tables_1_1[210]? = some (Cond.code (mN 198) (mB 198) (mL 198) (mR 198)))))
set_option maxRecDepth 40000 in
theorem codT_ok : ∀ e ∈ codT, Cond.code (mN e.1) (mB e.1) (mL e.1) (mR e.1) ∈ lw_tbl := by
  intro e he
  simp only [codT, List.mem_cons, List.not_mem_nil, or_false] at he
  rcases he with rfl | rfl | rfl | rfl | rfl | rfl | rfl | rfl | rfl | rfl | rfl | rfl | rfl | rfl | rfl | rfl | rfl | rfl | rfl | rfl | rfl | rfl | rfl | rfl | rfl | rfl | rfl | rfl | rfl | rfl | rfl | rfl | rfl | rfl | rfl | rfl | rfl | rfl | rfl | rfl | rfl | rfl | rfl | rfl | rfl | rfl | rfl | rfl | rfl | rfl | rfl | rfl | rfl | rfl | rfl | rfl | rfl | rfl | rfl | rfl | rfl | rfl | rfl | rfl | rfl | rfl | rfl | rfl | rfl | rfl | rfl | rfl | rfl | rfl | rfl | rfl | rfl | rfl | rfl | rfl | rfl | rfl | rfl | rfl | rfl | rfl | rfl | rfl | rfl | rfl | rfl | rfl | rfl | rfl | rfl | rfl | rfl | rfl | rfl | rfl | rfl | rfl | rfl | rfl | rfl | rfl | rfl | rfl | rfl | rfl | rfl | rfl | rfl | rfl | rfl | rfl | rfl | rfl | rfl | rfl | rfl | rfl | rfl | rfl | rfl | rfl | rfl | rfl | rfl | rfl | rfl | rfl | rfl | rfl | rfl | rfl | rfl | rfl | rfl | rfl | rfl | rfl | rfl | rfl | rfl | rfl | rfl | rfl | rfl | rfl | rfl | rfl | rfl | rfl | rfl | rfl | rfl | rfl | rfl | rfl | rfl | rfl | rfl | rfl | rfl | rfl | rfl | rfl | rfl | rfl | rfl | rfl | rfl | rfl | rfl | rfl | rfl | rfl | rfl | rfl | rfl | rfl | rfl | rfl | rfl | rfl | rfl | rfl | rfl | rfl | rfl | rfl | rfl | rfl | rfl | rfl | rfl | rfl | rfl
  · exact cod_0
  · exact cod_1
  · exact cod_2
  · exact cod_3
  · exact cod_4
  · exact cod_5
  · exact cod_6
  · exact cod_7
  · exact cod_8
  · exact cod_9
  · exact cod_10
  · exact cod_11
  · exact cod_12
  · exact cod_13
  · exact cod_14
  · exact cod_15
  · exact cod_16
  · exact cod_17
  · exact cod_18
  · exact cod_19
  · exact cod_20
  · exact cod_21
  · exact cod_22
  · exact cod_23
  · exact cod_24
  · exact cod_25
  · exact cod_26
  · exact cod_27
  · exact cod_28
  · exact cod_29
  · exact cod_30
  · exact cod_31
  · exact cod_32
  · exact cod_33
  · exact cod_34
  · exact cod_35
  · exact cod_36
  · exact cod_37
  · exact cod_38
  · exact cod_39
  · exact cod_40
  · exact cod_41
  · exact cod_42
  · exact cod_43
  · exact cod_44
  · exact cod_45
  · exact cod_46
  · exact cod_47
  · exact cod_48
  · exact cod_49
  · exact cod_50
  · exact cod_51
  · exact cod_52
  · exact cod_53
  · exact cod_54
  · exact cod_55
  · exact cod_56
  · exact cod_57
  · exact cod_58
  · exact cod_59
  · exact cod_60
  · exact cod_61
  · exact cod_62
  · exact cod_63
  · exact cod_64
  · exact cod_65
  · exact cod_66
  · exact cod_67
  · exact cod_68
  · exact cod_69
  · exact cod_70
  · exact cod_71
  · exact cod_72
  · exact cod_73
  · exact cod_74
  · exact cod_75
  · exact cod_76
  · exact cod_77
  · exact cod_78
  · exact cod_79
  · exact cod_80
  · exact cod_81
  · exact cod_82
  · exact cod_83
  · exact cod_84
  · exact cod_85
  · exact cod_86
  · exact cod_87
  · exact cod_88
  · exact cod_89
  · exact cod_90
  · exact cod_91
  · exact cod_92
  · exact cod_93
  · exact cod_94
  · exact cod_95
  · exact cod_96
  · exact cod_97
  · exact cod_98
  · exact cod_99
  · exact cod_100
  · exact cod_101
  · exact cod_102
  · exact cod_103
  · exact cod_104
  · exact cod_105
  · exact cod_106
  · exact cod_107
  · exact cod_108
  · exact cod_109
  · exact cod_110
  · exact cod_111
  · exact cod_112
  · exact cod_113
  · exact cod_114
  · exact cod_115
  · exact cod_116
  · exact cod_117
  · exact cod_118
  · exact cod_119
  · exact cod_120
  · exact cod_121
  · exact cod_122
  · exact cod_123
  · exact cod_124
  · exact cod_125
  · exact cod_126
  · exact cod_127
  · exact cod_128
  · exact cod_129
  · exact cod_130
  · exact cod_131
  · exact cod_132
  · exact cod_133
  · exact cod_134
  · exact cod_135
  · exact cod_136
  · exact cod_137
  · exact cod_138
  · exact cod_139
  · exact cod_140
  · exact cod_141
  · exact cod_142
  · exact cod_143
  · exact cod_144
  · exact cod_145
  · exact cod_146
  · exact cod_147
  · exact cod_148
  · exact cod_149
  · exact cod_150
  · exact cod_151
  · exact cod_152
  · exact cod_153
  · exact cod_154
  · exact cod_155
  · exact cod_156
  · exact cod_157
  · exact cod_158
  · exact cod_159
  · exact cod_160
  · exact cod_161
  · exact cod_162
  · exact cod_163
  · exact cod_164
  · exact cod_165
  · exact cod_166
  · exact cod_167
  · exact cod_168
  · exact cod_169
  · exact cod_170
  · exact cod_171
  · exact cod_172
  · exact cod_173
  · exact cod_174
  · exact cod_175
  · exact cod_176
  · exact cod_177
  · exact cod_178
  · exact cod_179
  · exact cod_180
  · exact cod_181
  · exact cod_182
  · exact cod_183
  · exact cod_184
  · exact cod_185
  · exact cod_186
  · exact cod_187
  · exact cod_188
  · exact cod_189
  · exact cod_190
  · exact cod_191
  · exact cod_192
  · exact cod_193
  · exact cod_194
  · exact cod_195
  · exact cod_196
  · exact cod_197
  · exact cod_198
theorem cod_all : ∀ m, m < 199 → codT.any (fun e => e.1 == m) = true := by decide +kernel
theorem cod_in (m : Nat) (hm : m < 199) : Cond.code (mN m) (mB m) (mL m) (mR m) ∈ wsAll := by
  obtain ⟨e, he, h2⟩ := List.any_eq_true.mp (cod_all m hm)
  have h3 := codT_ok e he
  simp only [beq_iff_eq] at h2
  subst h2
  exact List.mem_filter.mpr ⟨h3, rfl⟩
