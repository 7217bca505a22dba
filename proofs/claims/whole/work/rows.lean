section
-- ===== PART A: goes FIRST, ahead of the names: the tables' words, and 'selects' of the private methods out of them =====
/-- a private method of a class that the tables say can be made, by its rows of tables_1 -/
def lw_okq (q : MethodName × Nat) : Prop := (q.1.cls ≠ "java/lang/invoke/MethodHandle" ∧ q.1.cls ≠ "java/lang/invoke/VarHandle") ∧ Cond.instantiable q.1.cls q.2 ∈ tables_1 ∧ Cond.privateMethod q.1 ∈ tables_1 ∧ Cond.instanceMethod q.1 ∈ tables_1
theorem lw_p0 : lw_okq (⟨"StrongCells$Judge", "putBehind", "(LStrongCells$State;II)V"⟩, 2) := ⟨⟨by decide +kernel, by decide +kernel⟩, List.mem_of_getElem? (i := 36) (by decide +kernel), List.mem_of_getElem? (i := 266) (by decide +kernel), List.mem_of_getElem? (i := 267) (by decide +kernel)⟩
theorem lw_p1 : lw_okq (⟨"StrongCells$Judge", "goesBack", "(LStrongCells$State;I)Z"⟩, 2) := ⟨⟨by decide +kernel, by decide +kernel⟩, List.mem_of_getElem? (i := 36) (by decide +kernel), List.mem_of_getElem? (i := 313) (by decide +kernel), List.mem_of_getElem? (i := 314) (by decide +kernel)⟩
theorem lw_p2 : lw_okq (⟨"StrongCells", "isProcess", "(I)Z"⟩, 7) := ⟨⟨by decide +kernel, by decide +kernel⟩, List.mem_of_getElem? (i := 16) (by decide +kernel), List.mem_of_getElem? (i := 354) (by decide +kernel), List.mem_of_getElem? (i := 355) (by decide +kernel)⟩
theorem lw_p3 : lw_okq (⟨"StrongCells", "isAct", "(I)Z"⟩, 7) := ⟨⟨by decide +kernel, by decide +kernel⟩, List.mem_of_getElem? (i := 16) (by decide +kernel), List.mem_of_getElem? (i := 369) (by decide +kernel), List.mem_of_getElem? (i := 370) (by decide +kernel)⟩
theorem lw_p4 : lw_okq (⟨"StrongCells$Ways", "open", "(I)V"⟩, 11) := ⟨⟨by decide +kernel, by decide +kernel⟩, List.mem_of_getElem? (i := 49) (by decide +kernel), List.mem_of_getElem? (i := 392) (by decide +kernel), List.mem_of_getElem? (i := 393) (by decide +kernel)⟩
theorem lw_p5 : lw_okq (⟨"StrongCells$Ways", "countWay", "(ILStrongCells$Judge;)V"⟩, 11) := ⟨⟨by decide +kernel, by decide +kernel⟩, List.mem_of_getElem? (i := 49) (by decide +kernel), List.mem_of_getElem? (i := 402) (by decide +kernel), List.mem_of_getElem? (i := 403) (by decide +kernel)⟩
theorem lw_p6 : lw_okq (⟨"StrongCells$Ways", "goOn", "(I)Z"⟩, 11) := ⟨⟨by decide +kernel, by decide +kernel⟩, List.mem_of_getElem? (i := 49) (by decide +kernel), List.mem_of_getElem? (i := 408) (by decide +kernel), List.mem_of_getElem? (i := 409) (by decide +kernel)⟩
theorem lw_p7 : lw_okq (⟨"StrongCells", "beginAnew", "()V"⟩, 7) := ⟨⟨by decide +kernel, by decide +kernel⟩, List.mem_of_getElem? (i := 16) (by decide +kernel), List.mem_of_getElem? (i := 497) (by decide +kernel), List.mem_of_getElem? (i := 498) (by decide +kernel)⟩
theorem lw_p8 : lw_okq (⟨"StrongCells", "remember", "()V"⟩, 7) := ⟨⟨by decide +kernel, by decide +kernel⟩, List.mem_of_getElem? (i := 16) (by decide +kernel), List.mem_of_getElem? (i := 524) (by decide +kernel), List.mem_of_getElem? (i := 525) (by decide +kernel)⟩
theorem lw_p9 : lw_okq (⟨"StrongCells", "driftOnce", "()V"⟩, 7) := ⟨⟨by decide +kernel, by decide +kernel⟩, List.mem_of_getElem? (i := 16) (by decide +kernel), List.mem_of_getElem? (i := 563) (by decide +kernel), List.mem_of_getElem? (i := 564) (by decide +kernel)⟩
theorem lw_p10 : lw_okq (⟨"StrongCells", "draw", "(I)I"⟩, 7) := ⟨⟨by decide +kernel, by decide +kernel⟩, List.mem_of_getElem? (i := 16) (by decide +kernel), List.mem_of_getElem? (i := 567) (by decide +kernel), List.mem_of_getElem? (i := 568) (by decide +kernel)⟩
theorem lw_p11 : lw_okq (⟨"StrongCellsModel", "layAnew", "(IIIII)V"⟩, 16) := ⟨⟨by decide +kernel, by decide +kernel⟩, List.mem_of_getElem? (i := 639) (by decide +kernel), List.mem_of_getElem? (i := 645) (by decide +kernel), List.mem_of_getElem? (i := 646) (by decide +kernel)⟩
theorem lw_p12 : lw_okq (⟨"StrongCellsModel", "of", "(II)I"⟩, 16) := ⟨⟨by decide +kernel, by decide +kernel⟩, List.mem_of_getElem? (i := 639) (by decide +kernel), List.mem_of_getElem? (i := 649) (by decide +kernel), List.mem_of_getElem? (i := 650) (by decide +kernel)⟩
theorem lw_p13 : lw_okq (⟨"StrongCellsModel", "processes", "()I"⟩, 16) := ⟨⟨by decide +kernel, by decide +kernel⟩, List.mem_of_getElem? (i := 639) (by decide +kernel), List.mem_of_getElem? (i := 706) (by decide +kernel), List.mem_of_getElem? (i := 707) (by decide +kernel)⟩
theorem lw_p14 : lw_okq (⟨"StrongCellsModel", "writers", "()I"⟩, 16) := ⟨⟨by decide +kernel, by decide +kernel⟩, List.mem_of_getElem? (i := 639) (by decide +kernel), List.mem_of_getElem? (i := 710) (by decide +kernel), List.mem_of_getElem? (i := 711) (by decide +kernel)⟩
theorem lw_p15 : lw_okq (⟨"StrongCellsModel", "cells", "()I"⟩, 16) := ⟨⟨by decide +kernel, by decide +kernel⟩, List.mem_of_getElem? (i := 639) (by decide +kernel), List.mem_of_getElem? (i := 714) (by decide +kernel), List.mem_of_getElem? (i := 715) (by decide +kernel)⟩
def lw_privs_1 : List (MethodName × Nat) := [(⟨"StrongCells$Judge", "putBehind", "(LStrongCells$State;II)V"⟩, 2), (⟨"StrongCells$Judge", "goesBack", "(LStrongCells$State;I)Z"⟩, 2), (⟨"StrongCells", "isProcess", "(I)Z"⟩, 7), (⟨"StrongCells", "isAct", "(I)Z"⟩, 7), (⟨"StrongCells$Ways", "open", "(I)V"⟩, 11), (⟨"StrongCells$Ways", "countWay", "(ILStrongCells$Judge;)V"⟩, 11), (⟨"StrongCells$Ways", "goOn", "(I)Z"⟩, 11), (⟨"StrongCells", "beginAnew", "()V"⟩, 7), (⟨"StrongCells", "remember", "()V"⟩, 7), (⟨"StrongCells", "driftOnce", "()V"⟩, 7), (⟨"StrongCells", "draw", "(I)I"⟩, 7), (⟨"StrongCellsModel", "layAnew", "(IIIII)V"⟩, 16), (⟨"StrongCellsModel", "of", "(II)I"⟩, 16), (⟨"StrongCellsModel", "processes", "()I"⟩, 16), (⟨"StrongCellsModel", "writers", "()I"⟩, 16), (⟨"StrongCellsModel", "cells", "()I"⟩, 16)]
theorem lw_r1 : ∀ q ∈ lw_privs_1, lw_okq q := List.forall_mem_cons.mpr ⟨lw_p0, List.forall_mem_cons.mpr ⟨lw_p1, List.forall_mem_cons.mpr ⟨lw_p2, List.forall_mem_cons.mpr ⟨lw_p3, List.forall_mem_cons.mpr ⟨lw_p4, List.forall_mem_cons.mpr ⟨lw_p5, List.forall_mem_cons.mpr ⟨lw_p6, List.forall_mem_cons.mpr ⟨lw_p7, List.forall_mem_cons.mpr ⟨lw_p8, List.forall_mem_cons.mpr ⟨lw_p9, List.forall_mem_cons.mpr ⟨lw_p10, List.forall_mem_cons.mpr ⟨lw_p11, List.forall_mem_cons.mpr ⟨lw_p12, List.forall_mem_cons.mpr ⟨lw_p13, List.forall_mem_cons.mpr ⟨lw_p14, List.forall_mem_cons.mpr ⟨lw_p15, fun _ h => absurd h List.not_mem_nil⟩⟩⟩⟩⟩⟩⟩⟩⟩⟩⟩⟩⟩⟩⟩⟩
theorem lw_p16 : lw_okq (⟨"StrongCellsModel", "underWay", "()I"⟩, 16) := ⟨⟨by decide +kernel, by decide +kernel⟩, List.mem_of_getElem? (i := 639) (by decide +kernel), List.mem_of_getElem? (i := 718) (by decide +kernel), List.mem_of_getElem? (i := 719) (by decide +kernel)⟩
theorem lw_p17 : lw_okq (⟨"StrongCellsModel", "isUnderWay", "(I)Z"⟩, 16) := ⟨⟨by decide +kernel, by decide +kernel⟩, List.mem_of_getElem? (i := 639) (by decide +kernel), List.mem_of_getElem? (i := 722) (by decide +kernel), List.mem_of_getElem? (i := 723) (by decide +kernel)⟩
theorem lw_p18 : lw_okq (⟨"StrongCellsModel", "its", "(II)I"⟩, 16) := ⟨⟨by decide +kernel, by decide +kernel⟩, List.mem_of_getElem? (i := 639) (by decide +kernel), List.mem_of_getElem? (i := 726) (by decide +kernel), List.mem_of_getElem? (i := 727) (by decide +kernel)⟩
theorem lw_p19 : lw_okq (⟨"StrongCellsModel", "toldMore", "(I)I"⟩, 16) := ⟨⟨by decide +kernel, by decide +kernel⟩, List.mem_of_getElem? (i := 639) (by decide +kernel), List.mem_of_getElem? (i := 730) (by decide +kernel), List.mem_of_getElem? (i := 731) (by decide +kernel)⟩
theorem lw_p20 : lw_okq (⟨"StrongCellsModel", "isAtomic", "(I)Z"⟩, 16) := ⟨⟨by decide +kernel, by decide +kernel⟩, List.mem_of_getElem? (i := 639) (by decide +kernel), List.mem_of_getElem? (i := 734) (by decide +kernel), List.mem_of_getElem? (i := 735) (by decide +kernel)⟩
theorem lw_p21 : lw_okq (⟨"StrongCellsModel", "isEnded", "(II)Z"⟩, 16) := ⟨⟨by decide +kernel, by decide +kernel⟩, List.mem_of_getElem? (i := 639) (by decide +kernel), List.mem_of_getElem? (i := 738) (by decide +kernel), List.mem_of_getElem? (i := 739) (by decide +kernel)⟩
theorem lw_p22 : lw_okq (⟨"StrongCellsModel", "ofRow", "(III)I"⟩, 16) := ⟨⟨by decide +kernel, by decide +kernel⟩, List.mem_of_getElem? (i := 639) (by decide +kernel), List.mem_of_getElem? (i := 742) (by decide +kernel), List.mem_of_getElem? (i := 743) (by decide +kernel)⟩
theorem lw_p23 : lw_okq (⟨"StrongCellsModel", "ofAct", "(II)I"⟩, 16) := ⟨⟨by decide +kernel, by decide +kernel⟩, List.mem_of_getElem? (i := 639) (by decide +kernel), List.mem_of_getElem? (i := 746) (by decide +kernel), List.mem_of_getElem? (i := 747) (by decide +kernel)⟩
theorem lw_p24 : lw_okq (⟨"StrongCellsModel", "mayFollow", "(IIII)Z"⟩, 16) := ⟨⟨by decide +kernel, by decide +kernel⟩, List.mem_of_getElem? (i := 639) (by decide +kernel), List.mem_of_getElem? (i := 750) (by decide +kernel), List.mem_of_getElem? (i := 751) (by decide +kernel)⟩
theorem lw_p25 : lw_okq (⟨"StrongCellsModel", "isAhead", "(III)Z"⟩, 16) := ⟨⟨by decide +kernel, by decide +kernel⟩, List.mem_of_getElem? (i := 639) (by decide +kernel), List.mem_of_getElem? (i := 754) (by decide +kernel), List.mem_of_getElem? (i := 755) (by decide +kernel)⟩
theorem lw_p26 : lw_okq (⟨"StrongCellsModel", "firstRead", "(I)I"⟩, 16) := ⟨⟨by decide +kernel, by decide +kernel⟩, List.mem_of_getElem? (i := 639) (by decide +kernel), List.mem_of_getElem? (i := 758) (by decide +kernel), List.mem_of_getElem? (i := 759) (by decide +kernel)⟩
theorem lw_p27 : lw_okq (⟨"StrongCellsModel", "isJudged", "(I)Z"⟩, 16) := ⟨⟨by decide +kernel, by decide +kernel⟩, List.mem_of_getElem? (i := 639) (by decide +kernel), List.mem_of_getElem? (i := 762) (by decide +kernel), List.mem_of_getElem? (i := 763) (by decide +kernel)⟩
theorem lw_p28 : lw_okq (⟨"StrongCellsModel", "isWritten", "(I)Z"⟩, 16) := ⟨⟨by decide +kernel, by decide +kernel⟩, List.mem_of_getElem? (i := 639) (by decide +kernel), List.mem_of_getElem? (i := 766) (by decide +kernel), List.mem_of_getElem? (i := 767) (by decide +kernel)⟩
theorem lw_p29 : lw_okq (⟨"StrongCellsModel", "isSafe", "(I)Z"⟩, 16) := ⟨⟨by decide +kernel, by decide +kernel⟩, List.mem_of_getElem? (i := 639) (by decide +kernel), List.mem_of_getElem? (i := 770) (by decide +kernel), List.mem_of_getElem? (i := 771) (by decide +kernel)⟩
theorem lw_p30 : lw_okq (⟨"StrongCellsModel", "lastValue", "(I)I"⟩, 16) := ⟨⟨by decide +kernel, by decide +kernel⟩, List.mem_of_getElem? (i := 639) (by decide +kernel), List.mem_of_getElem? (i := 774) (by decide +kernel), List.mem_of_getElem? (i := 775) (by decide +kernel)⟩
theorem lw_p31 : lw_okq (⟨"StrongCellsModel", "lastOf", "(I)I"⟩, 16) := ⟨⟨by decide +kernel, by decide +kernel⟩, List.mem_of_getElem? (i := 639) (by decide +kernel), List.mem_of_getElem? (i := 778) (by decide +kernel), List.mem_of_getElem? (i := 779) (by decide +kernel)⟩
def lw_privs_2 : List (MethodName × Nat) := [(⟨"StrongCellsModel", "underWay", "()I"⟩, 16), (⟨"StrongCellsModel", "isUnderWay", "(I)Z"⟩, 16), (⟨"StrongCellsModel", "its", "(II)I"⟩, 16), (⟨"StrongCellsModel", "toldMore", "(I)I"⟩, 16), (⟨"StrongCellsModel", "isAtomic", "(I)Z"⟩, 16), (⟨"StrongCellsModel", "isEnded", "(II)Z"⟩, 16), (⟨"StrongCellsModel", "ofRow", "(III)I"⟩, 16), (⟨"StrongCellsModel", "ofAct", "(II)I"⟩, 16), (⟨"StrongCellsModel", "mayFollow", "(IIII)Z"⟩, 16), (⟨"StrongCellsModel", "isAhead", "(III)Z"⟩, 16), (⟨"StrongCellsModel", "firstRead", "(I)I"⟩, 16), (⟨"StrongCellsModel", "isJudged", "(I)Z"⟩, 16), (⟨"StrongCellsModel", "isWritten", "(I)Z"⟩, 16), (⟨"StrongCellsModel", "isSafe", "(I)Z"⟩, 16), (⟨"StrongCellsModel", "lastValue", "(I)I"⟩, 16), (⟨"StrongCellsModel", "lastOf", "(I)I"⟩, 16)]
theorem lw_r2 : ∀ q ∈ lw_privs_2, lw_okq q := List.forall_mem_cons.mpr ⟨lw_p16, List.forall_mem_cons.mpr ⟨lw_p17, List.forall_mem_cons.mpr ⟨lw_p18, List.forall_mem_cons.mpr ⟨lw_p19, List.forall_mem_cons.mpr ⟨lw_p20, List.forall_mem_cons.mpr ⟨lw_p21, List.forall_mem_cons.mpr ⟨lw_p22, List.forall_mem_cons.mpr ⟨lw_p23, List.forall_mem_cons.mpr ⟨lw_p24, List.forall_mem_cons.mpr ⟨lw_p25, List.forall_mem_cons.mpr ⟨lw_p26, List.forall_mem_cons.mpr ⟨lw_p27, List.forall_mem_cons.mpr ⟨lw_p28, List.forall_mem_cons.mpr ⟨lw_p29, List.forall_mem_cons.mpr ⟨lw_p30, List.forall_mem_cons.mpr ⟨lw_p31, fun _ h => absurd h List.not_mem_nil⟩⟩⟩⟩⟩⟩⟩⟩⟩⟩⟩⟩⟩⟩⟩⟩
theorem lw_p32 : lw_okq (⟨"StrongCellsModel", "overlaps", "(II)Z"⟩, 16) := ⟨⟨by decide +kernel, by decide +kernel⟩, List.mem_of_getElem? (i := 639) (by decide +kernel), List.mem_of_getElem? (i := 782) (by decide +kernel), List.mem_of_getElem? (i := 783) (by decide +kernel)⟩
theorem lw_p33 : lw_okq (⟨"StrongCellsModel", "isRegular", "(I)Z"⟩, 16) := ⟨⟨by decide +kernel, by decide +kernel⟩, List.mem_of_getElem? (i := 639) (by decide +kernel), List.mem_of_getElem? (i := 786) (by decide +kernel), List.mem_of_getElem? (i := 787) (by decide +kernel)⟩
theorem lw_p34 : lw_okq (⟨"StrongCellsModel", "goesBack", "(I)Z"⟩, 16) := ⟨⟨by decide +kernel, by decide +kernel⟩, List.mem_of_getElem? (i := 639) (by decide +kernel), List.mem_of_getElem? (i := 790) (by decide +kernel), List.mem_of_getElem? (i := 791) (by decide +kernel)⟩
theorem lw_p35 : lw_okq (⟨"StrongCellsModel", "mayHaveTold", "(IZ)I"⟩, 16) := ⟨⟨by decide +kernel, by decide +kernel⟩, List.mem_of_getElem? (i := 639) (by decide +kernel), List.mem_of_getElem? (i := 794) (by decide +kernel), List.mem_of_getElem? (i := 795) (by decide +kernel)⟩
theorem lw_p36 : lw_okq (⟨"StrongCellsModel", "numberOfWriting", "(I)I"⟩, 16) := ⟨⟨by decide +kernel, by decide +kernel⟩, List.mem_of_getElem? (i := 639) (by decide +kernel), List.mem_of_getElem? (i := 798) (by decide +kernel), List.mem_of_getElem? (i := 799) (by decide +kernel)⟩
theorem lw_p37 : lw_okq (⟨"StrongCellsModel", "stampMost", "()I"⟩, 16) := ⟨⟨by decide +kernel, by decide +kernel⟩, List.mem_of_getElem? (i := 639) (by decide +kernel), List.mem_of_getElem? (i := 802) (by decide +kernel), List.mem_of_getElem? (i := 803) (by decide +kernel)⟩
theorem lw_p38 : lw_okq (⟨"StrongCellsModel", "wrong", "()I"⟩, 16) := ⟨⟨by decide +kernel, by decide +kernel⟩, List.mem_of_getElem? (i := 639) (by decide +kernel), List.mem_of_getElem? (i := 806) (by decide +kernel), List.mem_of_getElem? (i := 807) (by decide +kernel)⟩
theorem lw_p39 : lw_okq (⟨"StrongCellsModel", "isProcess", "(I)Z"⟩, 16) := ⟨⟨by decide +kernel, by decide +kernel⟩, List.mem_of_getElem? (i := 639) (by decide +kernel), List.mem_of_getElem? (i := 823) (by decide +kernel), List.mem_of_getElem? (i := 824) (by decide +kernel)⟩
theorem lw_p40 : lw_okq (⟨"StrongCellsModel", "isBegun", "(I)Z"⟩, 16) := ⟨⟨by decide +kernel, by decide +kernel⟩, List.mem_of_getElem? (i := 639) (by decide +kernel), List.mem_of_getElem? (i := 827) (by decide +kernel), List.mem_of_getElem? (i := 828) (by decide +kernel)⟩
theorem lw_p41 : lw_okq (⟨"StrongCellsModel", "cellOf", "(I)I"⟩, 16) := ⟨⟨by decide +kernel, by decide +kernel⟩, List.mem_of_getElem? (i := 639) (by decide +kernel), List.mem_of_getElem? (i := 831) (by decide +kernel), List.mem_of_getElem? (i := 832) (by decide +kernel)⟩
theorem lw_p42 : lw_okq (⟨"StrongCellsModel", "isWriter", "(I)Z"⟩, 16) := ⟨⟨by decide +kernel, by decide +kernel⟩, List.mem_of_getElem? (i := 639) (by decide +kernel), List.mem_of_getElem? (i := 835) (by decide +kernel), List.mem_of_getElem? (i := 836) (by decide +kernel)⟩
theorem lw_p43 : lw_okq (⟨"StrongCellsModel", "cellOfWriter", "(I)I"⟩, 16) := ⟨⟨by decide +kernel, by decide +kernel⟩, List.mem_of_getElem? (i := 639) (by decide +kernel), List.mem_of_getElem? (i := 839) (by decide +kernel), List.mem_of_getElem? (i := 840) (by decide +kernel)⟩
theorem lw_p44 : lw_okq (⟨"StrongCellsModel", "value", "(I)I"⟩, 16) := ⟨⟨by decide +kernel, by decide +kernel⟩, List.mem_of_getElem? (i := 639) (by decide +kernel), List.mem_of_getElem? (i := 843) (by decide +kernel), List.mem_of_getElem? (i := 844) (by decide +kernel)⟩
theorem lw_p45 : lw_okq (⟨"StrongCellsModel", "isWriting", "(I)Z"⟩, 16) := ⟨⟨by decide +kernel, by decide +kernel⟩, List.mem_of_getElem? (i := 639) (by decide +kernel), List.mem_of_getElem? (i := 847) (by decide +kernel), List.mem_of_getElem? (i := 848) (by decide +kernel)⟩
theorem lw_p46 : lw_okq (⟨"StrongCellsModel", "cellOfReader", "(I)I"⟩, 16) := ⟨⟨by decide +kernel, by decide +kernel⟩, List.mem_of_getElem? (i := 639) (by decide +kernel), List.mem_of_getElem? (i := 851) (by decide +kernel), List.mem_of_getElem? (i := 852) (by decide +kernel)⟩
theorem lw_p47 : lw_okq (⟨"StrongCellsModel", "between", "(II)I"⟩, 16) := ⟨⟨by decide +kernel, by decide +kernel⟩, List.mem_of_getElem? (i := 639) (by decide +kernel), List.mem_of_getElem? (i := 855) (by decide +kernel), List.mem_of_getElem? (i := 856) (by decide +kernel)⟩
def lw_privs_3 : List (MethodName × Nat) := [(⟨"StrongCellsModel", "overlaps", "(II)Z"⟩, 16), (⟨"StrongCellsModel", "isRegular", "(I)Z"⟩, 16), (⟨"StrongCellsModel", "goesBack", "(I)Z"⟩, 16), (⟨"StrongCellsModel", "mayHaveTold", "(IZ)I"⟩, 16), (⟨"StrongCellsModel", "numberOfWriting", "(I)I"⟩, 16), (⟨"StrongCellsModel", "stampMost", "()I"⟩, 16), (⟨"StrongCellsModel", "wrong", "()I"⟩, 16), (⟨"StrongCellsModel", "isProcess", "(I)Z"⟩, 16), (⟨"StrongCellsModel", "isBegun", "(I)Z"⟩, 16), (⟨"StrongCellsModel", "cellOf", "(I)I"⟩, 16), (⟨"StrongCellsModel", "isWriter", "(I)Z"⟩, 16), (⟨"StrongCellsModel", "cellOfWriter", "(I)I"⟩, 16), (⟨"StrongCellsModel", "value", "(I)I"⟩, 16), (⟨"StrongCellsModel", "isWriting", "(I)Z"⟩, 16), (⟨"StrongCellsModel", "cellOfReader", "(I)I"⟩, 16), (⟨"StrongCellsModel", "between", "(II)I"⟩, 16)]
theorem lw_r3 : ∀ q ∈ lw_privs_3, lw_okq q := List.forall_mem_cons.mpr ⟨lw_p32, List.forall_mem_cons.mpr ⟨lw_p33, List.forall_mem_cons.mpr ⟨lw_p34, List.forall_mem_cons.mpr ⟨lw_p35, List.forall_mem_cons.mpr ⟨lw_p36, List.forall_mem_cons.mpr ⟨lw_p37, List.forall_mem_cons.mpr ⟨lw_p38, List.forall_mem_cons.mpr ⟨lw_p39, List.forall_mem_cons.mpr ⟨lw_p40, List.forall_mem_cons.mpr ⟨lw_p41, List.forall_mem_cons.mpr ⟨lw_p42, List.forall_mem_cons.mpr ⟨lw_p43, List.forall_mem_cons.mpr ⟨lw_p44, List.forall_mem_cons.mpr ⟨lw_p45, List.forall_mem_cons.mpr ⟨lw_p46, List.forall_mem_cons.mpr ⟨lw_p47, fun _ h => absurd h List.not_mem_nil⟩⟩⟩⟩⟩⟩⟩⟩⟩⟩⟩⟩⟩⟩⟩⟩
theorem lw_p48 : lw_okq (⟨"StrongCellsModel", "choices", "(I)I"⟩, 16) := ⟨⟨by decide +kernel, by decide +kernel⟩, List.mem_of_getElem? (i := 639) (by decide +kernel), List.mem_of_getElem? (i := 859) (by decide +kernel), List.mem_of_getElem? (i := 860) (by decide +kernel)⟩
theorem lw_p49 : lw_okq (⟨"StrongCellsModel", "regularChoice", "(II)I"⟩, 16) := ⟨⟨by decide +kernel, by decide +kernel⟩, List.mem_of_getElem? (i := 639) (by decide +kernel), List.mem_of_getElem? (i := 863) (by decide +kernel), List.mem_of_getElem? (i := 864) (by decide +kernel)⟩
theorem lw_p50 : lw_okq (⟨"StrongCellsModel", "isAct", "(I)Z"⟩, 16) := ⟨⟨by decide +kernel, by decide +kernel⟩, List.mem_of_getElem? (i := 639) (by decide +kernel), List.mem_of_getElem? (i := 871) (by decide +kernel), List.mem_of_getElem? (i := 872) (by decide +kernel)⟩
theorem lw_p51 : lw_okq (⟨"StrongCellsModel", "goThrough", "(IZ)I"⟩, 16) := ⟨⟨by decide +kernel, by decide +kernel⟩, List.mem_of_getElem? (i := 639) (by decide +kernel), List.mem_of_getElem? (i := 880) (by decide +kernel), List.mem_of_getElem? (i := 881) (by decide +kernel)⟩
theorem lw_p52 : lw_okq (⟨"StrongCellsModel", "copyRow", "(II)V"⟩, 16) := ⟨⟨by decide +kernel, by decide +kernel⟩, List.mem_of_getElem? (i := 639) (by decide +kernel), List.mem_of_getElem? (i := 884) (by decide +kernel), List.mem_of_getElem? (i := 885) (by decide +kernel)⟩
theorem lw_p53 : lw_okq (⟨"StrongCellsModel", "isAnyUnderWay", "()Z"⟩, 16) := ⟨⟨by decide +kernel, by decide +kernel⟩, List.mem_of_getElem? (i := 639) (by decide +kernel), List.mem_of_getElem? (i := 888) (by decide +kernel), List.mem_of_getElem? (i := 889) (by decide +kernel)⟩
theorem lw_p54 : lw_okq (⟨"StrongCellsModel", "count", "(I)V"⟩, 16) := ⟨⟨by decide +kernel, by decide +kernel⟩, List.mem_of_getElem? (i := 639) (by decide +kernel), List.mem_of_getElem? (i := 892) (by decide +kernel), List.mem_of_getElem? (i := 893) (by decide +kernel)⟩
theorem lw_p55 : lw_okq (⟨"StrongCellsModel", "findStep", "(I)Z"⟩, 16) := ⟨⟨by decide +kernel, by decide +kernel⟩, List.mem_of_getElem? (i := 639) (by decide +kernel), List.mem_of_getElem? (i := 896) (by decide +kernel), List.mem_of_getElem? (i := 897) (by decide +kernel)⟩
theorem lw_p56 : lw_okq (⟨"StrongCellsModel", "stepNow", "(II)V"⟩, 16) := ⟨⟨by decide +kernel, by decide +kernel⟩, List.mem_of_getElem? (i := 639) (by decide +kernel), List.mem_of_getElem? (i := 900) (by decide +kernel), List.mem_of_getElem? (i := 901) (by decide +kernel)⟩
theorem lw_p57 : lw_okq (⟨"StrongCellsModel", "end", "(II)V"⟩, 16) := ⟨⟨by decide +kernel, by decide +kernel⟩, List.mem_of_getElem? (i := 639) (by decide +kernel), List.mem_of_getElem? (i := 904) (by decide +kernel), List.mem_of_getElem? (i := 905) (by decide +kernel)⟩
theorem lw_p58 : lw_okq (⟨"StrongCellsModel", "beginAccess", "(I)V"⟩, 16) := ⟨⟨by decide +kernel, by decide +kernel⟩, List.mem_of_getElem? (i := 639) (by decide +kernel), List.mem_of_getElem? (i := 908) (by decide +kernel), List.mem_of_getElem? (i := 909) (by decide +kernel)⟩
theorem lw_p59 : lw_okq (⟨"StrongCellsModel", "numberOf", "(I)I"⟩, 16) := ⟨⟨by decide +kernel, by decide +kernel⟩, List.mem_of_getElem? (i := 639) (by decide +kernel), List.mem_of_getElem? (i := 912) (by decide +kernel), List.mem_of_getElem? (i := 913) (by decide +kernel)⟩
theorem lw_p60 : lw_okq (⟨"StrongCellsModel", "stampOf", "(I)I"⟩, 16) := ⟨⟨by decide +kernel, by decide +kernel⟩, List.mem_of_getElem? (i := 639) (by decide +kernel), List.mem_of_getElem? (i := 916) (by decide +kernel), List.mem_of_getElem? (i := 917) (by decide +kernel)⟩
theorem lw_p61 : lw_okq (⟨"StrongCellsModel", "note", "(II)V"⟩, 16) := ⟨⟨by decide +kernel, by decide +kernel⟩, List.mem_of_getElem? (i := 639) (by decide +kernel), List.mem_of_getElem? (i := 920) (by decide +kernel), List.mem_of_getElem? (i := 921) (by decide +kernel)⟩
theorem lw_p62 : lw_okq (⟨"StrongCellsModel", "endWrite", "(I)V"⟩, 16) := ⟨⟨by decide +kernel, by decide +kernel⟩, List.mem_of_getElem? (i := 639) (by decide +kernel), List.mem_of_getElem? (i := 924) (by decide +kernel), List.mem_of_getElem? (i := 925) (by decide +kernel)⟩
theorem lw_p63 : lw_okq (⟨"StrongCellsModel", "hold", "(II)V"⟩, 16) := ⟨⟨by decide +kernel, by decide +kernel⟩, List.mem_of_getElem? (i := 639) (by decide +kernel), List.mem_of_getElem? (i := 928) (by decide +kernel), List.mem_of_getElem? (i := 929) (by decide +kernel)⟩
def lw_privs_4 : List (MethodName × Nat) := [(⟨"StrongCellsModel", "choices", "(I)I"⟩, 16), (⟨"StrongCellsModel", "regularChoice", "(II)I"⟩, 16), (⟨"StrongCellsModel", "isAct", "(I)Z"⟩, 16), (⟨"StrongCellsModel", "goThrough", "(IZ)I"⟩, 16), (⟨"StrongCellsModel", "copyRow", "(II)V"⟩, 16), (⟨"StrongCellsModel", "isAnyUnderWay", "()Z"⟩, 16), (⟨"StrongCellsModel", "count", "(I)V"⟩, 16), (⟨"StrongCellsModel", "findStep", "(I)Z"⟩, 16), (⟨"StrongCellsModel", "stepNow", "(II)V"⟩, 16), (⟨"StrongCellsModel", "end", "(II)V"⟩, 16), (⟨"StrongCellsModel", "beginAccess", "(I)V"⟩, 16), (⟨"StrongCellsModel", "numberOf", "(I)I"⟩, 16), (⟨"StrongCellsModel", "stampOf", "(I)I"⟩, 16), (⟨"StrongCellsModel", "note", "(II)V"⟩, 16), (⟨"StrongCellsModel", "endWrite", "(I)V"⟩, 16), (⟨"StrongCellsModel", "hold", "(II)V"⟩, 16)]
theorem lw_r4 : ∀ q ∈ lw_privs_4, lw_okq q := List.forall_mem_cons.mpr ⟨lw_p48, List.forall_mem_cons.mpr ⟨lw_p49, List.forall_mem_cons.mpr ⟨lw_p50, List.forall_mem_cons.mpr ⟨lw_p51, List.forall_mem_cons.mpr ⟨lw_p52, List.forall_mem_cons.mpr ⟨lw_p53, List.forall_mem_cons.mpr ⟨lw_p54, List.forall_mem_cons.mpr ⟨lw_p55, List.forall_mem_cons.mpr ⟨lw_p56, List.forall_mem_cons.mpr ⟨lw_p57, List.forall_mem_cons.mpr ⟨lw_p58, List.forall_mem_cons.mpr ⟨lw_p59, List.forall_mem_cons.mpr ⟨lw_p60, List.forall_mem_cons.mpr ⟨lw_p61, List.forall_mem_cons.mpr ⟨lw_p62, List.forall_mem_cons.mpr ⟨lw_p63, fun _ h => absurd h List.not_mem_nil⟩⟩⟩⟩⟩⟩⟩⟩⟩⟩⟩⟩⟩⟩⟩⟩
theorem lw_p64 : lw_okq (⟨"StrongCellsModel", "endRead", "(II)V"⟩, 16) := ⟨⟨by decide +kernel, by decide +kernel⟩, List.mem_of_getElem? (i := 639) (by decide +kernel), List.mem_of_getElem? (i := 932) (by decide +kernel), List.mem_of_getElem? (i := 933) (by decide +kernel)⟩
theorem lw_p65 : lw_okq (⟨"StrongCellsModel", "gotten", "(II)I"⟩, 16) := ⟨⟨by decide +kernel, by decide +kernel⟩, List.mem_of_getElem? (i := 639) (by decide +kernel), List.mem_of_getElem? (i := 936) (by decide +kernel), List.mem_of_getElem? (i := 937) (by decide +kernel)⟩
theorem lw_p66 : lw_okq (⟨"StrongCellsModel", "readOn", "(III)I"⟩, 16) := ⟨⟨by decide +kernel, by decide +kernel⟩, List.mem_of_getElem? (i := 639) (by decide +kernel), List.mem_of_getElem? (i := 940) (by decide +kernel), List.mem_of_getElem? (i := 941) (by decide +kernel)⟩
theorem lw_p67 : lw_okq (⟨"StrongCellsModel", "remember", "()V"⟩, 16) := ⟨⟨by decide +kernel, by decide +kernel⟩, List.mem_of_getElem? (i := 639) (by decide +kernel), List.mem_of_getElem? (i := 961) (by decide +kernel), List.mem_of_getElem? (i := 962) (by decide +kernel)⟩
theorem lw_p68 : lw_okq (⟨"StrongCellsModel", "beginAct", "(II)I"⟩, 16) := ⟨⟨by decide +kernel, by decide +kernel⟩, List.mem_of_getElem? (i := 639) (by decide +kernel), List.mem_of_getElem? (i := 965) (by decide +kernel), List.mem_of_getElem? (i := 966) (by decide +kernel)⟩
theorem lw_p69 : lw_okq (⟨"StrongCellsModel", "accessesOf", "(II)I"⟩, 16) := ⟨⟨by decide +kernel, by decide +kernel⟩, List.mem_of_getElem? (i := 639) (by decide +kernel), List.mem_of_getElem? (i := 969) (by decide +kernel), List.mem_of_getElem? (i := 970) (by decide +kernel)⟩
theorem lw_p70 : lw_okq (⟨"StrongCellsModel", "firstWay", "()I"⟩, 16) := ⟨⟨by decide +kernel, by decide +kernel⟩, List.mem_of_getElem? (i := 639) (by decide +kernel), List.mem_of_getElem? (i := 981) (by decide +kernel), List.mem_of_getElem? (i := 982) (by decide +kernel)⟩
theorem lw_p71 : lw_okq (⟨"StrongCellsModel", "chance", "()V"⟩, 16) := ⟨⟨by decide +kernel, by decide +kernel⟩, List.mem_of_getElem? (i := 639) (by decide +kernel), List.mem_of_getElem? (i := 994) (by decide +kernel), List.mem_of_getElem? (i := 995) (by decide +kernel)⟩
theorem lw_p72 : lw_okq (⟨"StrongCellsModel", "draw", "(I)I"⟩, 16) := ⟨⟨by decide +kernel, by decide +kernel⟩, List.mem_of_getElem? (i := 639) (by decide +kernel), List.mem_of_getElem? (i := 998) (by decide +kernel), List.mem_of_getElem? (i := 999) (by decide +kernel)⟩
def lw_privs_5 : List (MethodName × Nat) := [(⟨"StrongCellsModel", "endRead", "(II)V"⟩, 16), (⟨"StrongCellsModel", "gotten", "(II)I"⟩, 16), (⟨"StrongCellsModel", "readOn", "(III)I"⟩, 16), (⟨"StrongCellsModel", "remember", "()V"⟩, 16), (⟨"StrongCellsModel", "beginAct", "(II)I"⟩, 16), (⟨"StrongCellsModel", "accessesOf", "(II)I"⟩, 16), (⟨"StrongCellsModel", "firstWay", "()I"⟩, 16), (⟨"StrongCellsModel", "chance", "()V"⟩, 16), (⟨"StrongCellsModel", "draw", "(I)I"⟩, 16)]
theorem lw_r5 : ∀ q ∈ lw_privs_5, lw_okq q := List.forall_mem_cons.mpr ⟨lw_p64, List.forall_mem_cons.mpr ⟨lw_p65, List.forall_mem_cons.mpr ⟨lw_p66, List.forall_mem_cons.mpr ⟨lw_p67, List.forall_mem_cons.mpr ⟨lw_p68, List.forall_mem_cons.mpr ⟨lw_p69, List.forall_mem_cons.mpr ⟨lw_p70, List.forall_mem_cons.mpr ⟨lw_p71, List.forall_mem_cons.mpr ⟨lw_p72, fun _ h => absurd h List.not_mem_nil⟩⟩⟩⟩⟩⟩⟩⟩⟩
def lw_privs : List (MethodName × Nat) := lw_privs_1 ++ (lw_privs_2 ++ (lw_privs_3 ++ (lw_privs_4 ++ (lw_privs_5))))
def lw_tbl : List Cond := k2_sels lw_privs ++ tables_1
theorem lw_privs_ok : ∀ q ∈ lw_privs, lw_okq q := by
  show ∀ q ∈ lw_privs_1 ++ (lw_privs_2 ++ (lw_privs_3 ++ (lw_privs_4 ++ (lw_privs_5)))), lw_okq q
  exact List.forall_mem_append.mpr ⟨lw_r1, List.forall_mem_append.mpr ⟨lw_r2, List.forall_mem_append.mpr ⟨lw_r3, List.forall_mem_append.mpr ⟨lw_r4, lw_r5⟩⟩⟩⟩
end
section
/-! THE TABLES: methods, classes, links of the program, by number; each row with the place of its word in lw_tbl -/
def wsAll : List Cond := lw_tbl.filter goodWord
theorem wsAll_of {i : Nat} {w : Cond} (h : lw_tbl[i]? = some w) (g : goodWord w = true) : w ∈ wsAll := List.mem_filter.mpr ⟨List.mem_of_getElem? h, g⟩
theorem wsAll_and {i : Nat} {w : Cond} (h : (decide (lw_tbl[i]? = some w) && goodWord w) = true) : w ∈ wsAll := by rw [Bool.and_eq_true] at h; exact wsAll_of (of_decide_eq_true h.1) h.2
def mNl : List MethodName := [⟨"java/util/Arrays", "fill", "([II)V"⟩, ⟨"StrongCells$Book", "add", "(II)V"⟩, ⟨"StrongCells$Book", "empty", "()V"⟩, ⟨"StrongCells$Book", "<init>", "()V"⟩, ⟨"StrongCells$Book", "isFull", "()Z"⟩, ⟨"StrongCells$Book", "size", "()I"⟩, ⟨"StrongCellsModel", "between", "(II)I"⟩, ⟨"StrongCellsModel", "cells", "()I"⟩, ⟨"StrongCellsModel", "copyRow", "(II)V"⟩, ⟨"StrongCellsModel", "draw", "(I)I"⟩, ⟨"StrongCellsModel", "in", "(JJJ)Z"⟩, ⟨"StrongCellsModel", "of", "(II)I"⟩, ⟨"StrongCellsModel", "ofAct", "(II)I"⟩, ⟨"StrongCellsModel", "seed", "(I)I"⟩, ⟨"StrongCellsModel", "tear", "()I"⟩, ⟨"StrongCellsModel", "writers", "()I"⟩, ⟨"StrongCells$Deeds", "forget", "()V"⟩, ⟨"StrongCells$Deeds", "size", "()I"⟩, ⟨"StrongCells$Images", "isImage", "(I)Z"⟩, ⟨"StrongCells$Judge", "<init>", "()V"⟩, ⟨"StrongCells$Plan", "canBeBuilt", "(IIII)Z"⟩, ⟨"StrongCells$Plan", "tellingCell", "(III)I"⟩, ⟨"StrongCells$Shelf", "<init>", "(I)V"⟩, ⟨"StrongCells$Shelf", "put", "(ILStrongCells$State;)V"⟩, ⟨"StrongCells$Shelf", "take", "(ILStrongCells$State;)V"⟩, ⟨"StrongCells$State", "get", "(I)I"⟩, ⟨"StrongCells$State", "held", "(I)I"⟩, ⟨"StrongCells$State", "<init>", "()V"⟩, ⟨"StrongCells$State", "of", "(II)I"⟩, ⟨"StrongCells$State", "ofAct", "(II)I"⟩, ⟨"StrongCells$State", "put", "(II)V"⟩, ⟨"StrongCells$Ways", "forget", "()V"⟩, ⟨"StrongCells$Ways", "open", "(I)V"⟩, ⟨"StrongCells", "draw", "(I)I"⟩, ⟨"StrongCells", "seed", "(I)I"⟩, ⟨"StrongCells", "within", "(III)Z"⟩, ⟨"StrongCells$Book", "firstWrong", "(LStrongCells$State;)I"⟩, ⟨"StrongCellsModel", "cell", "(I)I"⟩, ⟨"StrongCellsModel", "goBack", "(I)I"⟩, ⟨"StrongCellsModel", "hold", "(II)V"⟩, ⟨"StrongCellsModel", "isAct", "(I)Z"⟩, ⟨"StrongCellsModel", "isWriter", "(I)Z"⟩, ⟨"StrongCellsModel", "its", "(II)I"⟩, ⟨"StrongCellsModel", "keep", "(I)I"⟩, ⟨"StrongCellsModel", "layAnew", "(IIIII)V"⟩, ⟨"StrongCellsModel", "ofRow", "(III)I"⟩, ⟨"StrongCellsModel", "processes", "()I"⟩, ⟨"StrongCellsModel", "remember", "()V"⟩, ⟨"StrongCellsModel", "stampMost", "()I"⟩, ⟨"StrongCellsModel", "undo", "(I)I"⟩, ⟨"StrongCells$Deeds", "add", "(LStrongCells$State;)V"⟩, ⟨"StrongCells$Deeds", "<init>", "()V"⟩, ⟨"StrongCells$Deeds", "takeBack", "(ILStrongCells$State;)V"⟩, ⟨"StrongCells$Images", "<init>", "()V"⟩, ⟨"StrongCells$Images", "restore", "(ILStrongCells$State;)V"⟩, ⟨"StrongCells$Images", "seedOf", "(I)I"⟩, ⟨"StrongCells$Images", "store", "(ILStrongCells$State;I)V"⟩, ⟨"StrongCells$Judge", "hasEnded", "(LStrongCells$State;I)Z"⟩, ⟨"StrongCells$Judge", "isAhead", "(LStrongCells$State;II)Z"⟩, ⟨"StrongCells$Judge", "isRead", "(LStrongCells$State;I)Z"⟩, ⟨"StrongCells$Plan", "bitWritten", "(LStrongCells$State;II)I"⟩, ⟨"StrongCells$Plan", "relayCell", "(III)I"⟩, ⟨"StrongCells$Plan", "valueWritten", "(LStrongCells$State;I)I"⟩, ⟨"StrongCells$State", "hasRoom", "()Z"⟩, ⟨"StrongCells$State", "hold", "(II)V"⟩, ⟨"StrongCells$State", "isPoor", "()Z"⟩, ⟨"StrongCells$State", "isUnderWay", "(I)Z"⟩, ⟨"StrongCells$State", "isWriter", "(I)Z"⟩, ⟨"StrongCells$State", "set", "(III)V"⟩, ⟨"StrongCells$State", "setAct", "(III)V"⟩, ⟨"StrongCells$State", "shape", "(IIIII)V"⟩, ⟨"StrongCells$State", "writers", "()I"⟩, ⟨"StrongCells$Steps", "numberGot", "(LStrongCells$State;II)I"⟩, ⟨"StrongCells$Steps", "tick", "(LStrongCells$State;)V"⟩, ⟨"StrongCells$Ways", "goFirstBad", "(LStrongCells$State;)V"⟩, ⟨"StrongCells$Ways", "<init>", "()V"⟩, ⟨"StrongCells", "isAct", "(I)Z"⟩, ⟨"StrongCells", "tear", "()I"⟩, ⟨"StrongCellsModel", "accessesOf", "(II)I"⟩, ⟨"StrongCellsModel", "build", "(IIIII)I"⟩, ⟨"StrongCellsModel", "cellOfReader", "(I)I"⟩, ⟨"StrongCellsModel", "clear", "()I"⟩, ⟨"StrongCellsModel", "end", "(II)V"⟩, ⟨"StrongCellsModel", "<init>", "()V"⟩, ⟨"StrongCellsModel", "isEnded", "(II)Z"⟩, ⟨"StrongCellsModel", "isProcess", "(I)Z"⟩, ⟨"StrongCellsModel", "isUnderWay", "(I)Z"⟩, ⟨"StrongCellsModel", "isWriting", "(I)Z"⟩, ⟨"StrongCellsModel", "isWritten", "(I)Z"⟩, ⟨"StrongCellsModel", "note", "(II)V"⟩, ⟨"StrongCellsModel", "readOn", "(III)I"⟩, ⟨"StrongCellsModel", "regularChoice", "(II)I"⟩, ⟨"StrongCellsModel", "stampOf", "(I)I"⟩, ⟨"StrongCellsModel", "value", "(I)I"⟩, ⟨"StrongCellsModel", "write", "(II)I"⟩, ⟨"StrongCellsModel", "wrong", "()I"⟩, ⟨"StrongCells$Images", "isKept", "(I)Z"⟩, ⟨"StrongCells$Judge", "actsAhead", "(LStrongCells$State;I)I"⟩, ⟨"StrongCells$Judge", "endedActs", "(LStrongCells$State;I)I"⟩, ⟨"StrongCells$Judge", "judges", "(LStrongCells$State;I)Z"⟩, ⟨"StrongCells$Judge", "lastWriting", "(LStrongCells$State;I)I"⟩, ⟨"StrongCells$Judge", "putBehind", "(LStrongCells$State;II)V"⟩, ⟨"StrongCells$Judge", "writesBeside", "(LStrongCells$State;II)Z"⟩, ⟨"StrongCells$Plan", "accesses", "(LStrongCells$State;II)I"⟩, ⟨"StrongCells$Plan", "cellOf", "(LStrongCells$State;IIZ)I"⟩, ⟨"StrongCells$Plan", "numberWritten", "(LStrongCells$State;II)I"⟩, ⟨"StrongCells$Plan", "reads", "(LStrongCells$State;II)Z"⟩, ⟨"StrongCells$State", "cells", "()I"⟩, ⟨"StrongCells$State", "processes", "()I"⟩, ⟨"StrongCells$State", "restart", "()V"⟩, ⟨"StrongCells$State", "underWay", "()I"⟩, ⟨"StrongCells$Steps", "addNumber", "(LStrongCells$State;II)V"⟩, ⟨"StrongCells$Steps", "choices", "(LStrongCells$State;I)I"⟩, ⟨"StrongCells$Steps", "finish", "(LStrongCells$State;I)V"⟩, ⟨"StrongCells$Steps", "keepAtStart", "(LStrongCells$State;II)V"⟩, ⟨"StrongCells$Steps", "keepNewer", "(LStrongCells$State;II)V"⟩, ⟨"StrongCells$Steps", "putDown", "(LStrongCells$State;I)V"⟩, ⟨"StrongCells", "keep", "(I)I"⟩, ⟨"StrongCells", "remember", "()V"⟩, ⟨"StrongCells", "undo", "(I)I"⟩, ⟨"StrongCells", "write", "(II)I"⟩, ⟨"StrongCellsModel", "beginAct", "(II)I"⟩, ⟨"StrongCellsModel", "cellOfWriter", "(I)I"⟩, ⟨"StrongCellsModel", "isAhead", "(III)Z"⟩, ⟨"StrongCellsModel", "isAnyUnderWay", "()Z"⟩, ⟨"StrongCellsModel", "isBegun", "(I)Z"⟩, ⟨"StrongCellsModel", "isJudged", "(I)Z"⟩, ⟨"StrongCellsModel", "numberOfWriting", "(I)I"⟩, ⟨"StrongCellsModel", "underWay", "()I"⟩, ⟨"StrongCells$Judge", "atomic", "(LStrongCells$State;)Z"⟩, ⟨"StrongCells$Judge", "toldBeside", "(LStrongCells$State;II)Z"⟩, ⟨"StrongCells$Judge", "toldLast", "(LStrongCells$State;I)Z"⟩, ⟨"StrongCells$Plan", "prepare", "(LStrongCells$State;I)V"⟩, ⟨"StrongCells$State", "greatestStamp", "()I"⟩, ⟨"StrongCells$Steps", "beginAccess", "(LStrongCells$State;I)V"⟩, ⟨"StrongCells$Steps", "takeIn", "(LStrongCells$State;II)V"⟩, ⟨"StrongCells", "beginAnew", "()V"⟩, ⟨"StrongCells", "cell", "(I)I"⟩, ⟨"StrongCells", "goBack", "(I)I"⟩, ⟨"StrongCells", "<init>", "()V"⟩, ⟨"StrongCells", "isProcess", "(I)Z"⟩, ⟨"StrongCellsModel", "begin", "(II)I"⟩, ⟨"StrongCellsModel", "cellOf", "(I)I"⟩, ⟨"StrongCellsModel", "choices", "(I)I"⟩, ⟨"StrongCellsModel", "lastOf", "(I)I"⟩, ⟨"StrongCellsModel", "mayFollow", "(IIII)Z"⟩, ⟨"StrongCellsModel", "overlaps", "(II)Z"⟩, ⟨"StrongCells$Judge", "greatestSource", "(LStrongCells$State;I)I"⟩, ⟨"StrongCells$Judge", "leastSource", "(LStrongCells$State;I)I"⟩, ⟨"StrongCells$Judge", "safe", "(LStrongCells$State;I)Z"⟩, ⟨"StrongCells$Steps", "go", "(LStrongCells$State;II)Z"⟩, ⟨"StrongCells$Steps", "start", "(LStrongCells$State;II)I"⟩, ⟨"StrongCells$Ways", "countWay", "(ILStrongCells$Judge;)V"⟩, ⟨"StrongCells", "build", "(IIIII)I"⟩, ⟨"StrongCells", "clear", "()I"⟩, ⟨"StrongCells", "process", "(II)I"⟩, ⟨"StrongCellsModel", "findStep", "(I)Z"⟩, ⟨"StrongCellsModel", "gotten", "(II)I"⟩, ⟨"StrongCellsModel", "isAtomic", "(I)Z"⟩, ⟨"StrongCellsModel", "lastValue", "(I)I"⟩, ⟨"StrongCellsModel", "numberOf", "(I)I"⟩, ⟨"StrongCellsModel", "process", "(II)I"⟩, ⟨"StrongCells$Judge", "firstNotSafe", "(LStrongCells$State;)I"⟩, ⟨"StrongCells$Judge", "goesBack", "(LStrongCells$State;I)Z"⟩, ⟨"StrongCells$Judge", "regular", "(LStrongCells$State;I)Z"⟩, ⟨"StrongCells$Ways", "goOn", "(I)Z"⟩, ⟨"StrongCells", "begin", "(II)I"⟩, ⟨"StrongCells", "driftOnce", "()V"⟩, ⟨"StrongCells", "run", "()I"⟩, ⟨"StrongCells", "step", "(II)I"⟩, ⟨"StrongCellsModel", "beginAccess", "(I)V"⟩, ⟨"StrongCellsModel", "count", "(I)V"⟩, ⟨"StrongCellsModel", "endRead", "(II)V"⟩, ⟨"StrongCellsModel", "endWrite", "(I)V"⟩, ⟨"StrongCellsModel", "isRegular", "(I)Z"⟩, ⟨"StrongCellsModel", "isSafe", "(I)Z"⟩, ⟨"StrongCellsModel", "mayHaveTold", "(IZ)I"⟩, ⟨"StrongCells$Judge", "firstGoingBack", "(LStrongCells$State;)I"⟩, ⟨"StrongCells$Judge", "firstNotRegular", "(LStrongCells$State;)I"⟩, ⟨"StrongCells$Ways", "goThrough", "(LStrongCells$State;LStrongCells$Judge;)V"⟩, ⟨"StrongCells", "act", "(II)I"⟩, ⟨"StrongCells", "drift", "(I)I"⟩, ⟨"StrongCellsModel", "act", "(II)I"⟩, ⟨"StrongCellsModel", "goesBack", "(I)Z"⟩, ⟨"StrongCellsModel", "stepNow", "(II)V"⟩, ⟨"StrongCells", "bad", "()I"⟩, ⟨"StrongCells", "told", "(I)I"⟩, ⟨"StrongCells", "ways", "(I)I"⟩, ⟨"StrongCellsModel", "chance", "()V"⟩, ⟨"StrongCellsModel", "firstRead", "(I)I"⟩, ⟨"StrongCellsModel", "firstWay", "()I"⟩, ⟨"StrongCellsModel", "goThrough", "(IZ)I"⟩, ⟨"StrongCellsModel", "step", "(II)I"⟩, ⟨"StrongCellsModel", "bad", "()I"⟩, ⟨"StrongCellsModel", "drift", "(I)I"⟩, ⟨"StrongCellsModel", "run", "()I"⟩, ⟨"StrongCellsModel", "toldMore", "(I)I"⟩, ⟨"StrongCellsModel", "ways", "(I)I"⟩, ⟨"StrongCellsModel", "told", "(I)I"⟩, ⟨"StrongCellsLaw", "law", "([I)Z"⟩]
def mN (m : Nat) : MethodName := mNl.getD m ⟨"", "", ""⟩
def mBl : List ByteArray := [prog_15_method_103_code, prog_2_method_5_code, prog_2_method_4_code, prog_2_method_1_code, prog_2_method_3_code, prog_2_method_2_code, prog_12_method_16_code, prog_12_method_8_code, prog_12_method_3_code, prog_12_method_74_code, prog_12_method_2_code, prog_12_method_9_code, prog_12_method_10_code, prog_12_method_80_code, prog_12_method_79_code, prog_12_method_6_code, prog_3_method_3_code, prog_3_method_2_code, prog_4_method_2_code, prog_5_method_1_code, prog_6_method_2_code, prog_6_method_11_code, prog_7_method_1_code, prog_7_method_2_code, prog_7_method_3_code, prog_8_method_2_code, prog_8_method_4_code, prog_8_method_1_code, prog_8_method_8_code, prog_8_method_6_code, prog_8_method_3_code, prog_10_method_2_code, prog_10_method_5_code, prog_1_method_26_code, prog_1_method_17_code, prog_1_method_20_code, prog_2_method_6_code, prog_12_method_62_code, prog_12_method_82_code, prog_12_method_30_code, prog_12_method_65_code, prog_12_method_13_code, prog_12_method_11_code, prog_12_method_81_code, prog_12_method_5_code, prog_12_method_36_code, prog_12_method_7_code, prog_12_method_4_code, prog_12_method_58_code, prog_12_method_77_code, prog_3_method_4_code, prog_3_method_1_code, prog_3_method_5_code, prog_4_method_1_code, prog_4_method_6_code, prog_4_method_4_code, prog_4_method_5_code, prog_5_method_13_code, prog_5_method_14_code, prog_5_method_12_code, prog_6_method_9_code, prog_6_method_10_code, prog_6_method_8_code, prog_8_method_19_code, prog_8_method_5_code, prog_8_method_12_code, prog_8_method_17_code, prog_8_method_14_code, prog_8_method_9_code, prog_8_method_7_code, prog_8_method_10_code, prog_8_method_13_code, prog_9_method_9_code, prog_9_method_5_code, prog_10_method_3_code, prog_10_method_1_code, prog_1_method_22_code, prog_1_method_16_code, prog_12_method_14_code, prog_12_method_68_code, prog_12_method_17_code, prog_12_method_69_code, prog_12_method_29_code, prog_12_method_1_code, prog_12_method_37_code, prog_12_method_63_code, prog_12_method_23_code, prog_12_method_15_code, prog_12_method_39_code, prog_12_method_22_code, prog_12_method_31_code, prog_12_method_26_code, prog_12_method_20_code, prog_12_method_12_code, prog_12_method_78_code, prog_12_method_59_code, prog_4_method_3_code, prog_5_method_11_code, prog_5_method_10_code, prog_5_method_2_code, prog_5_method_16_code, prog_5_method_9_code, prog_5_method_15_code, prog_6_method_3_code, prog_6_method_6_code, prog_6_method_7_code, prog_6_method_5_code, prog_8_method_16_code, prog_8_method_15_code, prog_8_method_11_code, prog_8_method_18_code, prog_9_method_8_code, prog_9_method_3_code, prog_9_method_13_code, prog_9_method_6_code, prog_9_method_12_code, prog_9_method_10_code, prog_1_method_18_code, prog_1_method_24_code, prog_1_method_14_code, prog_1_method_15_code, prog_12_method_35_code, prog_12_method_18_code, prog_12_method_38_code, prog_12_method_52_code, prog_12_method_24_code, prog_12_method_43_code, prog_12_method_46_code, prog_12_method_57_code, prog_5_method_8_code, prog_5_method_18_code, prog_5_method_17_code, prog_6_method_4_code, prog_8_method_20_code, prog_9_method_7_code, prog_9_method_11_code, prog_1_method_23_code, prog_1_method_3_code, prog_1_method_19_code, prog_1_method_1_code, prog_1_method_21_code, prog_12_method_70_code, prog_12_method_19_code, prog_12_method_27_code, prog_12_method_41_code, prog_12_method_50_code, prog_12_method_40_code, prog_5_method_19_code, prog_5_method_20_code, prog_5_method_3_code, prog_9_method_4_code, prog_9_method_2_code, prog_10_method_6_code, prog_1_method_7_code, prog_1_method_8_code, prog_1_method_4_code, prog_12_method_54_code, prog_12_method_28_code, prog_12_method_51_code, prog_12_method_42_code, prog_12_method_21_code, prog_12_method_64_code, prog_5_method_5_code, prog_5_method_21_code, prog_5_method_4_code, prog_10_method_7_code, prog_1_method_9_code, prog_1_method_25_code, prog_1_method_11_code, prog_1_method_10_code, prog_12_method_25_code, prog_12_method_53_code, prog_12_method_32_code, prog_12_method_33_code, prog_12_method_45_code, prog_12_method_44_code, prog_12_method_47_code, prog_5_method_7_code, prog_5_method_6_code, prog_10_method_4_code, prog_1_method_5_code, prog_1_method_13_code, prog_12_method_66_code, prog_12_method_48_code, prog_12_method_34_code, prog_1_method_12_code, prog_1_method_2_code, prog_1_method_6_code, prog_12_method_75_code, prog_12_method_49_code, prog_12_method_56_code, prog_12_method_55_code, prog_12_method_71_code, prog_12_method_73_code, prog_12_method_76_code, prog_12_method_72_code, prog_12_method_60_code, prog_12_method_67_code, prog_12_method_61_code, code]
def mB (m : Nat) : ByteArray := mBl.getD m ⟨#[]⟩
def mLl : List Nat := [4, 3, 1, 1, 1, 1, 4, 2, 4, 2, 6, 3, 3, 3, 2, 1, 1, 1, 2, 1, 4, 3, 2, 3, 3, 2, 3, 1, 4, 4, 3, 1, 2, 2, 3, 3, 3, 2, 2, 3, 2, 2, 3, 2, 7, 4, 1, 2, 3, 3, 2, 1, 3, 1, 3, 2, 4, 2, 4, 2, 3, 4, 2, 1, 3, 1, 2, 2, 4, 4, 6, 1, 5, 1, 2, 1, 2, 2, 5, 8, 4, 2, 4, 1, 3, 2, 2, 3, 2, 3, 5, 9, 2, 2, 3, 2, 2, 4, 4, 3, 4, 5, 3, 6, 5, 5, 4, 1, 1, 2, 3, 5, 2, 3, 6, 3, 3, 2, 1, 2, 3, 5, 4, 4, 3, 2, 2, 4, 3, 6, 3, 3, 4, 3, 6, 5, 1, 2, 2, 1, 2, 3, 2, 2, 5, 7, 3, 3, 3, 4, 4, 4, 3, 6, 2, 3, 2, 3, 8, 3, 2, 4, 3, 5, 3, 4, 3, 3, 4, 3, 6, 3, 6, 2, 4, 4, 6, 3, 3, 5, 4, 3, 3, 5, 4, 2, 2, 2, 3, 3, 3, 6, 3, 2, 3, 1, 2, 3, 2, 4]
def mL (m : Nat) : Nat := mLl.getD m 0
def mRl : List (Option FieldType) := [none, none, none, none, some .boolean, some .int, some .int, some .int, none, some .int, some .boolean, some .int, some .int, some .int, some .int, some .int, none, some .int, some .boolean, none, some .boolean, some .int, none, none, none, some .int, some .int, none, some .int, some .int, none, none, none, some .int, some .int, some .boolean, some .int, some .int, some .int, none, some .boolean, some .boolean, some .int, some .int, none, some .int, some .int, none, some .int, some .int, none, none, none, none, none, some .int, none, some .boolean, some .boolean, some .boolean, some .int, some .int, some .int, some .boolean, none, some .boolean, some .boolean, some .boolean, none, none, none, some .int, some .int, none, none, none, some .boolean, some .int, some .int, some .int, some .int, some .int, none, none, some .boolean, some .boolean, some .boolean, some .boolean, some .boolean, none, some .int, some .int, some .int, some .int, some .int, some .int, some .boolean, some .int, some .int, some .boolean, some .int, none, some .boolean, some .int, some .int, some .int, some .boolean, some .int, some .int, none, some .int, none, some .int, none, none, none, none, some .int, none, some .int, some .int, some .int, some .int, some .boolean, some .boolean, some .boolean, some .boolean, some .int, some .int, some .boolean, some .boolean, some .boolean, none, some .int, none, none, none, some .int, some .int, none, some .boolean, some .int, some .int, some .int, some .int, some .boolean, some .boolean, some .int, some .int, some .boolean, some .boolean, some .int, none, some .int, some .int, some .int, some .boolean, some .int, some .boolean, some .int, some .int, some .int, some .int, some .boolean, some .boolean, some .boolean, some .int, none, some .int, some .int, none, none, none, none, some .boolean, some .boolean, some .int, some .int, some .int, none, some .int, some .int, some .int, some .boolean, none, some .int, some .int, some .int, none, some .int, some .int, some .int, some .int, some .int, some .int, some .int, some .int, some .int, some .int, some .boolean]
def mR (m : Nat) : Option FieldType := mRl.getD m none
def codT : List (Nat × Nat) := [(0, 337), (1, 666), (2, 674), (3, 220), (4, 662), (5, 405), (6, 930), (7, 789), (8, 959), (9, 1073), (10, 889), (11, 724), (12, 821), (13, 1094), (14, 1090), (15, 785), (16, 576), (17, 415), (18, 686), (19, 112), (20, 567), (21, 545), (22, 131), (23, 460), (24, 472), (25, 251), (26, 400), (27, 100), (28, 310), (29, 328), (30, 239), (31, 580), (32, 467), (33, 642), (34, 678), (35, 284), (36, 409), (37, 886), (38, 1102), (39, 1003), (40, 946), (41, 910), (42, 801), (43, 1098), (44, 720), (45, 817), (46, 781), (47, 1036), (48, 877), (49, 1081), (50, 603), (51, 187), (52, 653), (53, 205), (54, 708), (55, 704), (56, 690), (57, 324), (58, 334), (59, 344), (60, 538), (61, 542), (62, 534), (63, 594), (64, 255), (65, 506), (66, 306), (67, 527), (68, 247), (69, 556), (70, 235), (71, 293), (72, 499), (73, 559), (74, 630), (75, 125), (76, 444), (77, 670), (78, 1044), (79, 1019), (80, 926), (81, 1027), (82, 979), (83, 715), (84, 813), (85, 898), (86, 797), (87, 922), (88, 841), (89, 995), (90, 1015), (91, 938), (92, 991), (93, 918), (94, 1086), (95, 881), (96, 700), (97, 331), (98, 321), (99, 352), (100, 363), (101, 341), (102, 366), (103, 610), (104, 531), (105, 548), (106, 522), (107, 297), (108, 289), (109, 243), (110, 302), (111, 496), (112, 433), (113, 551), (114, 613), (115, 509), (116, 513), (117, 682), (118, 599), (119, 649), (120, 658), (121, 1040), (122, 914), (123, 829), (124, 963), (125, 902), (126, 837), (127, 873), (128, 793), (129, 314), (130, 380), (131, 360), (132, 517), (133, 395), (134, 491), (135, 502), (136, 572), (137, 419), (138, 696), (139, 92), (140, 429), (141, 1031), (142, 906), (143, 934), (144, 853), (145, 825), (146, 857), (147, 377), (148, 391), (149, 357), (150, 488), (151, 607), (152, 477), (153, 564), (154, 584), (155, 425), (156, 971), (157, 1011), (158, 809), (159, 849), (160, 987), (161, 894), (162, 348), (163, 388), (164, 374), (165, 483), (166, 588), (167, 638), (168, 622), (169, 617), (170, 983), (171, 967), (172, 1007), (173, 999), (174, 861), (175, 845), (176, 869), (177, 384), (178, 370), (179, 456), (180, 440), (181, 634), (182, 942), (183, 865), (184, 975), (185, 626), (186, 281), (187, 452), (188, 1069), (189, 833), (190, 1056), (191, 955), (192, 1048), (193, 1060), (194, 1064), (195, 1052), (196, 805), (197, 950), (198, 777)]
set_option maxRecDepth 40000 in
theorem cod_0 : Cond.code (mN 0) (mB 0) (mL 0) (mR 0) ∈ lw_tbl := List.mem_append_right _ (List.mem_append_right _ (List.mem_append_left _ (List.mem_of_getElem? (i := 24) (rfl : tables_1_2[24]? = some (Cond.code (mN 0) (mB 0) (mL 0) (mR 0))))))
set_option maxRecDepth 40000 in
theorem cod_1 : Cond.code (mN 1) (mB 1) (mL 1) (mR 1) ∈ lw_tbl := List.mem_append_right _ (List.mem_append_right _ (List.mem_append_right _ (List.mem_append_left _ (List.mem_of_getElem? (i := 113) (rfl : tables_1_3[113]? = some (Cond.code (mN 1) (mB 1) (mL 1) (mR 1)))))))
set_option maxRecDepth 40000 in
theorem cod_2 : Cond.code (mN 2) (mB 2) (mL 2) (mR 2) ∈ lw_tbl := List.mem_append_right _ (List.mem_append_right _ (List.mem_append_right _ (List.mem_append_left _ (List.mem_of_getElem? (i := 121) (rfl : tables_1_3[121]? = some (Cond.code (mN 2) (mB 2) (mL 2) (mR 2)))))))
set_option maxRecDepth 40000 in
theorem cod_3 : Cond.code (mN 3) (mB 3) (mL 3) (mR 3) ∈ lw_tbl := List.mem_append_right _ (List.mem_append_left _ (List.mem_of_getElem? (i := 147) (rfl : tables_1_1[147]? = some (Cond.code (mN 3) (mB 3) (mL 3) (mR 3)))))
set_option maxRecDepth 40000 in
theorem cod_4 : Cond.code (mN 4) (mB 4) (mL 4) (mR 4) ∈ lw_tbl := List.mem_append_right _ (List.mem_append_right _ (List.mem_append_right _ (List.mem_append_left _ (List.mem_of_getElem? (i := 109) (rfl : tables_1_3[109]? = some (Cond.code (mN 4) (mB 4) (mL 4) (mR 4)))))))
set_option maxRecDepth 40000 in
theorem cod_5 : Cond.code (mN 5) (mB 5) (mL 5) (mR 5) ∈ lw_tbl := List.mem_append_right _ (List.mem_append_right _ (List.mem_append_left _ (List.mem_of_getElem? (i := 92) (rfl : tables_1_2[92]? = some (Cond.code (mN 5) (mB 5) (mL 5) (mR 5))))))
set_option maxRecDepth 40000 in
theorem cod_6 : Cond.code (mN 6) (mB 6) (mL 6) (mR 6) ∈ lw_tbl := List.mem_append_right _ (List.mem_append_right _ (List.mem_append_right _ (List.mem_append_right _ (List.mem_append_left _ (List.mem_of_getElem? (i := 137) (rfl : tables_1_4[137]? = some (Cond.code (mN 6) (mB 6) (mL 6) (mR 6))))))))
set_option maxRecDepth 40000 in
theorem cod_7 : Cond.code (mN 7) (mB 7) (mL 7) (mR 7) ∈ lw_tbl := List.mem_append_right _ (List.mem_append_right _ (List.mem_append_right _ (List.mem_append_left _ (List.mem_of_getElem? (i := 236) (rfl : tables_1_3[236]? = some (Cond.code (mN 7) (mB 7) (mL 7) (mR 7)))))))
set_option maxRecDepth 40000 in
theorem cod_8 : Cond.code (mN 8) (mB 8) (mL 8) (mR 8) ∈ lw_tbl := List.mem_append_right _ (List.mem_append_right _ (List.mem_append_right _ (List.mem_append_right _ (List.mem_append_left _ (List.mem_of_getElem? (i := 166) (rfl : tables_1_4[166]? = some (Cond.code (mN 8) (mB 8) (mL 8) (mR 8))))))))
set_option maxRecDepth 40000 in
theorem cod_9 : Cond.code (mN 9) (mB 9) (mL 9) (mR 9) ∈ lw_tbl := List.mem_append_right _ (List.mem_append_right _ (List.mem_append_right _ (List.mem_append_right _ (List.mem_append_right _ (List.mem_of_getElem? (i := 40) (rfl : tables_1_5[40]? = some (Cond.code (mN 9) (mB 9) (mL 9) (mR 9))))))))
set_option maxRecDepth 40000 in
theorem cod_10 : Cond.code (mN 10) (mB 10) (mL 10) (mR 10) ∈ lw_tbl := List.mem_append_right _ (List.mem_append_right _ (List.mem_append_right _ (List.mem_append_right _ (List.mem_append_left _ (List.mem_of_getElem? (i := 96) (rfl : tables_1_4[96]? = some (Cond.code (mN 10) (mB 10) (mL 10) (mR 10))))))))
set_option maxRecDepth 40000 in
theorem cod_11 : Cond.code (mN 11) (mB 11) (mL 11) (mR 11) ∈ lw_tbl := List.mem_append_right _ (List.mem_append_right _ (List.mem_append_right _ (List.mem_append_left _ (List.mem_of_getElem? (i := 171) (rfl : tables_1_3[171]? = some (Cond.code (mN 11) (mB 11) (mL 11) (mR 11)))))))
set_option maxRecDepth 40000 in
theorem cod_12 : Cond.code (mN 12) (mB 12) (mL 12) (mR 12) ∈ lw_tbl := List.mem_append_right _ (List.mem_append_right _ (List.mem_append_right _ (List.mem_append_right _ (List.mem_append_left _ (List.mem_of_getElem? (i := 28) (rfl : tables_1_4[28]? = some (Cond.code (mN 12) (mB 12) (mL 12) (mR 12))))))))
set_option maxRecDepth 40000 in
theorem cod_13 : Cond.code (mN 13) (mB 13) (mL 13) (mR 13) ∈ lw_tbl := List.mem_append_right _ (List.mem_append_right _ (List.mem_append_right _ (List.mem_append_right _ (List.mem_append_right _ (List.mem_of_getElem? (i := 61) (rfl : tables_1_5[61]? = some (Cond.code (mN 13) (mB 13) (mL 13) (mR 13))))))))
set_option maxRecDepth 40000 in
theorem cod_14 : Cond.code (mN 14) (mB 14) (mL 14) (mR 14) ∈ lw_tbl := List.mem_append_right _ (List.mem_append_right _ (List.mem_append_right _ (List.mem_append_right _ (List.mem_append_right _ (List.mem_of_getElem? (i := 57) (rfl : tables_1_5[57]? = some (Cond.code (mN 14) (mB 14) (mL 14) (mR 14))))))))
set_option maxRecDepth 40000 in
theorem cod_15 : Cond.code (mN 15) (mB 15) (mL 15) (mR 15) ∈ lw_tbl := List.mem_append_right _ (List.mem_append_right _ (List.mem_append_right _ (List.mem_append_left _ (List.mem_of_getElem? (i := 232) (rfl : tables_1_3[232]? = some (Cond.code (mN 15) (mB 15) (mL 15) (mR 15)))))))
set_option maxRecDepth 40000 in
theorem cod_16 : Cond.code (mN 16) (mB 16) (mL 16) (mR 16) ∈ lw_tbl := List.mem_append_right _ (List.mem_append_right _ (List.mem_append_right _ (List.mem_append_left _ (List.mem_of_getElem? (i := 23) (rfl : tables_1_3[23]? = some (Cond.code (mN 16) (mB 16) (mL 16) (mR 16)))))))
set_option maxRecDepth 40000 in
theorem cod_17 : Cond.code (mN 17) (mB 17) (mL 17) (mR 17) ∈ lw_tbl := List.mem_append_right _ (List.mem_append_right _ (List.mem_append_left _ (List.mem_of_getElem? (i := 102) (rfl : tables_1_2[102]? = some (Cond.code (mN 17) (mB 17) (mL 17) (mR 17))))))
set_option maxRecDepth 40000 in
theorem cod_18 : Cond.code (mN 18) (mB 18) (mL 18) (mR 18) ∈ lw_tbl := List.mem_append_right _ (List.mem_append_right _ (List.mem_append_right _ (List.mem_append_left _ (List.mem_of_getElem? (i := 133) (rfl : tables_1_3[133]? = some (Cond.code (mN 18) (mB 18) (mL 18) (mR 18)))))))
set_option maxRecDepth 40000 in
theorem cod_19 : Cond.code (mN 19) (mB 19) (mL 19) (mR 19) ∈ lw_tbl := List.mem_append_right _ (List.mem_append_left _ (List.mem_of_getElem? (i := 39) (rfl : tables_1_1[39]? = some (Cond.code (mN 19) (mB 19) (mL 19) (mR 19)))))
set_option maxRecDepth 40000 in
theorem cod_20 : Cond.code (mN 20) (mB 20) (mL 20) (mR 20) ∈ lw_tbl := List.mem_append_right _ (List.mem_append_right _ (List.mem_append_right _ (List.mem_append_left _ (List.mem_of_getElem? (i := 14) (rfl : tables_1_3[14]? = some (Cond.code (mN 20) (mB 20) (mL 20) (mR 20)))))))
set_option maxRecDepth 40000 in
theorem cod_21 : Cond.code (mN 21) (mB 21) (mL 21) (mR 21) ∈ lw_tbl := List.mem_append_right _ (List.mem_append_right _ (List.mem_append_left _ (List.mem_of_getElem? (i := 232) (rfl : tables_1_2[232]? = some (Cond.code (mN 21) (mB 21) (mL 21) (mR 21))))))
set_option maxRecDepth 40000 in
theorem cod_22 : Cond.code (mN 22) (mB 22) (mL 22) (mR 22) ∈ lw_tbl := List.mem_append_right _ (List.mem_append_left _ (List.mem_of_getElem? (i := 58) (rfl : tables_1_1[58]? = some (Cond.code (mN 22) (mB 22) (mL 22) (mR 22)))))
set_option maxRecDepth 40000 in
theorem cod_23 : Cond.code (mN 23) (mB 23) (mL 23) (mR 23) ∈ lw_tbl := List.mem_append_right _ (List.mem_append_right _ (List.mem_append_left _ (List.mem_of_getElem? (i := 147) (rfl : tables_1_2[147]? = some (Cond.code (mN 23) (mB 23) (mL 23) (mR 23))))))
set_option maxRecDepth 40000 in
theorem cod_24 : Cond.code (mN 24) (mB 24) (mL 24) (mR 24) ∈ lw_tbl := List.mem_append_right _ (List.mem_append_right _ (List.mem_append_left _ (List.mem_of_getElem? (i := 159) (rfl : tables_1_2[159]? = some (Cond.code (mN 24) (mB 24) (mL 24) (mR 24))))))
set_option maxRecDepth 40000 in
theorem cod_25 : Cond.code (mN 25) (mB 25) (mL 25) (mR 25) ∈ lw_tbl := List.mem_append_right _ (List.mem_append_left _ (List.mem_of_getElem? (i := 178) (rfl : tables_1_1[178]? = some (Cond.code (mN 25) (mB 25) (mL 25) (mR 25)))))
set_option maxRecDepth 40000 in
theorem cod_26 : Cond.code (mN 26) (mB 26) (mL 26) (mR 26) ∈ lw_tbl := List.mem_append_right _ (List.mem_append_right _ (List.mem_append_left _ (List.mem_of_getElem? (i := 87) (rfl : tables_1_2[87]? = some (Cond.code (mN 26) (mB 26) (mL 26) (mR 26))))))
set_option maxRecDepth 40000 in
theorem cod_27 : Cond.code (mN 27) (mB 27) (mL 27) (mR 27) ∈ lw_tbl := List.mem_append_right _ (List.mem_append_left _ (List.mem_of_getElem? (i := 27) (rfl : tables_1_1[27]? = some (Cond.code (mN 27) (mB 27) (mL 27) (mR 27)))))
set_option maxRecDepth 40000 in
theorem cod_28 : Cond.code (mN 28) (mB 28) (mL 28) (mR 28) ∈ lw_tbl := List.mem_append_right _ (List.mem_append_left _ (List.mem_of_getElem? (i := 237) (rfl : tables_1_1[237]? = some (Cond.code (mN 28) (mB 28) (mL 28) (mR 28)))))
set_option maxRecDepth 40000 in
theorem cod_29 : Cond.code (mN 29) (mB 29) (mL 29) (mR 29) ∈ lw_tbl := List.mem_append_right _ (List.mem_append_right _ (List.mem_append_left _ (List.mem_of_getElem? (i := 15) (rfl : tables_1_2[15]? = some (Cond.code (mN 29) (mB 29) (mL 29) (mR 29))))))
set_option maxRecDepth 40000 in
theorem cod_30 : Cond.code (mN 30) (mB 30) (mL 30) (mR 30) ∈ lw_tbl := List.mem_append_right _ (List.mem_append_left _ (List.mem_of_getElem? (i := 166) (rfl : tables_1_1[166]? = some (Cond.code (mN 30) (mB 30) (mL 30) (mR 30)))))
set_option maxRecDepth 40000 in
theorem cod_31 : Cond.code (mN 31) (mB 31) (mL 31) (mR 31) ∈ lw_tbl := List.mem_append_right _ (List.mem_append_right _ (List.mem_append_right _ (List.mem_append_left _ (List.mem_of_getElem? (i := 27) (rfl : tables_1_3[27]? = some (Cond.code (mN 31) (mB 31) (mL 31) (mR 31)))))))
set_option maxRecDepth 40000 in
theorem cod_32 : Cond.code (mN 32) (mB 32) (mL 32) (mR 32) ∈ lw_tbl := List.mem_append_right _ (List.mem_append_right _ (List.mem_append_left _ (List.mem_of_getElem? (i := 154) (rfl : tables_1_2[154]? = some (Cond.code (mN 32) (mB 32) (mL 32) (mR 32))))))
set_option maxRecDepth 40000 in
theorem cod_33 : Cond.code (mN 33) (mB 33) (mL 33) (mR 33) ∈ lw_tbl := List.mem_append_right _ (List.mem_append_right _ (List.mem_append_right _ (List.mem_append_left _ (List.mem_of_getElem? (i := 89) (rfl : tables_1_3[89]? = some (Cond.code (mN 33) (mB 33) (mL 33) (mR 33)))))))
set_option maxRecDepth 40000 in
theorem cod_34 : Cond.code (mN 34) (mB 34) (mL 34) (mR 34) ∈ lw_tbl := List.mem_append_right _ (List.mem_append_right _ (List.mem_append_right _ (List.mem_append_left _ (List.mem_of_getElem? (i := 125) (rfl : tables_1_3[125]? = some (Cond.code (mN 34) (mB 34) (mL 34) (mR 34)))))))
set_option maxRecDepth 40000 in
theorem cod_35 : Cond.code (mN 35) (mB 35) (mL 35) (mR 35) ∈ lw_tbl := List.mem_append_right _ (List.mem_append_left _ (List.mem_of_getElem? (i := 211) (rfl : tables_1_1[211]? = some (Cond.code (mN 35) (mB 35) (mL 35) (mR 35)))))
set_option maxRecDepth 40000 in
theorem cod_36 : Cond.code (mN 36) (mB 36) (mL 36) (mR 36) ∈ lw_tbl := List.mem_append_right _ (List.mem_append_right _ (List.mem_append_left _ (List.mem_of_getElem? (i := 96) (rfl : tables_1_2[96]? = some (Cond.code (mN 36) (mB 36) (mL 36) (mR 36))))))
set_option maxRecDepth 40000 in
theorem cod_37 : Cond.code (mN 37) (mB 37) (mL 37) (mR 37) ∈ lw_tbl := List.mem_append_right _ (List.mem_append_right _ (List.mem_append_right _ (List.mem_append_right _ (List.mem_append_left _ (List.mem_of_getElem? (i := 93) (rfl : tables_1_4[93]? = some (Cond.code (mN 37) (mB 37) (mL 37) (mR 37))))))))
set_option maxRecDepth 40000 in
theorem cod_38 : Cond.code (mN 38) (mB 38) (mL 38) (mR 38) ∈ lw_tbl := List.mem_append_right _ (List.mem_append_right _ (List.mem_append_right _ (List.mem_append_right _ (List.mem_append_right _ (List.mem_of_getElem? (i := 69) (rfl : tables_1_5[69]? = some (Cond.code (mN 38) (mB 38) (mL 38) (mR 38))))))))
set_option maxRecDepth 40000 in
theorem cod_39 : Cond.code (mN 39) (mB 39) (mL 39) (mR 39) ∈ lw_tbl := List.mem_append_right _ (List.mem_append_right _ (List.mem_append_right _ (List.mem_append_right _ (List.mem_append_left _ (List.mem_of_getElem? (i := 210) (rfl : tables_1_4[210]? = some (Cond.code (mN 39) (mB 39) (mL 39) (mR 39))))))))
set_option maxRecDepth 40000 in
theorem cod_40 : Cond.code (mN 40) (mB 40) (mL 40) (mR 40) ∈ lw_tbl := List.mem_append_right _ (List.mem_append_right _ (List.mem_append_right _ (List.mem_append_right _ (List.mem_append_left _ (List.mem_of_getElem? (i := 153) (rfl : tables_1_4[153]? = some (Cond.code (mN 40) (mB 40) (mL 40) (mR 40))))))))
set_option maxRecDepth 40000 in
theorem cod_41 : Cond.code (mN 41) (mB 41) (mL 41) (mR 41) ∈ lw_tbl := List.mem_append_right _ (List.mem_append_right _ (List.mem_append_right _ (List.mem_append_right _ (List.mem_append_left _ (List.mem_of_getElem? (i := 117) (rfl : tables_1_4[117]? = some (Cond.code (mN 41) (mB 41) (mL 41) (mR 41))))))))
set_option maxRecDepth 40000 in
theorem cod_42 : Cond.code (mN 42) (mB 42) (mL 42) (mR 42) ∈ lw_tbl := List.mem_append_right _ (List.mem_append_right _ (List.mem_append_right _ (List.mem_append_right _ (List.mem_append_left _ (List.mem_of_getElem? (i := 8) (rfl : tables_1_4[8]? = some (Cond.code (mN 42) (mB 42) (mL 42) (mR 42))))))))
set_option maxRecDepth 40000 in
theorem cod_43 : Cond.code (mN 43) (mB 43) (mL 43) (mR 43) ∈ lw_tbl := List.mem_append_right _ (List.mem_append_right _ (List.mem_append_right _ (List.mem_append_right _ (List.mem_append_right _ (List.mem_of_getElem? (i := 65) (rfl : tables_1_5[65]? = some (Cond.code (mN 43) (mB 43) (mL 43) (mR 43))))))))
set_option maxRecDepth 40000 in
theorem cod_44 : Cond.code (mN 44) (mB 44) (mL 44) (mR 44) ∈ lw_tbl := List.mem_append_right _ (List.mem_append_right _ (List.mem_append_right _ (List.mem_append_left _ (List.mem_of_getElem? (i := 167) (rfl : tables_1_3[167]? = some (Cond.code (mN 44) (mB 44) (mL 44) (mR 44)))))))
set_option maxRecDepth 40000 in
theorem cod_45 : Cond.code (mN 45) (mB 45) (mL 45) (mR 45) ∈ lw_tbl := List.mem_append_right _ (List.mem_append_right _ (List.mem_append_right _ (List.mem_append_right _ (List.mem_append_left _ (List.mem_of_getElem? (i := 24) (rfl : tables_1_4[24]? = some (Cond.code (mN 45) (mB 45) (mL 45) (mR 45))))))))
set_option maxRecDepth 40000 in
theorem cod_46 : Cond.code (mN 46) (mB 46) (mL 46) (mR 46) ∈ lw_tbl := List.mem_append_right _ (List.mem_append_right _ (List.mem_append_right _ (List.mem_append_left _ (List.mem_of_getElem? (i := 228) (rfl : tables_1_3[228]? = some (Cond.code (mN 46) (mB 46) (mL 46) (mR 46)))))))
set_option maxRecDepth 40000 in
theorem cod_47 : Cond.code (mN 47) (mB 47) (mL 47) (mR 47) ∈ lw_tbl := List.mem_append_right _ (List.mem_append_right _ (List.mem_append_right _ (List.mem_append_right _ (List.mem_append_right _ (List.mem_of_getElem? (i := 3) (rfl : tables_1_5[3]? = some (Cond.code (mN 47) (mB 47) (mL 47) (mR 47))))))))
set_option maxRecDepth 40000 in
theorem cod_48 : Cond.code (mN 48) (mB 48) (mL 48) (mR 48) ∈ lw_tbl := List.mem_append_right _ (List.mem_append_right _ (List.mem_append_right _ (List.mem_append_right _ (List.mem_append_left _ (List.mem_of_getElem? (i := 84) (rfl : tables_1_4[84]? = some (Cond.code (mN 48) (mB 48) (mL 48) (mR 48))))))))
set_option maxRecDepth 40000 in
theorem cod_49 : Cond.code (mN 49) (mB 49) (mL 49) (mR 49) ∈ lw_tbl := List.mem_append_right _ (List.mem_append_right _ (List.mem_append_right _ (List.mem_append_right _ (List.mem_append_right _ (List.mem_of_getElem? (i := 48) (rfl : tables_1_5[48]? = some (Cond.code (mN 49) (mB 49) (mL 49) (mR 49))))))))
set_option maxRecDepth 40000 in
theorem cod_50 : Cond.code (mN 50) (mB 50) (mL 50) (mR 50) ∈ lw_tbl := List.mem_append_right _ (List.mem_append_right _ (List.mem_append_right _ (List.mem_append_left _ (List.mem_of_getElem? (i := 50) (rfl : tables_1_3[50]? = some (Cond.code (mN 50) (mB 50) (mL 50) (mR 50)))))))
set_option maxRecDepth 40000 in
theorem cod_51 : Cond.code (mN 51) (mB 51) (mL 51) (mR 51) ∈ lw_tbl := List.mem_append_right _ (List.mem_append_left _ (List.mem_of_getElem? (i := 114) (rfl : tables_1_1[114]? = some (Cond.code (mN 51) (mB 51) (mL 51) (mR 51)))))
set_option maxRecDepth 40000 in
theorem cod_52 : Cond.code (mN 52) (mB 52) (mL 52) (mR 52) ∈ lw_tbl := List.mem_append_right _ (List.mem_append_right _ (List.mem_append_right _ (List.mem_append_left _ (List.mem_of_getElem? (i := 100) (rfl : tables_1_3[100]? = some (Cond.code (mN 52) (mB 52) (mL 52) (mR 52)))))))
set_option maxRecDepth 40000 in
theorem cod_53 : Cond.code (mN 53) (mB 53) (mL 53) (mR 53) ∈ lw_tbl := List.mem_append_right _ (List.mem_append_left _ (List.mem_of_getElem? (i := 132) (rfl : tables_1_1[132]? = some (Cond.code (mN 53) (mB 53) (mL 53) (mR 53)))))
set_option maxRecDepth 40000 in
theorem cod_54 : Cond.code (mN 54) (mB 54) (mL 54) (mR 54) ∈ lw_tbl := List.mem_append_right _ (List.mem_append_right _ (List.mem_append_right _ (List.mem_append_left _ (List.mem_of_getElem? (i := 155) (rfl : tables_1_3[155]? = some (Cond.code (mN 54) (mB 54) (mL 54) (mR 54)))))))
set_option maxRecDepth 40000 in
theorem cod_55 : Cond.code (mN 55) (mB 55) (mL 55) (mR 55) ∈ lw_tbl := List.mem_append_right _ (List.mem_append_right _ (List.mem_append_right _ (List.mem_append_left _ (List.mem_of_getElem? (i := 151) (rfl : tables_1_3[151]? = some (Cond.code (mN 55) (mB 55) (mL 55) (mR 55)))))))
set_option maxRecDepth 40000 in
theorem cod_56 : Cond.code (mN 56) (mB 56) (mL 56) (mR 56) ∈ lw_tbl := List.mem_append_right _ (List.mem_append_right _ (List.mem_append_right _ (List.mem_append_left _ (List.mem_of_getElem? (i := 137) (rfl : tables_1_3[137]? = some (Cond.code (mN 56) (mB 56) (mL 56) (mR 56)))))))
set_option maxRecDepth 40000 in
theorem cod_57 : Cond.code (mN 57) (mB 57) (mL 57) (mR 57) ∈ lw_tbl := List.mem_append_right _ (List.mem_append_right _ (List.mem_append_left _ (List.mem_of_getElem? (i := 11) (rfl : tables_1_2[11]? = some (Cond.code (mN 57) (mB 57) (mL 57) (mR 57))))))
set_option maxRecDepth 40000 in
theorem cod_58 : Cond.code (mN 58) (mB 58) (mL 58) (mR 58) ∈ lw_tbl := List.mem_append_right _ (List.mem_append_right _ (List.mem_append_left _ (List.mem_of_getElem? (i := 21) (rfl : tables_1_2[21]? = some (Cond.code (mN 58) (mB 58) (mL 58) (mR 58))))))
set_option maxRecDepth 40000 in
theorem cod_59 : Cond.code (mN 59) (mB 59) (mL 59) (mR 59) ∈ lw_tbl := List.mem_append_right _ (List.mem_append_right _ (List.mem_append_left _ (List.mem_of_getElem? (i := 31) (rfl : tables_1_2[31]? = some (Cond.code (mN 59) (mB 59) (mL 59) (mR 59))))))
set_option maxRecDepth 40000 in
theorem cod_60 : Cond.code (mN 60) (mB 60) (mL 60) (mR 60) ∈ lw_tbl := List.mem_append_right _ (List.mem_append_right _ (List.mem_append_left _ (List.mem_of_getElem? (i := 225) (rfl : tables_1_2[225]? = some (Cond.code (mN 60) (mB 60) (mL 60) (mR 60))))))
set_option maxRecDepth 40000 in
theorem cod_61 : Cond.code (mN 61) (mB 61) (mL 61) (mR 61) ∈ lw_tbl := List.mem_append_right _ (List.mem_append_right _ (List.mem_append_left _ (List.mem_of_getElem? (i := 229) (rfl : tables_1_2[229]? = some (Cond.code (mN 61) (mB 61) (mL 61) (mR 61))))))
set_option maxRecDepth 40000 in
theorem cod_62 : Cond.code (mN 62) (mB 62) (mL 62) (mR 62) ∈ lw_tbl := List.mem_append_right _ (List.mem_append_right _ (List.mem_append_left _ (List.mem_of_getElem? (i := 221) (rfl : tables_1_2[221]? = some (Cond.code (mN 62) (mB 62) (mL 62) (mR 62))))))
set_option maxRecDepth 40000 in
theorem cod_63 : Cond.code (mN 63) (mB 63) (mL 63) (mR 63) ∈ lw_tbl := List.mem_append_right _ (List.mem_append_right _ (List.mem_append_right _ (List.mem_append_left _ (List.mem_of_getElem? (i := 41) (rfl : tables_1_3[41]? = some (Cond.code (mN 63) (mB 63) (mL 63) (mR 63)))))))
set_option maxRecDepth 40000 in
theorem cod_64 : Cond.code (mN 64) (mB 64) (mL 64) (mR 64) ∈ lw_tbl := List.mem_append_right _ (List.mem_append_left _ (List.mem_of_getElem? (i := 182) (rfl : tables_1_1[182]? = some (Cond.code (mN 64) (mB 64) (mL 64) (mR 64)))))
set_option maxRecDepth 40000 in
theorem cod_65 : Cond.code (mN 65) (mB 65) (mL 65) (mR 65) ∈ lw_tbl := List.mem_append_right _ (List.mem_append_right _ (List.mem_append_left _ (List.mem_of_getElem? (i := 193) (rfl : tables_1_2[193]? = some (Cond.code (mN 65) (mB 65) (mL 65) (mR 65))))))
set_option maxRecDepth 40000 in
theorem cod_66 : Cond.code (mN 66) (mB 66) (mL 66) (mR 66) ∈ lw_tbl := List.mem_append_right _ (List.mem_append_left _ (List.mem_of_getElem? (i := 233) (rfl : tables_1_1[233]? = some (Cond.code (mN 66) (mB 66) (mL 66) (mR 66)))))
set_option maxRecDepth 40000 in
theorem cod_67 : Cond.code (mN 67) (mB 67) (mL 67) (mR 67) ∈ lw_tbl := List.mem_append_right _ (List.mem_append_right _ (List.mem_append_left _ (List.mem_of_getElem? (i := 214) (rfl : tables_1_2[214]? = some (Cond.code (mN 67) (mB 67) (mL 67) (mR 67))))))
set_option maxRecDepth 40000 in
theorem cod_68 : Cond.code (mN 68) (mB 68) (mL 68) (mR 68) ∈ lw_tbl := List.mem_append_right _ (List.mem_append_left _ (List.mem_of_getElem? (i := 174) (rfl : tables_1_1[174]? = some (Cond.code (mN 68) (mB 68) (mL 68) (mR 68)))))
set_option maxRecDepth 40000 in
theorem cod_69 : Cond.code (mN 69) (mB 69) (mL 69) (mR 69) ∈ lw_tbl := List.mem_append_right _ (List.mem_append_right _ (List.mem_append_right _ (List.mem_append_left _ (List.mem_of_getElem? (i := 3) (rfl : tables_1_3[3]? = some (Cond.code (mN 69) (mB 69) (mL 69) (mR 69)))))))
set_option maxRecDepth 40000 in
theorem cod_70 : Cond.code (mN 70) (mB 70) (mL 70) (mR 70) ∈ lw_tbl := List.mem_append_right _ (List.mem_append_left _ (List.mem_of_getElem? (i := 162) (rfl : tables_1_1[162]? = some (Cond.code (mN 70) (mB 70) (mL 70) (mR 70)))))
set_option maxRecDepth 40000 in
theorem cod_71 : Cond.code (mN 71) (mB 71) (mL 71) (mR 71) ∈ lw_tbl := List.mem_append_right _ (List.mem_append_left _ (List.mem_of_getElem? (i := 220) (rfl : tables_1_1[220]? = some (Cond.code (mN 71) (mB 71) (mL 71) (mR 71)))))
set_option maxRecDepth 40000 in
theorem cod_72 : Cond.code (mN 72) (mB 72) (mL 72) (mR 72) ∈ lw_tbl := List.mem_append_right _ (List.mem_append_right _ (List.mem_append_left _ (List.mem_of_getElem? (i := 186) (rfl : tables_1_2[186]? = some (Cond.code (mN 72) (mB 72) (mL 72) (mR 72))))))
set_option maxRecDepth 40000 in
theorem cod_73 : Cond.code (mN 73) (mB 73) (mL 73) (mR 73) ∈ lw_tbl := List.mem_append_right _ (List.mem_append_right _ (List.mem_append_right _ (List.mem_append_left _ (List.mem_of_getElem? (i := 6) (rfl : tables_1_3[6]? = some (Cond.code (mN 73) (mB 73) (mL 73) (mR 73)))))))
set_option maxRecDepth 40000 in
theorem cod_74 : Cond.code (mN 74) (mB 74) (mL 74) (mR 74) ∈ lw_tbl := List.mem_append_right _ (List.mem_append_right _ (List.mem_append_right _ (List.mem_append_left _ (List.mem_of_getElem? (i := 77) (rfl : tables_1_3[77]? = some (Cond.code (mN 74) (mB 74) (mL 74) (mR 74)))))))
set_option maxRecDepth 40000 in
theorem cod_75 : Cond.code (mN 75) (mB 75) (mL 75) (mR 75) ∈ lw_tbl := List.mem_append_right _ (List.mem_append_left _ (List.mem_of_getElem? (i := 52) (rfl : tables_1_1[52]? = some (Cond.code (mN 75) (mB 75) (mL 75) (mR 75)))))
set_option maxRecDepth 40000 in
theorem cod_76 : Cond.code (mN 76) (mB 76) (mL 76) (mR 76) ∈ lw_tbl := List.mem_append_right _ (List.mem_append_right _ (List.mem_append_left _ (List.mem_of_getElem? (i := 131) (rfl : tables_1_2[131]? = some (Cond.code (mN 76) (mB 76) (mL 76) (mR 76))))))
set_option maxRecDepth 40000 in
theorem cod_77 : Cond.code (mN 77) (mB 77) (mL 77) (mR 77) ∈ lw_tbl := List.mem_append_right _ (List.mem_append_right _ (List.mem_append_right _ (List.mem_append_left _ (List.mem_of_getElem? (i := 117) (rfl : tables_1_3[117]? = some (Cond.code (mN 77) (mB 77) (mL 77) (mR 77)))))))
set_option maxRecDepth 40000 in
theorem cod_78 : Cond.code (mN 78) (mB 78) (mL 78) (mR 78) ∈ lw_tbl := List.mem_append_right _ (List.mem_append_right _ (List.mem_append_right _ (List.mem_append_right _ (List.mem_append_right _ (List.mem_of_getElem? (i := 11) (rfl : tables_1_5[11]? = some (Cond.code (mN 78) (mB 78) (mL 78) (mR 78))))))))
set_option maxRecDepth 40000 in
theorem cod_79 : Cond.code (mN 79) (mB 79) (mL 79) (mR 79) ∈ lw_tbl := List.mem_append_right _ (List.mem_append_right _ (List.mem_append_right _ (List.mem_append_right _ (List.mem_append_left _ (List.mem_of_getElem? (i := 226) (rfl : tables_1_4[226]? = some (Cond.code (mN 79) (mB 79) (mL 79) (mR 79))))))))
set_option maxRecDepth 40000 in
theorem cod_80 : Cond.code (mN 80) (mB 80) (mL 80) (mR 80) ∈ lw_tbl := List.mem_append_right _ (List.mem_append_right _ (List.mem_append_right _ (List.mem_append_right _ (List.mem_append_left _ (List.mem_of_getElem? (i := 133) (rfl : tables_1_4[133]? = some (Cond.code (mN 80) (mB 80) (mL 80) (mR 80))))))))
set_option maxRecDepth 40000 in
theorem cod_81 : Cond.code (mN 81) (mB 81) (mL 81) (mR 81) ∈ lw_tbl := List.mem_append_right _ (List.mem_append_right _ (List.mem_append_right _ (List.mem_append_right _ (List.mem_append_left _ (List.mem_of_getElem? (i := 234) (rfl : tables_1_4[234]? = some (Cond.code (mN 81) (mB 81) (mL 81) (mR 81))))))))
set_option maxRecDepth 40000 in
theorem cod_82 : Cond.code (mN 82) (mB 82) (mL 82) (mR 82) ∈ lw_tbl := List.mem_append_right _ (List.mem_append_right _ (List.mem_append_right _ (List.mem_append_right _ (List.mem_append_left _ (List.mem_of_getElem? (i := 186) (rfl : tables_1_4[186]? = some (Cond.code (mN 82) (mB 82) (mL 82) (mR 82))))))))
set_option maxRecDepth 40000 in
theorem cod_83 : Cond.code (mN 83) (mB 83) (mL 83) (mR 83) ∈ lw_tbl := List.mem_append_right _ (List.mem_append_right _ (List.mem_append_right _ (List.mem_append_left _ (List.mem_of_getElem? (i := 162) (rfl : tables_1_3[162]? = some (Cond.code (mN 83) (mB 83) (mL 83) (mR 83)))))))
set_option maxRecDepth 40000 in
theorem cod_84 : Cond.code (mN 84) (mB 84) (mL 84) (mR 84) ∈ lw_tbl := List.mem_append_right _ (List.mem_append_right _ (List.mem_append_right _ (List.mem_append_right _ (List.mem_append_left _ (List.mem_of_getElem? (i := 20) (rfl : tables_1_4[20]? = some (Cond.code (mN 84) (mB 84) (mL 84) (mR 84))))))))
set_option maxRecDepth 40000 in
theorem cod_85 : Cond.code (mN 85) (mB 85) (mL 85) (mR 85) ∈ lw_tbl := List.mem_append_right _ (List.mem_append_right _ (List.mem_append_right _ (List.mem_append_right _ (List.mem_append_left _ (List.mem_of_getElem? (i := 105) (rfl : tables_1_4[105]? = some (Cond.code (mN 85) (mB 85) (mL 85) (mR 85))))))))
set_option maxRecDepth 40000 in
theorem cod_86 : Cond.code (mN 86) (mB 86) (mL 86) (mR 86) ∈ lw_tbl := List.mem_append_right _ (List.mem_append_right _ (List.mem_append_right _ (List.mem_append_right _ (List.mem_append_left _ (List.mem_of_getElem? (i := 4) (rfl : tables_1_4[4]? = some (Cond.code (mN 86) (mB 86) (mL 86) (mR 86))))))))
set_option maxRecDepth 40000 in
theorem cod_87 : Cond.code (mN 87) (mB 87) (mL 87) (mR 87) ∈ lw_tbl := List.mem_append_right _ (List.mem_append_right _ (List.mem_append_right _ (List.mem_append_right _ (List.mem_append_left _ (List.mem_of_getElem? (i := 129) (rfl : tables_1_4[129]? = some (Cond.code (mN 87) (mB 87) (mL 87) (mR 87))))))))
set_option maxRecDepth 40000 in
theorem cod_88 : Cond.code (mN 88) (mB 88) (mL 88) (mR 88) ∈ lw_tbl := List.mem_append_right _ (List.mem_append_right _ (List.mem_append_right _ (List.mem_append_right _ (List.mem_append_left _ (List.mem_of_getElem? (i := 48) (rfl : tables_1_4[48]? = some (Cond.code (mN 88) (mB 88) (mL 88) (mR 88))))))))
set_option maxRecDepth 40000 in
theorem cod_89 : Cond.code (mN 89) (mB 89) (mL 89) (mR 89) ∈ lw_tbl := List.mem_append_right _ (List.mem_append_right _ (List.mem_append_right _ (List.mem_append_right _ (List.mem_append_left _ (List.mem_of_getElem? (i := 202) (rfl : tables_1_4[202]? = some (Cond.code (mN 89) (mB 89) (mL 89) (mR 89))))))))
set_option maxRecDepth 40000 in
theorem cod_90 : Cond.code (mN 90) (mB 90) (mL 90) (mR 90) ∈ lw_tbl := List.mem_append_right _ (List.mem_append_right _ (List.mem_append_right _ (List.mem_append_right _ (List.mem_append_left _ (List.mem_of_getElem? (i := 222) (rfl : tables_1_4[222]? = some (Cond.code (mN 90) (mB 90) (mL 90) (mR 90))))))))
set_option maxRecDepth 40000 in
theorem cod_91 : Cond.code (mN 91) (mB 91) (mL 91) (mR 91) ∈ lw_tbl := List.mem_append_right _ (List.mem_append_right _ (List.mem_append_right _ (List.mem_append_right _ (List.mem_append_left _ (List.mem_of_getElem? (i := 145) (rfl : tables_1_4[145]? = some (Cond.code (mN 91) (mB 91) (mL 91) (mR 91))))))))
set_option maxRecDepth 40000 in
theorem cod_92 : Cond.code (mN 92) (mB 92) (mL 92) (mR 92) ∈ lw_tbl := List.mem_append_right _ (List.mem_append_right _ (List.mem_append_right _ (List.mem_append_right _ (List.mem_append_left _ (List.mem_of_getElem? (i := 198) (rfl : tables_1_4[198]? = some (Cond.code (mN 92) (mB 92) (mL 92) (mR 92))))))))
set_option maxRecDepth 40000 in
theorem cod_93 : Cond.code (mN 93) (mB 93) (mL 93) (mR 93) ∈ lw_tbl := List.mem_append_right _ (List.mem_append_right _ (List.mem_append_right _ (List.mem_append_right _ (List.mem_append_left _ (List.mem_of_getElem? (i := 125) (rfl : tables_1_4[125]? = some (Cond.code (mN 93) (mB 93) (mL 93) (mR 93))))))))
set_option maxRecDepth 40000 in
theorem cod_94 : Cond.code (mN 94) (mB 94) (mL 94) (mR 94) ∈ lw_tbl := List.mem_append_right _ (List.mem_append_right _ (List.mem_append_right _ (List.mem_append_right _ (List.mem_append_right _ (List.mem_of_getElem? (i := 53) (rfl : tables_1_5[53]? = some (Cond.code (mN 94) (mB 94) (mL 94) (mR 94))))))))
set_option maxRecDepth 40000 in
theorem cod_95 : Cond.code (mN 95) (mB 95) (mL 95) (mR 95) ∈ lw_tbl := List.mem_append_right _ (List.mem_append_right _ (List.mem_append_right _ (List.mem_append_right _ (List.mem_append_left _ (List.mem_of_getElem? (i := 88) (rfl : tables_1_4[88]? = some (Cond.code (mN 95) (mB 95) (mL 95) (mR 95))))))))
set_option maxRecDepth 40000 in
theorem cod_96 : Cond.code (mN 96) (mB 96) (mL 96) (mR 96) ∈ lw_tbl := List.mem_append_right _ (List.mem_append_right _ (List.mem_append_right _ (List.mem_append_left _ (List.mem_of_getElem? (i := 147) (rfl : tables_1_3[147]? = some (Cond.code (mN 96) (mB 96) (mL 96) (mR 96)))))))
set_option maxRecDepth 40000 in
theorem cod_97 : Cond.code (mN 97) (mB 97) (mL 97) (mR 97) ∈ lw_tbl := List.mem_append_right _ (List.mem_append_right _ (List.mem_append_left _ (List.mem_of_getElem? (i := 18) (rfl : tables_1_2[18]? = some (Cond.code (mN 97) (mB 97) (mL 97) (mR 97))))))
set_option maxRecDepth 40000 in
theorem cod_98 : Cond.code (mN 98) (mB 98) (mL 98) (mR 98) ∈ lw_tbl := List.mem_append_right _ (List.mem_append_right _ (List.mem_append_left _ (List.mem_of_getElem? (i := 8) (rfl : tables_1_2[8]? = some (Cond.code (mN 98) (mB 98) (mL 98) (mR 98))))))
set_option maxRecDepth 40000 in
theorem cod_99 : Cond.code (mN 99) (mB 99) (mL 99) (mR 99) ∈ lw_tbl := List.mem_append_right _ (List.mem_append_right _ (List.mem_append_left _ (List.mem_of_getElem? (i := 39) (rfl : tables_1_2[39]? = some (Cond.code (mN 99) (mB 99) (mL 99) (mR 99))))))
set_option maxRecDepth 40000 in
theorem cod_100 : Cond.code (mN 100) (mB 100) (mL 100) (mR 100) ∈ lw_tbl := List.mem_append_right _ (List.mem_append_right _ (List.mem_append_left _ (List.mem_of_getElem? (i := 50) (rfl : tables_1_2[50]? = some (Cond.code (mN 100) (mB 100) (mL 100) (mR 100))))))
set_option maxRecDepth 40000 in
theorem cod_101 : Cond.code (mN 101) (mB 101) (mL 101) (mR 101) ∈ lw_tbl := List.mem_append_right _ (List.mem_append_right _ (List.mem_append_left _ (List.mem_of_getElem? (i := 28) (rfl : tables_1_2[28]? = some (Cond.code (mN 101) (mB 101) (mL 101) (mR 101))))))
set_option maxRecDepth 40000 in
theorem cod_102 : Cond.code (mN 102) (mB 102) (mL 102) (mR 102) ∈ lw_tbl := List.mem_append_right _ (List.mem_append_right _ (List.mem_append_left _ (List.mem_of_getElem? (i := 53) (rfl : tables_1_2[53]? = some (Cond.code (mN 102) (mB 102) (mL 102) (mR 102))))))
set_option maxRecDepth 40000 in
theorem cod_103 : Cond.code (mN 103) (mB 103) (mL 103) (mR 103) ∈ lw_tbl := List.mem_append_right _ (List.mem_append_right _ (List.mem_append_right _ (List.mem_append_left _ (List.mem_of_getElem? (i := 57) (rfl : tables_1_3[57]? = some (Cond.code (mN 103) (mB 103) (mL 103) (mR 103)))))))
set_option maxRecDepth 40000 in
theorem cod_104 : Cond.code (mN 104) (mB 104) (mL 104) (mR 104) ∈ lw_tbl := List.mem_append_right _ (List.mem_append_right _ (List.mem_append_left _ (List.mem_of_getElem? (i := 218) (rfl : tables_1_2[218]? = some (Cond.code (mN 104) (mB 104) (mL 104) (mR 104))))))
set_option maxRecDepth 40000 in
theorem cod_105 : Cond.code (mN 105) (mB 105) (mL 105) (mR 105) ∈ lw_tbl := List.mem_append_right _ (List.mem_append_right _ (List.mem_append_left _ (List.mem_of_getElem? (i := 235) (rfl : tables_1_2[235]? = some (Cond.code (mN 105) (mB 105) (mL 105) (mR 105))))))
set_option maxRecDepth 40000 in
theorem cod_106 : Cond.code (mN 106) (mB 106) (mL 106) (mR 106) ∈ lw_tbl := List.mem_append_right _ (List.mem_append_right _ (List.mem_append_left _ (List.mem_of_getElem? (i := 209) (rfl : tables_1_2[209]? = some (Cond.code (mN 106) (mB 106) (mL 106) (mR 106))))))
set_option maxRecDepth 40000 in
theorem cod_107 : Cond.code (mN 107) (mB 107) (mL 107) (mR 107) ∈ lw_tbl := List.mem_append_right _ (List.mem_append_left _ (List.mem_of_getElem? (i := 224) (rfl : tables_1_1[224]? = some (Cond.code (mN 107) (mB 107) (mL 107) (mR 107)))))
set_option maxRecDepth 40000 in
theorem cod_108 : Cond.code (mN 108) (mB 108) (mL 108) (mR 108) ∈ lw_tbl := List.mem_append_right _ (List.mem_append_left _ (List.mem_of_getElem? (i := 216) (rfl : tables_1_1[216]? = some (Cond.code (mN 108) (mB 108) (mL 108) (mR 108)))))
set_option maxRecDepth 40000 in
theorem cod_109 : Cond.code (mN 109) (mB 109) (mL 109) (mR 109) ∈ lw_tbl := List.mem_append_right _ (List.mem_append_left _ (List.mem_of_getElem? (i := 170) (rfl : tables_1_1[170]? = some (Cond.code (mN 109) (mB 109) (mL 109) (mR 109)))))
set_option maxRecDepth 40000 in
theorem cod_110 : Cond.code (mN 110) (mB 110) (mL 110) (mR 110) ∈ lw_tbl := List.mem_append_right _ (List.mem_append_left _ (List.mem_of_getElem? (i := 229) (rfl : tables_1_1[229]? = some (Cond.code (mN 110) (mB 110) (mL 110) (mR 110)))))
set_option maxRecDepth 40000 in
theorem cod_111 : Cond.code (mN 111) (mB 111) (mL 111) (mR 111) ∈ lw_tbl := List.mem_append_right _ (List.mem_append_right _ (List.mem_append_left _ (List.mem_of_getElem? (i := 183) (rfl : tables_1_2[183]? = some (Cond.code (mN 111) (mB 111) (mL 111) (mR 111))))))
set_option maxRecDepth 40000 in
theorem cod_112 : Cond.code (mN 112) (mB 112) (mL 112) (mR 112) ∈ lw_tbl := List.mem_append_right _ (List.mem_append_right _ (List.mem_append_left _ (List.mem_of_getElem? (i := 120) (rfl : tables_1_2[120]? = some (Cond.code (mN 112) (mB 112) (mL 112) (mR 112))))))
set_option maxRecDepth 40000 in
theorem cod_113 : Cond.code (mN 113) (mB 113) (mL 113) (mR 113) ∈ lw_tbl := List.mem_append_right _ (List.mem_append_right _ (List.mem_append_left _ (List.mem_of_getElem? (i := 238) (rfl : tables_1_2[238]? = some (Cond.code (mN 113) (mB 113) (mL 113) (mR 113))))))
set_option maxRecDepth 40000 in
theorem cod_114 : Cond.code (mN 114) (mB 114) (mL 114) (mR 114) ∈ lw_tbl := List.mem_append_right _ (List.mem_append_right _ (List.mem_append_right _ (List.mem_append_left _ (List.mem_of_getElem? (i := 60) (rfl : tables_1_3[60]? = some (Cond.code (mN 114) (mB 114) (mL 114) (mR 114)))))))
set_option maxRecDepth 40000 in
theorem cod_115 : Cond.code (mN 115) (mB 115) (mL 115) (mR 115) ∈ lw_tbl := List.mem_append_right _ (List.mem_append_right _ (List.mem_append_left _ (List.mem_of_getElem? (i := 196) (rfl : tables_1_2[196]? = some (Cond.code (mN 115) (mB 115) (mL 115) (mR 115))))))
set_option maxRecDepth 40000 in
theorem cod_116 : Cond.code (mN 116) (mB 116) (mL 116) (mR 116) ∈ lw_tbl := List.mem_append_right _ (List.mem_append_right _ (List.mem_append_left _ (List.mem_of_getElem? (i := 200) (rfl : tables_1_2[200]? = some (Cond.code (mN 116) (mB 116) (mL 116) (mR 116))))))
set_option maxRecDepth 40000 in
theorem cod_117 : Cond.code (mN 117) (mB 117) (mL 117) (mR 117) ∈ lw_tbl := List.mem_append_right _ (List.mem_append_right _ (List.mem_append_right _ (List.mem_append_left _ (List.mem_of_getElem? (i := 129) (rfl : tables_1_3[129]? = some (Cond.code (mN 117) (mB 117) (mL 117) (mR 117)))))))
set_option maxRecDepth 40000 in
theorem cod_118 : Cond.code (mN 118) (mB 118) (mL 118) (mR 118) ∈ lw_tbl := List.mem_append_right _ (List.mem_append_right _ (List.mem_append_right _ (List.mem_append_left _ (List.mem_of_getElem? (i := 46) (rfl : tables_1_3[46]? = some (Cond.code (mN 118) (mB 118) (mL 118) (mR 118)))))))
set_option maxRecDepth 40000 in
theorem cod_119 : Cond.code (mN 119) (mB 119) (mL 119) (mR 119) ∈ lw_tbl := List.mem_append_right _ (List.mem_append_right _ (List.mem_append_right _ (List.mem_append_left _ (List.mem_of_getElem? (i := 96) (rfl : tables_1_3[96]? = some (Cond.code (mN 119) (mB 119) (mL 119) (mR 119)))))))
set_option maxRecDepth 40000 in
theorem cod_120 : Cond.code (mN 120) (mB 120) (mL 120) (mR 120) ∈ lw_tbl := List.mem_append_right _ (List.mem_append_right _ (List.mem_append_right _ (List.mem_append_left _ (List.mem_of_getElem? (i := 105) (rfl : tables_1_3[105]? = some (Cond.code (mN 120) (mB 120) (mL 120) (mR 120)))))))
set_option maxRecDepth 40000 in
theorem cod_121 : Cond.code (mN 121) (mB 121) (mL 121) (mR 121) ∈ lw_tbl := List.mem_append_right _ (List.mem_append_right _ (List.mem_append_right _ (List.mem_append_right _ (List.mem_append_right _ (List.mem_of_getElem? (i := 7) (rfl : tables_1_5[7]? = some (Cond.code (mN 121) (mB 121) (mL 121) (mR 121))))))))
set_option maxRecDepth 40000 in
theorem cod_122 : Cond.code (mN 122) (mB 122) (mL 122) (mR 122) ∈ lw_tbl := List.mem_append_right _ (List.mem_append_right _ (List.mem_append_right _ (List.mem_append_right _ (List.mem_append_left _ (List.mem_of_getElem? (i := 121) (rfl : tables_1_4[121]? = some (Cond.code (mN 122) (mB 122) (mL 122) (mR 122))))))))
set_option maxRecDepth 40000 in
theorem cod_123 : Cond.code (mN 123) (mB 123) (mL 123) (mR 123) ∈ lw_tbl := List.mem_append_right _ (List.mem_append_right _ (List.mem_append_right _ (List.mem_append_right _ (List.mem_append_left _ (List.mem_of_getElem? (i := 36) (rfl : tables_1_4[36]? = some (Cond.code (mN 123) (mB 123) (mL 123) (mR 123))))))))
set_option maxRecDepth 40000 in
theorem cod_124 : Cond.code (mN 124) (mB 124) (mL 124) (mR 124) ∈ lw_tbl := List.mem_append_right _ (List.mem_append_right _ (List.mem_append_right _ (List.mem_append_right _ (List.mem_append_left _ (List.mem_of_getElem? (i := 170) (rfl : tables_1_4[170]? = some (Cond.code (mN 124) (mB 124) (mL 124) (mR 124))))))))
set_option maxRecDepth 40000 in
theorem cod_125 : Cond.code (mN 125) (mB 125) (mL 125) (mR 125) ∈ lw_tbl := List.mem_append_right _ (List.mem_append_right _ (List.mem_append_right _ (List.mem_append_right _ (List.mem_append_left _ (List.mem_of_getElem? (i := 109) (rfl : tables_1_4[109]? = some (Cond.code (mN 125) (mB 125) (mL 125) (mR 125))))))))
set_option maxRecDepth 40000 in
theorem cod_126 : Cond.code (mN 126) (mB 126) (mL 126) (mR 126) ∈ lw_tbl := List.mem_append_right _ (List.mem_append_right _ (List.mem_append_right _ (List.mem_append_right _ (List.mem_append_left _ (List.mem_of_getElem? (i := 44) (rfl : tables_1_4[44]? = some (Cond.code (mN 126) (mB 126) (mL 126) (mR 126))))))))
set_option maxRecDepth 40000 in
theorem cod_127 : Cond.code (mN 127) (mB 127) (mL 127) (mR 127) ∈ lw_tbl := List.mem_append_right _ (List.mem_append_right _ (List.mem_append_right _ (List.mem_append_right _ (List.mem_append_left _ (List.mem_of_getElem? (i := 80) (rfl : tables_1_4[80]? = some (Cond.code (mN 127) (mB 127) (mL 127) (mR 127))))))))
set_option maxRecDepth 40000 in
theorem cod_128 : Cond.code (mN 128) (mB 128) (mL 128) (mR 128) ∈ lw_tbl := List.mem_append_right _ (List.mem_append_right _ (List.mem_append_right _ (List.mem_append_right _ (List.mem_append_left _ (List.mem_of_getElem? (i := 0) (rfl : tables_1_4[0]? = some (Cond.code (mN 128) (mB 128) (mL 128) (mR 128))))))))
set_option maxRecDepth 40000 in
theorem cod_129 : Cond.code (mN 129) (mB 129) (mL 129) (mR 129) ∈ lw_tbl := List.mem_append_right _ (List.mem_append_right _ (List.mem_append_left _ (List.mem_of_getElem? (i := 1) (rfl : tables_1_2[1]? = some (Cond.code (mN 129) (mB 129) (mL 129) (mR 129))))))
set_option maxRecDepth 40000 in
theorem cod_130 : Cond.code (mN 130) (mB 130) (mL 130) (mR 130) ∈ lw_tbl := List.mem_append_right _ (List.mem_append_right _ (List.mem_append_left _ (List.mem_of_getElem? (i := 67) (rfl : tables_1_2[67]? = some (Cond.code (mN 130) (mB 130) (mL 130) (mR 130))))))
set_option maxRecDepth 40000 in
theorem cod_131 : Cond.code (mN 131) (mB 131) (mL 131) (mR 131) ∈ lw_tbl := List.mem_append_right _ (List.mem_append_right _ (List.mem_append_left _ (List.mem_of_getElem? (i := 47) (rfl : tables_1_2[47]? = some (Cond.code (mN 131) (mB 131) (mL 131) (mR 131))))))
set_option maxRecDepth 40000 in
theorem cod_132 : Cond.code (mN 132) (mB 132) (mL 132) (mR 132) ∈ lw_tbl := List.mem_append_right _ (List.mem_append_right _ (List.mem_append_left _ (List.mem_of_getElem? (i := 204) (rfl : tables_1_2[204]? = some (Cond.code (mN 132) (mB 132) (mL 132) (mR 132))))))
set_option maxRecDepth 40000 in
theorem cod_133 : Cond.code (mN 133) (mB 133) (mL 133) (mR 133) ∈ lw_tbl := List.mem_append_right _ (List.mem_append_right _ (List.mem_append_left _ (List.mem_of_getElem? (i := 82) (rfl : tables_1_2[82]? = some (Cond.code (mN 133) (mB 133) (mL 133) (mR 133))))))
set_option maxRecDepth 40000 in
theorem cod_134 : Cond.code (mN 134) (mB 134) (mL 134) (mR 134) ∈ lw_tbl := List.mem_append_right _ (List.mem_append_right _ (List.mem_append_left _ (List.mem_of_getElem? (i := 178) (rfl : tables_1_2[178]? = some (Cond.code (mN 134) (mB 134) (mL 134) (mR 134))))))
set_option maxRecDepth 40000 in
theorem cod_135 : Cond.code (mN 135) (mB 135) (mL 135) (mR 135) ∈ lw_tbl := List.mem_append_right _ (List.mem_append_right _ (List.mem_append_left _ (List.mem_of_getElem? (i := 189) (rfl : tables_1_2[189]? = some (Cond.code (mN 135) (mB 135) (mL 135) (mR 135))))))
set_option maxRecDepth 40000 in
theorem cod_136 : Cond.code (mN 136) (mB 136) (mL 136) (mR 136) ∈ lw_tbl := List.mem_append_right _ (List.mem_append_right _ (List.mem_append_right _ (List.mem_append_left _ (List.mem_of_getElem? (i := 19) (rfl : tables_1_3[19]? = some (Cond.code (mN 136) (mB 136) (mL 136) (mR 136)))))))
set_option maxRecDepth 40000 in
theorem cod_137 : Cond.code (mN 137) (mB 137) (mL 137) (mR 137) ∈ lw_tbl := List.mem_append_right _ (List.mem_append_right _ (List.mem_append_left _ (List.mem_of_getElem? (i := 106) (rfl : tables_1_2[106]? = some (Cond.code (mN 137) (mB 137) (mL 137) (mR 137))))))
set_option maxRecDepth 40000 in
theorem cod_138 : Cond.code (mN 138) (mB 138) (mL 138) (mR 138) ∈ lw_tbl := List.mem_append_right _ (List.mem_append_right _ (List.mem_append_right _ (List.mem_append_left _ (List.mem_of_getElem? (i := 143) (rfl : tables_1_3[143]? = some (Cond.code (mN 138) (mB 138) (mL 138) (mR 138)))))))
set_option maxRecDepth 40000 in
theorem cod_139 : Cond.code (mN 139) (mB 139) (mL 139) (mR 139) ∈ lw_tbl := List.mem_append_right _ (List.mem_append_left _ (List.mem_of_getElem? (i := 19) (rfl : tables_1_1[19]? = some (Cond.code (mN 139) (mB 139) (mL 139) (mR 139)))))
set_option maxRecDepth 40000 in
theorem cod_140 : Cond.code (mN 140) (mB 140) (mL 140) (mR 140) ∈ lw_tbl := List.mem_append_right _ (List.mem_append_right _ (List.mem_append_left _ (List.mem_of_getElem? (i := 116) (rfl : tables_1_2[116]? = some (Cond.code (mN 140) (mB 140) (mL 140) (mR 140))))))
set_option maxRecDepth 40000 in
theorem cod_141 : Cond.code (mN 141) (mB 141) (mL 141) (mR 141) ∈ lw_tbl := List.mem_append_right _ (List.mem_append_right _ (List.mem_append_right _ (List.mem_append_right _ (List.mem_append_left _ (List.mem_of_getElem? (i := 238) (rfl : tables_1_4[238]? = some (Cond.code (mN 141) (mB 141) (mL 141) (mR 141))))))))
set_option maxRecDepth 40000 in
theorem cod_142 : Cond.code (mN 142) (mB 142) (mL 142) (mR 142) ∈ lw_tbl := List.mem_append_right _ (List.mem_append_right _ (List.mem_append_right _ (List.mem_append_right _ (List.mem_append_left _ (List.mem_of_getElem? (i := 113) (rfl : tables_1_4[113]? = some (Cond.code (mN 142) (mB 142) (mL 142) (mR 142))))))))
set_option maxRecDepth 40000 in
theorem cod_143 : Cond.code (mN 143) (mB 143) (mL 143) (mR 143) ∈ lw_tbl := List.mem_append_right _ (List.mem_append_right _ (List.mem_append_right _ (List.mem_append_right _ (List.mem_append_left _ (List.mem_of_getElem? (i := 141) (rfl : tables_1_4[141]? = some (Cond.code (mN 143) (mB 143) (mL 143) (mR 143))))))))
set_option maxRecDepth 40000 in
theorem cod_144 : Cond.code (mN 144) (mB 144) (mL 144) (mR 144) ∈ lw_tbl := List.mem_append_right _ (List.mem_append_right _ (List.mem_append_right _ (List.mem_append_right _ (List.mem_append_left _ (List.mem_of_getElem? (i := 60) (rfl : tables_1_4[60]? = some (Cond.code (mN 144) (mB 144) (mL 144) (mR 144))))))))
set_option maxRecDepth 40000 in
theorem cod_145 : Cond.code (mN 145) (mB 145) (mL 145) (mR 145) ∈ lw_tbl := List.mem_append_right _ (List.mem_append_right _ (List.mem_append_right _ (List.mem_append_right _ (List.mem_append_left _ (List.mem_of_getElem? (i := 32) (rfl : tables_1_4[32]? = some (Cond.code (mN 145) (mB 145) (mL 145) (mR 145))))))))
set_option maxRecDepth 40000 in
theorem cod_146 : Cond.code (mN 146) (mB 146) (mL 146) (mR 146) ∈ lw_tbl := List.mem_append_right _ (List.mem_append_right _ (List.mem_append_right _ (List.mem_append_right _ (List.mem_append_left _ (List.mem_of_getElem? (i := 64) (rfl : tables_1_4[64]? = some (Cond.code (mN 146) (mB 146) (mL 146) (mR 146))))))))
set_option maxRecDepth 40000 in
theorem cod_147 : Cond.code (mN 147) (mB 147) (mL 147) (mR 147) ∈ lw_tbl := List.mem_append_right _ (List.mem_append_right _ (List.mem_append_left _ (List.mem_of_getElem? (i := 64) (rfl : tables_1_2[64]? = some (Cond.code (mN 147) (mB 147) (mL 147) (mR 147))))))
set_option maxRecDepth 40000 in
theorem cod_148 : Cond.code (mN 148) (mB 148) (mL 148) (mR 148) ∈ lw_tbl := List.mem_append_right _ (List.mem_append_right _ (List.mem_append_left _ (List.mem_of_getElem? (i := 78) (rfl : tables_1_2[78]? = some (Cond.code (mN 148) (mB 148) (mL 148) (mR 148))))))
set_option maxRecDepth 40000 in
theorem cod_149 : Cond.code (mN 149) (mB 149) (mL 149) (mR 149) ∈ lw_tbl := List.mem_append_right _ (List.mem_append_right _ (List.mem_append_left _ (List.mem_of_getElem? (i := 44) (rfl : tables_1_2[44]? = some (Cond.code (mN 149) (mB 149) (mL 149) (mR 149))))))
set_option maxRecDepth 40000 in
theorem cod_150 : Cond.code (mN 150) (mB 150) (mL 150) (mR 150) ∈ lw_tbl := List.mem_append_right _ (List.mem_append_right _ (List.mem_append_left _ (List.mem_of_getElem? (i := 175) (rfl : tables_1_2[175]? = some (Cond.code (mN 150) (mB 150) (mL 150) (mR 150))))))
set_option maxRecDepth 40000 in
theorem cod_151 : Cond.code (mN 151) (mB 151) (mL 151) (mR 151) ∈ lw_tbl := List.mem_append_right _ (List.mem_append_right _ (List.mem_append_right _ (List.mem_append_left _ (List.mem_of_getElem? (i := 54) (rfl : tables_1_3[54]? = some (Cond.code (mN 151) (mB 151) (mL 151) (mR 151)))))))
set_option maxRecDepth 40000 in
theorem cod_152 : Cond.code (mN 152) (mB 152) (mL 152) (mR 152) ∈ lw_tbl := List.mem_append_right _ (List.mem_append_right _ (List.mem_append_left _ (List.mem_of_getElem? (i := 164) (rfl : tables_1_2[164]? = some (Cond.code (mN 152) (mB 152) (mL 152) (mR 152))))))
set_option maxRecDepth 40000 in
theorem cod_153 : Cond.code (mN 153) (mB 153) (mL 153) (mR 153) ∈ lw_tbl := List.mem_append_right _ (List.mem_append_right _ (List.mem_append_right _ (List.mem_append_left _ (List.mem_of_getElem? (i := 11) (rfl : tables_1_3[11]? = some (Cond.code (mN 153) (mB 153) (mL 153) (mR 153)))))))
set_option maxRecDepth 40000 in
theorem cod_154 : Cond.code (mN 154) (mB 154) (mL 154) (mR 154) ∈ lw_tbl := List.mem_append_right _ (List.mem_append_right _ (List.mem_append_right _ (List.mem_append_left _ (List.mem_of_getElem? (i := 31) (rfl : tables_1_3[31]? = some (Cond.code (mN 154) (mB 154) (mL 154) (mR 154)))))))
set_option maxRecDepth 40000 in
theorem cod_155 : Cond.code (mN 155) (mB 155) (mL 155) (mR 155) ∈ lw_tbl := List.mem_append_right _ (List.mem_append_right _ (List.mem_append_left _ (List.mem_of_getElem? (i := 112) (rfl : tables_1_2[112]? = some (Cond.code (mN 155) (mB 155) (mL 155) (mR 155))))))
set_option maxRecDepth 40000 in
theorem cod_156 : Cond.code (mN 156) (mB 156) (mL 156) (mR 156) ∈ lw_tbl := List.mem_append_right _ (List.mem_append_right _ (List.mem_append_right _ (List.mem_append_right _ (List.mem_append_left _ (List.mem_of_getElem? (i := 178) (rfl : tables_1_4[178]? = some (Cond.code (mN 156) (mB 156) (mL 156) (mR 156))))))))
set_option maxRecDepth 40000 in
theorem cod_157 : Cond.code (mN 157) (mB 157) (mL 157) (mR 157) ∈ lw_tbl := List.mem_append_right _ (List.mem_append_right _ (List.mem_append_right _ (List.mem_append_right _ (List.mem_append_left _ (List.mem_of_getElem? (i := 218) (rfl : tables_1_4[218]? = some (Cond.code (mN 157) (mB 157) (mL 157) (mR 157))))))))
set_option maxRecDepth 40000 in
theorem cod_158 : Cond.code (mN 158) (mB 158) (mL 158) (mR 158) ∈ lw_tbl := List.mem_append_right _ (List.mem_append_right _ (List.mem_append_right _ (List.mem_append_right _ (List.mem_append_left _ (List.mem_of_getElem? (i := 16) (rfl : tables_1_4[16]? = some (Cond.code (mN 158) (mB 158) (mL 158) (mR 158))))))))
set_option maxRecDepth 40000 in
theorem cod_159 : Cond.code (mN 159) (mB 159) (mL 159) (mR 159) ∈ lw_tbl := List.mem_append_right _ (List.mem_append_right _ (List.mem_append_right _ (List.mem_append_right _ (List.mem_append_left _ (List.mem_of_getElem? (i := 56) (rfl : tables_1_4[56]? = some (Cond.code (mN 159) (mB 159) (mL 159) (mR 159))))))))
set_option maxRecDepth 40000 in
theorem cod_160 : Cond.code (mN 160) (mB 160) (mL 160) (mR 160) ∈ lw_tbl := List.mem_append_right _ (List.mem_append_right _ (List.mem_append_right _ (List.mem_append_right _ (List.mem_append_left _ (List.mem_of_getElem? (i := 194) (rfl : tables_1_4[194]? = some (Cond.code (mN 160) (mB 160) (mL 160) (mR 160))))))))
set_option maxRecDepth 40000 in
theorem cod_161 : Cond.code (mN 161) (mB 161) (mL 161) (mR 161) ∈ lw_tbl := List.mem_append_right _ (List.mem_append_right _ (List.mem_append_right _ (List.mem_append_right _ (List.mem_append_left _ (List.mem_of_getElem? (i := 101) (rfl : tables_1_4[101]? = some (Cond.code (mN 161) (mB 161) (mL 161) (mR 161))))))))
set_option maxRecDepth 40000 in
theorem cod_162 : Cond.code (mN 162) (mB 162) (mL 162) (mR 162) ∈ lw_tbl := List.mem_append_right _ (List.mem_append_right _ (List.mem_append_left _ (List.mem_of_getElem? (i := 35) (rfl : tables_1_2[35]? = some (Cond.code (mN 162) (mB 162) (mL 162) (mR 162))))))
set_option maxRecDepth 40000 in
theorem cod_163 : Cond.code (mN 163) (mB 163) (mL 163) (mR 163) ∈ lw_tbl := List.mem_append_right _ (List.mem_append_right _ (List.mem_append_left _ (List.mem_of_getElem? (i := 75) (rfl : tables_1_2[75]? = some (Cond.code (mN 163) (mB 163) (mL 163) (mR 163))))))
set_option maxRecDepth 40000 in
theorem cod_164 : Cond.code (mN 164) (mB 164) (mL 164) (mR 164) ∈ lw_tbl := List.mem_append_right _ (List.mem_append_right _ (List.mem_append_left _ (List.mem_of_getElem? (i := 61) (rfl : tables_1_2[61]? = some (Cond.code (mN 164) (mB 164) (mL 164) (mR 164))))))
set_option maxRecDepth 40000 in
theorem cod_165 : Cond.code (mN 165) (mB 165) (mL 165) (mR 165) ∈ lw_tbl := List.mem_append_right _ (List.mem_append_right _ (List.mem_append_left _ (List.mem_of_getElem? (i := 170) (rfl : tables_1_2[170]? = some (Cond.code (mN 165) (mB 165) (mL 165) (mR 165))))))
set_option maxRecDepth 40000 in
theorem cod_166 : Cond.code (mN 166) (mB 166) (mL 166) (mR 166) ∈ lw_tbl := List.mem_append_right _ (List.mem_append_right _ (List.mem_append_right _ (List.mem_append_left _ (List.mem_of_getElem? (i := 35) (rfl : tables_1_3[35]? = some (Cond.code (mN 166) (mB 166) (mL 166) (mR 166)))))))
set_option maxRecDepth 40000 in
theorem cod_167 : Cond.code (mN 167) (mB 167) (mL 167) (mR 167) ∈ lw_tbl := List.mem_append_right _ (List.mem_append_right _ (List.mem_append_right _ (List.mem_append_left _ (List.mem_of_getElem? (i := 85) (rfl : tables_1_3[85]? = some (Cond.code (mN 167) (mB 167) (mL 167) (mR 167)))))))
set_option maxRecDepth 40000 in
theorem cod_168 : Cond.code (mN 168) (mB 168) (mL 168) (mR 168) ∈ lw_tbl := List.mem_append_right _ (List.mem_append_right _ (List.mem_append_right _ (List.mem_append_left _ (List.mem_of_getElem? (i := 69) (rfl : tables_1_3[69]? = some (Cond.code (mN 168) (mB 168) (mL 168) (mR 168)))))))
set_option maxRecDepth 40000 in
theorem cod_169 : Cond.code (mN 169) (mB 169) (mL 169) (mR 169) ∈ lw_tbl := List.mem_append_right _ (List.mem_append_right _ (List.mem_append_right _ (List.mem_append_left _ (List.mem_of_getElem? (i := 64) (rfl : tables_1_3[64]? = some (Cond.code (mN 169) (mB 169) (mL 169) (mR 169)))))))
set_option maxRecDepth 40000 in
theorem cod_170 : Cond.code (mN 170) (mB 170) (mL 170) (mR 170) ∈ lw_tbl := List.mem_append_right _ (List.mem_append_right _ (List.mem_append_right _ (List.mem_append_right _ (List.mem_append_left _ (List.mem_of_getElem? (i := 190) (rfl : tables_1_4[190]? = some (Cond.code (mN 170) (mB 170) (mL 170) (mR 170))))))))
set_option maxRecDepth 40000 in
theorem cod_171 : Cond.code (mN 171) (mB 171) (mL 171) (mR 171) ∈ lw_tbl := List.mem_append_right _ (List.mem_append_right _ (List.mem_append_right _ (List.mem_append_right _ (List.mem_append_left _ (List.mem_of_getElem? (i := 174) (rfl : tables_1_4[174]? = some (Cond.code (mN 171) (mB 171) (mL 171) (mR 171))))))))
set_option maxRecDepth 40000 in
theorem cod_172 : Cond.code (mN 172) (mB 172) (mL 172) (mR 172) ∈ lw_tbl := List.mem_append_right _ (List.mem_append_right _ (List.mem_append_right _ (List.mem_append_right _ (List.mem_append_left _ (List.mem_of_getElem? (i := 214) (rfl : tables_1_4[214]? = some (Cond.code (mN 172) (mB 172) (mL 172) (mR 172))))))))
set_option maxRecDepth 40000 in
theorem cod_173 : Cond.code (mN 173) (mB 173) (mL 173) (mR 173) ∈ lw_tbl := List.mem_append_right _ (List.mem_append_right _ (List.mem_append_right _ (List.mem_append_right _ (List.mem_append_left _ (List.mem_of_getElem? (i := 206) (rfl : tables_1_4[206]? = some (Cond.code (mN 173) (mB 173) (mL 173) (mR 173))))))))
set_option maxRecDepth 40000 in
theorem cod_174 : Cond.code (mN 174) (mB 174) (mL 174) (mR 174) ∈ lw_tbl := List.mem_append_right _ (List.mem_append_right _ (List.mem_append_right _ (List.mem_append_right _ (List.mem_append_left _ (List.mem_of_getElem? (i := 68) (rfl : tables_1_4[68]? = some (Cond.code (mN 174) (mB 174) (mL 174) (mR 174))))))))
set_option maxRecDepth 40000 in
theorem cod_175 : Cond.code (mN 175) (mB 175) (mL 175) (mR 175) ∈ lw_tbl := List.mem_append_right _ (List.mem_append_right _ (List.mem_append_right _ (List.mem_append_right _ (List.mem_append_left _ (List.mem_of_getElem? (i := 52) (rfl : tables_1_4[52]? = some (Cond.code (mN 175) (mB 175) (mL 175) (mR 175))))))))
set_option maxRecDepth 40000 in
theorem cod_176 : Cond.code (mN 176) (mB 176) (mL 176) (mR 176) ∈ lw_tbl := List.mem_append_right _ (List.mem_append_right _ (List.mem_append_right _ (List.mem_append_right _ (List.mem_append_left _ (List.mem_of_getElem? (i := 76) (rfl : tables_1_4[76]? = some (Cond.code (mN 176) (mB 176) (mL 176) (mR 176))))))))
set_option maxRecDepth 40000 in
theorem cod_177 : Cond.code (mN 177) (mB 177) (mL 177) (mR 177) ∈ lw_tbl := List.mem_append_right _ (List.mem_append_right _ (List.mem_append_left _ (List.mem_of_getElem? (i := 71) (rfl : tables_1_2[71]? = some (Cond.code (mN 177) (mB 177) (mL 177) (mR 177))))))
set_option maxRecDepth 40000 in
theorem cod_178 : Cond.code (mN 178) (mB 178) (mL 178) (mR 178) ∈ lw_tbl := List.mem_append_right _ (List.mem_append_right _ (List.mem_append_left _ (List.mem_of_getElem? (i := 57) (rfl : tables_1_2[57]? = some (Cond.code (mN 178) (mB 178) (mL 178) (mR 178))))))
set_option maxRecDepth 40000 in
theorem cod_179 : Cond.code (mN 179) (mB 179) (mL 179) (mR 179) ∈ lw_tbl := List.mem_append_right _ (List.mem_append_right _ (List.mem_append_left _ (List.mem_of_getElem? (i := 143) (rfl : tables_1_2[143]? = some (Cond.code (mN 179) (mB 179) (mL 179) (mR 179))))))
set_option maxRecDepth 40000 in
theorem cod_180 : Cond.code (mN 180) (mB 180) (mL 180) (mR 180) ∈ lw_tbl := List.mem_append_right _ (List.mem_append_right _ (List.mem_append_left _ (List.mem_of_getElem? (i := 127) (rfl : tables_1_2[127]? = some (Cond.code (mN 180) (mB 180) (mL 180) (mR 180))))))
set_option maxRecDepth 40000 in
theorem cod_181 : Cond.code (mN 181) (mB 181) (mL 181) (mR 181) ∈ lw_tbl := List.mem_append_right _ (List.mem_append_right _ (List.mem_append_right _ (List.mem_append_left _ (List.mem_of_getElem? (i := 81) (rfl : tables_1_3[81]? = some (Cond.code (mN 181) (mB 181) (mL 181) (mR 181)))))))
set_option maxRecDepth 40000 in
theorem cod_182 : Cond.code (mN 182) (mB 182) (mL 182) (mR 182) ∈ lw_tbl := List.mem_append_right _ (List.mem_append_right _ (List.mem_append_right _ (List.mem_append_right _ (List.mem_append_left _ (List.mem_of_getElem? (i := 149) (rfl : tables_1_4[149]? = some (Cond.code (mN 182) (mB 182) (mL 182) (mR 182))))))))
set_option maxRecDepth 40000 in
theorem cod_183 : Cond.code (mN 183) (mB 183) (mL 183) (mR 183) ∈ lw_tbl := List.mem_append_right _ (List.mem_append_right _ (List.mem_append_right _ (List.mem_append_right _ (List.mem_append_left _ (List.mem_of_getElem? (i := 72) (rfl : tables_1_4[72]? = some (Cond.code (mN 183) (mB 183) (mL 183) (mR 183))))))))
set_option maxRecDepth 40000 in
theorem cod_184 : Cond.code (mN 184) (mB 184) (mL 184) (mR 184) ∈ lw_tbl := List.mem_append_right _ (List.mem_append_right _ (List.mem_append_right _ (List.mem_append_right _ (List.mem_append_left _ (List.mem_of_getElem? (i := 182) (rfl : tables_1_4[182]? = some (Cond.code (mN 184) (mB 184) (mL 184) (mR 184))))))))
set_option maxRecDepth 40000 in
theorem cod_185 : Cond.code (mN 185) (mB 185) (mL 185) (mR 185) ∈ lw_tbl := List.mem_append_right _ (List.mem_append_right _ (List.mem_append_right _ (List.mem_append_left _ (List.mem_of_getElem? (i := 73) (rfl : tables_1_3[73]? = some (Cond.code (mN 185) (mB 185) (mL 185) (mR 185)))))))
set_option maxRecDepth 40000 in
theorem cod_186 : Cond.code (mN 186) (mB 186) (mL 186) (mR 186) ∈ lw_tbl := List.mem_append_right _ (List.mem_append_left _ (List.mem_of_getElem? (i := 208) (rfl : tables_1_1[208]? = some (Cond.code (mN 186) (mB 186) (mL 186) (mR 186)))))
set_option maxRecDepth 40000 in
theorem cod_187 : Cond.code (mN 187) (mB 187) (mL 187) (mR 187) ∈ lw_tbl := List.mem_append_right _ (List.mem_append_right _ (List.mem_append_left _ (List.mem_of_getElem? (i := 139) (rfl : tables_1_2[139]? = some (Cond.code (mN 187) (mB 187) (mL 187) (mR 187))))))
set_option maxRecDepth 40000 in
theorem cod_188 : Cond.code (mN 188) (mB 188) (mL 188) (mR 188) ∈ lw_tbl := List.mem_append_right _ (List.mem_append_right _ (List.mem_append_right _ (List.mem_append_right _ (List.mem_append_right _ (List.mem_of_getElem? (i := 36) (rfl : tables_1_5[36]? = some (Cond.code (mN 188) (mB 188) (mL 188) (mR 188))))))))
set_option maxRecDepth 40000 in
theorem cod_189 : Cond.code (mN 189) (mB 189) (mL 189) (mR 189) ∈ lw_tbl := List.mem_append_right _ (List.mem_append_right _ (List.mem_append_right _ (List.mem_append_right _ (List.mem_append_left _ (List.mem_of_getElem? (i := 40) (rfl : tables_1_4[40]? = some (Cond.code (mN 189) (mB 189) (mL 189) (mR 189))))))))
set_option maxRecDepth 40000 in
theorem cod_190 : Cond.code (mN 190) (mB 190) (mL 190) (mR 190) ∈ lw_tbl := List.mem_append_right _ (List.mem_append_right _ (List.mem_append_right _ (List.mem_append_right _ (List.mem_append_right _ (List.mem_of_getElem? (i := 23) (rfl : tables_1_5[23]? = some (Cond.code (mN 190) (mB 190) (mL 190) (mR 190))))))))
set_option maxRecDepth 40000 in
theorem cod_191 : Cond.code (mN 191) (mB 191) (mL 191) (mR 191) ∈ lw_tbl := List.mem_append_right _ (List.mem_append_right _ (List.mem_append_right _ (List.mem_append_right _ (List.mem_append_left _ (List.mem_of_getElem? (i := 162) (rfl : tables_1_4[162]? = some (Cond.code (mN 191) (mB 191) (mL 191) (mR 191))))))))
set_option maxRecDepth 40000 in
theorem cod_192 : Cond.code (mN 192) (mB 192) (mL 192) (mR 192) ∈ lw_tbl := List.mem_append_right _ (List.mem_append_right _ (List.mem_append_right _ (List.mem_append_right _ (List.mem_append_right _ (List.mem_of_getElem? (i := 15) (rfl : tables_1_5[15]? = some (Cond.code (mN 192) (mB 192) (mL 192) (mR 192))))))))
set_option maxRecDepth 40000 in
theorem cod_193 : Cond.code (mN 193) (mB 193) (mL 193) (mR 193) ∈ lw_tbl := List.mem_append_right _ (List.mem_append_right _ (List.mem_append_right _ (List.mem_append_right _ (List.mem_append_right _ (List.mem_of_getElem? (i := 27) (rfl : tables_1_5[27]? = some (Cond.code (mN 193) (mB 193) (mL 193) (mR 193))))))))
set_option maxRecDepth 40000 in
theorem cod_194 : Cond.code (mN 194) (mB 194) (mL 194) (mR 194) ∈ lw_tbl := List.mem_append_right _ (List.mem_append_right _ (List.mem_append_right _ (List.mem_append_right _ (List.mem_append_right _ (List.mem_of_getElem? (i := 31) (rfl : tables_1_5[31]? = some (Cond.code (mN 194) (mB 194) (mL 194) (mR 194))))))))
set_option maxRecDepth 40000 in
theorem cod_195 : Cond.code (mN 195) (mB 195) (mL 195) (mR 195) ∈ lw_tbl := List.mem_append_right _ (List.mem_append_right _ (List.mem_append_right _ (List.mem_append_right _ (List.mem_append_right _ (List.mem_of_getElem? (i := 19) (rfl : tables_1_5[19]? = some (Cond.code (mN 195) (mB 195) (mL 195) (mR 195))))))))
set_option maxRecDepth 40000 in
theorem cod_196 : Cond.code (mN 196) (mB 196) (mL 196) (mR 196) ∈ lw_tbl := List.mem_append_right _ (List.mem_append_right _ (List.mem_append_right _ (List.mem_append_right _ (List.mem_append_left _ (List.mem_of_getElem? (i := 12) (rfl : tables_1_4[12]? = some (Cond.code (mN 196) (mB 196) (mL 196) (mR 196))))))))
set_option maxRecDepth 40000 in
theorem cod_197 : Cond.code (mN 197) (mB 197) (mL 197) (mR 197) ∈ lw_tbl := List.mem_append_right _ (List.mem_append_right _ (List.mem_append_right _ (List.mem_append_right _ (List.mem_append_left _ (List.mem_of_getElem? (i := 157) (rfl : tables_1_4[157]? = some (Cond.code (mN 197) (mB 197) (mL 197) (mR 197))))))))
set_option maxRecDepth 40000 in
theorem cod_198 : Cond.code (mN 198) (mB 198) (mL 198) (mR 198) ∈ lw_tbl := List.mem_append_right _ (List.mem_append_right _ (List.mem_append_right _ (List.mem_append_left _ (List.mem_of_getElem? (i := 224) (rfl : tables_1_3[224]? = some (Cond.code (mN 198) (mB 198) (mL 198) (mR 198)))))))
set_option maxRecDepth 40000 in
theorem codT_ok : ∀ e ∈ codT, Cond.code (mN e.1) (mB e.1) (mL e.1) (mR e.1) ∈ lw_tbl := by
  intro e he
  simp only [codT, List.mem_cons, List.not_mem_nil, or_false] at he
  rcases he with rfl | rfl | rfl | rfl | rfl | rfl | rfl | rfl | rfl | rfl | rfl | rfl | rfl | rfl | rfl | rfl | rfl | rfl | rfl | rfl | rfl | rfl | rfl | rfl | rfl | rfl | rfl | rfl | rfl | rfl | rfl | rfl | rfl | rfl | rfl | rfl | rfl | rfl | rfl | rfl | rfl | rfl | rfl | rfl | rfl | rfl | rfl | rfl | rfl | rfl | rfl | rfl | rfl | rfl | rfl | rfl | rfl | rfl | rfl | rfl | rfl | rfl | rfl | rfl | rfl | rfl | rfl | rfl | rfl | rfl | rfl | rfl | rfl | rfl | rfl | rfl | rfl | rfl | rfl | rfl | rfl | rfl | rfl | rfl | rfl | rfl | rfl | rfl | rfl | rfl | rfl | rfl | rfl | rfl | rfl | rfl | rfl | rfl | rfl | rfl | rfl | rfl | rfl | rfl | rfl | rfl | rfl | rfl | rfl | rfl | rfl | rfl | rfl | rfl | rfl | rfl | rfl | rfl | rfl | rfl | rfl | rfl | rfl | rfl | rfl | rfl | rfl | rfl | rfl | rfl | rfl | rfl | rfl | rfl | rfl | rfl | rfl | rfl | rfl | rfl | rfl | rfl | rfl | rfl | rfl | rfl | rfl | rfl | rfl | rfl | rfl | rfl | rfl | rfl | rfl | rfl | rfl | rfl | rfl | rfl | rfl | rfl | rfl | rfl | rfl | rfl | rfl | rfl | rfl | rfl | rfl | rfl | rfl | rfl | rfl | rfl | rfl | rfl | rfl | rfl | rfl | rfl | rfl | rfl | rfl | rfl | rfl | rfl | rfl | rfl | rfl | rfl | rfl | rfl | rfl | rfl | rfl | rfl | rfl
  · exact cod_0
  · exact cod_1
  · exact cod_2
  · exact cod_3
  · exact cod_4
  · exact cod_5
  · exact cod_6
  · exact cod_7
  · exact cod_8
  · exact cod_9
  · exact cod_10
  · exact cod_11
  · exact cod_12
  · exact cod_13
  · exact cod_14
  · exact cod_15
  · exact cod_16
  · exact cod_17
  · exact cod_18
  · exact cod_19
  · exact cod_20
  · exact cod_21
  · exact cod_22
  · exact cod_23
  · exact cod_24
  · exact cod_25
  · exact cod_26
  · exact cod_27
  · exact cod_28
  · exact cod_29
  · exact cod_30
  · exact cod_31
  · exact cod_32
  · exact cod_33
  · exact cod_34
  · exact cod_35
  · exact cod_36
  · exact cod_37
  · exact cod_38
  · exact cod_39
  · exact cod_40
  · exact cod_41
  · exact cod_42
  · exact cod_43
  · exact cod_44
  · exact cod_45
  · exact cod_46
  · exact cod_47
  · exact cod_48
  · exact cod_49
  · exact cod_50
  · exact cod_51
  · exact cod_52
  · exact cod_53
  · exact cod_54
  · exact cod_55
  · exact cod_56
  · exact cod_57
  · exact cod_58
  · exact cod_59
  · exact cod_60
  · exact cod_61
  · exact cod_62
  · exact cod_63
  · exact cod_64
  · exact cod_65
  · exact cod_66
  · exact cod_67
  · exact cod_68
  · exact cod_69
  · exact cod_70
  · exact cod_71
  · exact cod_72
  · exact cod_73
  · exact cod_74
  · exact cod_75
  · exact cod_76
  · exact cod_77
  · exact cod_78
  · exact cod_79
  · exact cod_80
  · exact cod_81
  · exact cod_82
  · exact cod_83
  · exact cod_84
  · exact cod_85
  · exact cod_86
  · exact cod_87
  · exact cod_88
  · exact cod_89
  · exact cod_90
  · exact cod_91
  · exact cod_92
  · exact cod_93
  · exact cod_94
  · exact cod_95
  · exact cod_96
  · exact cod_97
  · exact cod_98
  · exact cod_99
  · exact cod_100
  · exact cod_101
  · exact cod_102
  · exact cod_103
  · exact cod_104
  · exact cod_105
  · exact cod_106
  · exact cod_107
  · exact cod_108
  · exact cod_109
  · exact cod_110
  · exact cod_111
  · exact cod_112
  · exact cod_113
  · exact cod_114
  · exact cod_115
  · exact cod_116
  · exact cod_117
  · exact cod_118
  · exact cod_119
  · exact cod_120
  · exact cod_121
  · exact cod_122
  · exact cod_123
  · exact cod_124
  · exact cod_125
  · exact cod_126
  · exact cod_127
  · exact cod_128
  · exact cod_129
  · exact cod_130
  · exact cod_131
  · exact cod_132
  · exact cod_133
  · exact cod_134
  · exact cod_135
  · exact cod_136
  · exact cod_137
  · exact cod_138
  · exact cod_139
  · exact cod_140
  · exact cod_141
  · exact cod_142
  · exact cod_143
  · exact cod_144
  · exact cod_145
  · exact cod_146
  · exact cod_147
  · exact cod_148
  · exact cod_149
  · exact cod_150
  · exact cod_151
  · exact cod_152
  · exact cod_153
  · exact cod_154
  · exact cod_155
  · exact cod_156
  · exact cod_157
  · exact cod_158
  · exact cod_159
  · exact cod_160
  · exact cod_161
  · exact cod_162
  · exact cod_163
  · exact cod_164
  · exact cod_165
  · exact cod_166
  · exact cod_167
  · exact cod_168
  · exact cod_169
  · exact cod_170
  · exact cod_171
  · exact cod_172
  · exact cod_173
  · exact cod_174
  · exact cod_175
  · exact cod_176
  · exact cod_177
  · exact cod_178
  · exact cod_179
  · exact cod_180
  · exact cod_181
  · exact cod_182
  · exact cod_183
  · exact cod_184
  · exact cod_185
  · exact cod_186
  · exact cod_187
  · exact cod_188
  · exact cod_189
  · exact cod_190
  · exact cod_191
  · exact cod_192
  · exact cod_193
  · exact cod_194
  · exact cod_195
  · exact cod_196
  · exact cod_197
  · exact cod_198
theorem cod_all : ∀ m, m < 199 → codT.any (fun e => e.1 == m) = true := by decide +kernel
theorem cod_in (m : Nat) (hm : m < 199) : Cond.code (mN m) (mB m) (mL m) (mR m) ∈ wsAll := by
  obtain ⟨e, he, h2⟩ := List.any_eq_true.mp (cod_all m hm)
  have h3 := codT_ok e he
  simp only [beq_iff_eq] at h2
  subst h2
  exact List.mem_filter.mpr ⟨h3, rfl⟩
end
section
def htl : List Nat := [1, 1, 1, 1, 1, 1, 1, 1, 1, 1, 1, 1, 1, 1, 1, 1, 1, 1, 1, 1, 1, 1, 1, 1, 1, 1, 1, 1, 1, 1, 1, 1, 1, 1, 1, 1, 2, 2, 2, 2, 2, 2, 2, 2, 2, 2, 2, 2, 2, 2, 2, 2, 2, 2, 2, 2, 2, 2, 2, 2, 2, 2, 2, 2, 2, 2, 2, 2, 2, 2, 2, 2, 2, 2, 2, 2, 2, 2, 3, 3, 3, 3, 3, 3, 3, 3, 3, 3, 3, 3, 3, 3, 3, 3, 3, 3, 3, 3, 3, 3, 3, 3, 3, 3, 3, 3, 3, 3, 3, 3, 3, 3, 3, 3, 3, 3, 3, 3, 3, 3, 3, 4, 4, 4, 4, 4, 4, 4, 4, 4, 4, 4, 4, 4, 4, 4, 4, 4, 4, 4, 4, 5, 5, 5, 5, 5, 5, 5, 5, 5, 5, 5, 5, 5, 5, 5, 6, 6, 6, 6, 6, 6, 6, 6, 6, 6, 6, 6, 6, 6, 7, 7, 7, 7, 7, 7, 7, 7, 7, 7, 7, 7, 8, 8, 8, 8, 8, 8, 9, 9, 9, 9, 9, 10, 10, 10, 10, 10, 11, 12]
def ht (m : Nat) : Nat := htl.getD m 100
def mPl : List Nat := [2, 2, 0, 0, 0, 0, 2, 0, 2, 1, 3, 2, 2, 1, 0, 0, 0, 0, 1, 0, 4, 3, 1, 2, 2, 1, 1, 0, 2, 2, 2, 0, 1, 1, 1, 3, 1, 1, 1, 2, 1, 1, 2, 1, 5, 3, 0, 0, 0, 1, 1, 0, 2, 0, 2, 1, 3, 2, 3, 2, 3, 3, 2, 0, 2, 0, 1, 1, 3, 3, 5, 0, 3, 1, 1, 0, 1, 0, 2, 5, 1, 0, 2, 0, 2, 1, 1, 1, 1, 2, 3, 2, 1, 1, 2, 0, 1, 2, 2, 2, 2, 3, 3, 3, 4, 3, 3, 0, 0, 0, 0, 3, 2, 2, 3, 3, 2, 1, 0, 1, 2, 2, 1, 3, 0, 1, 1, 1, 0, 1, 3, 2, 2, 0, 2, 3, 0, 1, 1, 0, 1, 2, 1, 1, 1, 4, 2, 2, 2, 2, 3, 3, 2, 5, 0, 2, 1, 2, 1, 1, 1, 2, 1, 2, 2, 1, 2, 0, 0, 2, 1, 1, 2, 1, 1, 1, 2, 1, 1, 2, 2, 1, 2, 1, 2, 0, 1, 1, 0, 1, 0, 2, 2, 0, 1, 0, 1, 1, 1, 1]
def mP (m : Nat) : Nat := mPl.getD m 0
def mcl : List Nat := [0, 0, 0, 2, 0, 0, 0, 0, 0, 0, 0, 0, 0, 0, 0, 0, 0, 0, 0, 2, 0, 0, 42, 0, 0, 0, 0, 1, 0, 0, 0, 0, 0, 0, 0, 0, 0, 0, 0, 0, 0, 0, 0, 0, 0, 0, 0, 0, 0, 0, 0, 43, 0, 44, 0, 0, 0, 0, 0, 0, 0, 0, 0, 0, 0, 0, 0, 0, 0, 0, 0, 0, 0, 0, 0, 90, 0, 0, 0, 0, 0, 0, 0, 7, 0, 0, 0, 0, 0, 0, 0, 0, 0, 0, 0, 0, 0, 0, 0, 0, 0, 0, 0, 0, 0, 0, 0, 0, 0, 0, 0, 0, 0, 0, 0, 0, 0, 0, 0, 0, 0, 0, 0, 0, 0, 0, 0, 0, 0, 0, 0, 0, 0, 0, 0, 0, 0, 0, 0, 188, 0, 0, 0, 0, 0, 0, 0, 0, 0, 0, 0, 0, 0, 0, 0, 0, 0, 0, 0, 0, 0, 0, 0, 0, 0, 0, 0, 0, 0, 0, 0, 0, 0, 0, 0, 0, 0, 0, 0, 0, 0, 0, 0, 0, 0, 0, 0, 0, 0, 0, 0, 0, 0, 0, 0, 0, 0, 0, 0, 197]
def mc (m : Nat) : Nat := mcl.getD m 0
def msl : List Nat := [0, 0, 0, 40, 0, 0, 0, 0, 0, 0, 0, 0, 0, 0, 0, 0, 0, 0, 0, 135, 0, 0, 6027, 0, 0, 0, 0, 146, 0, 0, 0, 0, 0, 0, 0, 0, 0, 0, 0, 0, 0, 0, 0, 0, 0, 0, 0, 0, 0, 0, 0, 6028, 0, 6030, 0, 0, 0, 0, 0, 0, 0, 0, 0, 0, 0, 0, 0, 0, 0, 0, 0, 0, 0, 0, 0, 12285, 0, 0, 0, 0, 0, 0, 0, 12042, 0, 0, 0, 0, 0, 0, 0, 0, 0, 0, 0, 0, 0, 0, 0, 0, 0, 0, 0, 0, 0, 0, 0, 0, 0, 0, 0, 0, 0, 0, 0, 0, 0, 0, 0, 0, 0, 0, 0, 0, 0, 0, 0, 0, 0, 0, 0, 0, 0, 0, 0, 0, 0, 0, 0, 24686, 0, 0, 0, 0, 0, 0, 0, 0, 0, 0, 0, 0, 0, 0, 0, 0, 0, 0, 0, 0, 0, 0, 0, 0, 0, 0, 0, 0, 0, 0, 0, 0, 0, 0, 0, 0, 0, 0, 0, 0, 0, 0, 0, 0, 0, 0, 0, 0, 0, 0, 0, 0, 0, 0, 0, 0, 0, 0, 0, 36751]
def ms (m : Nat) : Nat := msl.getD m 0
def noL (m : Nat) : Bool := m != 10
def TT0 : u_T := fun k => match k with
  | 0 => ("StrongCells$Book", "acts", "[I", true)
  | 1 => ("StrongCells$Book", "values", "[I", true)
  | _ => ("StrongCells$Book", "count", "I", false)
def tY0 : Nat → FieldType := fun k => match k with
  | 0 => .array .int
  | 1 => .array .int
  | _ => .int
def TT1 : u_T := fun k => match k with
  | 0 => ("StrongCells$Deeds", "shelf", "LStrongCells$Shelf;", true)
  | 1 => ("StrongCells$Deeds", "oldest", "I", false)
  | _ => ("StrongCells$Deeds", "count", "I", false)
def tY1 : Nat → FieldType := fun k => match k with
  | 0 => .object "StrongCells$Shelf"
  | 1 => .int
  | _ => .int
def TT2 : u_T := fun k => match k with
  | 0 => ("StrongCells$Images", "shelf", "LStrongCells$Shelf;", true)
  | _ => ("StrongCells$Images", "seeds", "[I", true)
def tY2 : Nat → FieldType := fun k => match k with
  | 0 => .object "StrongCells$Shelf"
  | _ => .array .int
def TT3 : u_T := fun k => match k with
  | 0 => ("StrongCells$Judge", "needed", "[I", true)
  | _ => ("StrongCells$Judge", "lastOnes", "[I", true)
def tY3 : Nat → FieldType := fun k => match k with
  | 0 => .array .int
  | _ => .array .int
def TT4 : u_T := fun k => match k with
  | _ => ("StrongCells$Shelf", "rows", "[[I", true)
def tY4 : Nat → FieldType := fun k => match k with
  | _ => .array (.array .int)
def TT5 : u_T := fun k => match k with
  | _ => ("StrongCells$State", "row", "[I", true)
def tY5 : Nat → FieldType := fun k => match k with
  | _ => .array .int
def TT6 : u_T := fun k => match k with
  | 0 => ("StrongCells$Ways", "levels", "LStrongCells$Shelf;", true)
  | 1 => ("StrongCells$Ways", "behindFirstBad", "LStrongCells$Shelf;", true)
  | 2 => ("StrongCells$Ways", "walker", "LStrongCells$State;", true)
  | 3 => ("StrongCells$Ways", "nextProcess", "[I", true)
  | 4 => ("StrongCells$Ways", "nextChoice", "[I", true)
  | 5 => ("StrongCells$Ways", "known", "Z", false)
  | 6 => ("StrongCells$Ways", "count", "I", false)
  | 7 => ("StrongCells$Ways", "badCount", "I", false)
  | 8 => ("StrongCells$Ways", "firstBad", "I", false)
  | 9 => ("StrongCells$Ways", "firstBadSteps", "I", false)
  | _ => ("StrongCells$Ways", "longest", "I", false)
def tY6 : Nat → FieldType := fun k => match k with
  | 0 => .object "StrongCells$Shelf"
  | 1 => .object "StrongCells$Shelf"
  | 2 => .object "StrongCells$State"
  | 3 => .array .int
  | 4 => .array .int
  | 5 => .boolean
  | 6 => .int
  | 7 => .int
  | 8 => .int
  | 9 => .int
  | _ => .int
def TT7 : u_T := fun k => match k with
  | 0 => ("StrongCells", "now", "LStrongCells$State;", true)
  | 1 => ("StrongCells", "judge", "LStrongCells$Judge;", true)
  | 2 => ("StrongCells", "allWays", "LStrongCells$Ways;", true)
  | 3 => ("StrongCells", "deeds", "LStrongCells$Deeds;", true)
  | 4 => ("StrongCells", "images", "LStrongCells$Images;", true)
  | 5 => ("StrongCells", "book", "LStrongCells$Book;", true)
  | _ => ("StrongCells", "drawn", "I", false)
def tY7 : Nat → FieldType := fun k => match k with
  | 0 => .object "StrongCells$State"
  | 1 => .object "StrongCells$Judge"
  | 2 => .object "StrongCells$Ways"
  | 3 => .object "StrongCells$Deeds"
  | 4 => .object "StrongCells$Images"
  | 5 => .object "StrongCells$Book"
  | _ => .int
def TT8 : u_T := fun k => match k with
  | 0 => ("StrongCellsModel", "w", "[I", true)
  | 1 => ("StrongCellsModel", "known", "I", false)
  | 2 => ("StrongCellsModel", "kept", "I", false)
  | 3 => ("StrongCellsModel", "seed", "I", false)
  | 4 => ("StrongCellsModel", "imageSeed", "[I", true)
  | 5 => ("StrongCellsModel", "bookOf", "[I", true)
  | 6 => ("StrongCellsModel", "bookIs", "[I", true)
  | 7 => ("StrongCellsModel", "written", "I", false)
  | 8 => ("StrongCellsModel", "reach", "[I", true)
  | 9 => ("StrongCellsModel", "wayOf", "[I", true)
  | 10 => ("StrongCellsModel", "wayBy", "[I", true)
  | 11 => ("StrongCellsModel", "wayMany", "I", false)
  | 12 => ("StrongCellsModel", "wayBad", "I", false)
  | 13 => ("StrongCellsModel", "wayFirst", "I", false)
  | 14 => ("StrongCellsModel", "wayLongest", "I", false)
  | _ => ("StrongCellsModel", "latest", "I", false)
def tY8 : Nat → FieldType := fun k => match k with
  | 0 => .array .int
  | 1 => .int
  | 2 => .int
  | 3 => .int
  | 4 => .array .int
  | 5 => .array .int
  | 6 => .array .int
  | 7 => .int
  | 8 => .array .int
  | 9 => .array .int
  | 10 => .array .int
  | 11 => .int
  | 12 => .int
  | 13 => .int
  | 14 => .int
  | _ => .int
def clss : List vw_C := [("StrongCells$Book", TT0, 3), ("StrongCells$Deeds", TT1, 3), ("StrongCells$Images", TT2, 2), ("StrongCells$Judge", TT3, 2), ("StrongCells$Shelf", TT4, 1), ("StrongCells$State", TT5, 1), ("StrongCells$Ways", TT6, 11), ("StrongCells", TT7, 7), ("StrongCellsModel", TT8, 16)]
def cNl : List Nat := [3, 3, 2, 2, 1, 1, 11, 7, 16]
def cNf (c : Nat) : Nat := cNl.getD c 0
def isIl : List (List Bool) := [[false, false, true], [false, true, true], [false, false], [false, false], [false], [false], [false, false, false, false, false, true, true, true, true, true, true], [false, false, false, false, false, false, true], [false, true, true, true, false, false, false, true, false, false, false, true, true, true, true, true]]
def isI (c k : Nat) : Bool := (isIl.getD c []).getD k false
def isZl : List (List Bool) := [[false, false, false], [false, false, false], [false, false], [false, false], [false], [false], [false, false, false, false, false, true, false, false, false, false, false], [false, false, false, false, false, false, false], [false, false, false, false, false, false, false, false, false, false, false, false, false, false, false, false]]
def isZ (c k : Nat) : Bool := (isZl.getD c []).getD k false
def tYY (c : Nat) : Nat → FieldType := match c with
  | 0 => tY0
  | 1 => tY1
  | 2 => tY2
  | 3 => tY3
  | 4 => tY4
  | 5 => tY5
  | 6 => tY6
  | 7 => tY7
  | _ => tY8
def TTT (c : Nat) : u_T := match c with
  | 0 => TT0
  | 1 => TT1
  | 2 => TT2
  | 3 => TT3
  | 4 => TT4
  | 5 => TT5
  | 6 => TT6
  | 7 => TT7
  | _ => TT8
def cNm (c : Nat) : String := (["StrongCells$Book", "StrongCells$Deeds", "StrongCells$Images", "StrongCells$Judge", "StrongCells$Shelf", "StrongCells$State", "StrongCells$Ways", "StrongCells", "StrongCellsModel"] : List String).getD c ""
theorem clss_get : ∀ c, c < 9 → clss[c]? = some (cNm c, TTT c, cNf c) := by
  intro c h
  match c, h with
  | 0, _ => rfl
  | 1, _ => rfl
  | 2, _ => rfl
  | 3, _ => rfl
  | 4, _ => rfl
  | 5, _ => rfl
  | 6, _ => rfl
  | 7, _ => rfl
  | 8, _ => rfl
  | c + 9, h => exact absurd h (by omega)
theorem tY_ok : ∀ c, c < 9 → ∀ k, k < cNf c → parseFieldDescriptor (TTT c k).2.2.1 = some (tYY c k) := by decide +kernel
theorem nm_ok : ∀ c, c < 9 → ∀ a, a < cNf c → ∀ b, b < cNf c → a ≠ b → (TTT c a).2.1 ≠ (TTT c b).2.1 := by decide +kernel
def layT : List (Nat × Nat × Nat) := [(0, 0, 225), (0, 1, 227), (0, 2, 229), (1, 0, 194), (1, 1, 196), (1, 2, 198), (2, 0, 211), (2, 1, 213), (3, 0, 116), (3, 1, 118), (4, 0, 139), (5, 0, 104), (6, 0, 160), (6, 1, 162), (6, 2, 164), (6, 3, 166), (6, 4, 168), (6, 5, 170), (6, 6, 172), (6, 7, 174), (6, 8, 176), (6, 9, 178), (6, 10, 180), (7, 0, 263), (7, 1, 265), (7, 2, 267), (7, 3, 269), (7, 4, 271), (7, 5, 273), (7, 6, 275), (8, 0, 741), (8, 1, 743), (8, 2, 745), (8, 3, 747), (8, 4, 749), (8, 5, 751), (8, 6, 753), (8, 7, 755), (8, 8, 757), (8, 9, 759), (8, 10, 761), (8, 11, 763), (8, 12, 765), (8, 13, 767), (8, 14, 769), (8, 15, 771)]
theorem layT_ok : layT.all (fun e => (decide (lw_tbl[e.2.2]? = some (u_lay (cNm e.1) (TTT e.1) e.2.1)) && goodWord (u_lay (cNm e.1) (TTT e.1) e.2.1))) = true := by decide +kernel
theorem lay_all : ∀ c, c < 9 → ∀ k, k < cNf c → layT.any (fun e => e.1 == c && e.2.1 == k) = true := by decide +kernel
theorem lay_in (c : Nat) (hc : c < 9) : ∀ w ∈ u_ws (cNm c) (TTT c) (cNf c), w ∈ wsAll := by
  intro w hw
  obtain ⟨k, hk, rfl⟩ := List.mem_map.mp hw
  obtain ⟨e, he, h2⟩ := List.any_eq_true.mp (lay_all c hc k (List.mem_range.mp hk))
  have h3 := List.all_eq_true.mp layT_ok e he
  simp only [Bool.and_eq_true, beq_iff_eq] at h2
  obtain ⟨rfl, rfl⟩ := h2
  exact wsAll_and h3
def iniT : List (Nat × Nat) := [(0, 84), (1, 82), (2, 82), (3, 82), (4, 82), (5, 82), (6, 83), (7, 83), (8, 83), (9, 83), (10, 83), (11, 83), (12, 83), (13, 83), (14, 83), (15, 83), (16, 80), (17, 80), (18, 81), (19, 76), (20, 87), (21, 87), (22, 78), (23, 78), (24, 78), (25, 75), (26, 75), (27, 75), (28, 75), (29, 75), (30, 75), (31, 77), (32, 77), (33, 74), (34, 74), (35, 74), (36, 82), (37, 83), (38, 83), (39, 83), (40, 83), (41, 83), (42, 83), (43, 83), (44, 83), (45, 83), (46, 83), (47, 83), (48, 83), (49, 83), (50, 80), (51, 80), (52, 80), (53, 81), (54, 81), (55, 81), (56, 81), (57, 76), (58, 76), (59, 76), (60, 87), (61, 87), (62, 87), (63, 75), (64, 75), (65, 75), (66, 75), (67, 75), (68, 75), (69, 75), (70, 75), (71, 75), (72, 85), (73, 85), (74, 77), (75, 77), (76, 74), (77, 74), (78, 83), (79, 83), (80, 83), (81, 83), (82, 83), (83, 83), (84, 83), (85, 83), (86, 83), (87, 83), (88, 83), (89, 83), (90, 83), (91, 83), (92, 83), (93, 83), (94, 83), (95, 83), (96, 81), (97, 76), (98, 76), (99, 76), (100, 76), (101, 76), (102, 76), (103, 87), (104, 87), (105, 87), (106, 87), (107, 75), (108, 75), (109, 75), (110, 75), (111, 85), (112, 85), (113, 85), (114, 85), (115, 85), (116, 85), (117, 74), (118, 74), (119, 74), (120, 74), (121, 83), (122, 83), (123, 83), (124, 83), (125, 83), (126, 83), (127, 83), (128, 83), (129, 76), (130, 76), (131, 76), (132, 87), (133, 75), (134, 85), (135, 85), (136, 74), (137, 74), (138, 74), (139, 74), (140, 74), (141, 83), (142, 83), (143, 83), (144, 83), (145, 83), (146, 83), (147, 76), (148, 76), (149, 76), (150, 85), (151, 85), (152, 77), (153, 74), (154, 74), (155, 74), (156, 83), (157, 83), (158, 83), (159, 83), (160, 83), (161, 83), (162, 76), (163, 76), (164, 76), (165, 77), (166, 74), (167, 74), (168, 74), (169, 74), (170, 83), (171, 83), (172, 83), (173, 83), (174, 83), (175, 83), (176, 83), (177, 76), (178, 76), (179, 77), (180, 74), (181, 74), (182, 83), (183, 83), (184, 83), (185, 74), (186, 74), (187, 74), (188, 83), (189, 83), (190, 83), (191, 83), (192, 83), (193, 83), (194, 83), (195, 83), (196, 83), (197, 83), (198, 83), (199, 73)]
theorem iniT_ok : iniT.all (fun e => (decide (lw_tbl[e.2]? = some (Cond.initialized (mN e.1).cls)) && goodWord (Cond.initialized (mN e.1).cls))) = true := by decide +kernel
theorem ini_all : ∀ m, m < 200 → iniT.any (fun e => e.1 == m) = true := by decide +kernel
theorem ini_in (m : Nat) (hm : m < 200) : Cond.initialized (mN m).cls ∈ wsAll := by
  obtain ⟨e, he, h2⟩ := List.any_eq_true.mp (ini_all m hm)
  have h3 := List.all_eq_true.mp iniT_ok e he
  simp only [beq_iff_eq] at h2
  subst h2
  exact wsAll_and h3
def kdl : List Nat := [1, 0, 0, 2, 0, 0, 0, 0, 0, 0, 1, 0, 0, 0, 0, 0, 0, 0, 0, 2, 1, 1, 2, 0, 0, 0, 0, 2, 0, 0, 0, 0, 0, 0, 0, 1, 0, 0, 0, 0, 0, 0, 0, 0, 0, 0, 0, 0, 0, 0, 0, 2, 0, 2, 0, 0, 0, 1, 1, 1, 1, 1, 1, 0, 0, 0, 0, 0, 0, 0, 0, 0, 1, 1, 0, 2, 0, 0, 0, 0, 0, 0, 0, 2, 0, 0, 0, 0, 0, 0, 0, 0, 0, 0, 0, 0, 0, 1, 1, 0, 1, 0, 1, 1, 1, 1, 1, 0, 0, 0, 0, 1, 1, 1, 1, 1, 1, 0, 0, 0, 0, 0, 0, 0, 0, 0, 0, 0, 0, 0, 1, 1, 1, 0, 1, 1, 0, 0, 0, 2, 0, 0, 0, 0, 0, 0, 0, 1, 1, 0, 1, 1, 0, 0, 0, 0, 0, 0, 0, 0, 0, 0, 0, 0, 0, 0, 0, 0, 0, 0, 0, 0, 0, 0, 0, 0, 0, 0, 0, 0, 0, 0, 0, 0, 0, 0, 0, 0, 0, 0, 0, 0, 0, 0, 0, 0, 0, 0, 0, 1]
def kd (m : Nat) : Nat := kdl.getD m 9
def stcT : List (Nat × Nat) := [(0, 336), (10, 888), (20, 566), (21, 544), (35, 283), (57, 323), (58, 333), (59, 343), (60, 537), (61, 541), (62, 533), (72, 498), (73, 558), (97, 330), (98, 320), (100, 362), (102, 365), (103, 609), (104, 530), (105, 547), (106, 521), (111, 495), (112, 432), (113, 550), (114, 612), (115, 508), (116, 512), (130, 379), (131, 359), (132, 516), (134, 490), (135, 501), (147, 376), (148, 390), (150, 487), (151, 606)]
theorem stcT_ok : stcT.all (fun e => (decide (lw_tbl[e.2]? = some (Cond.static (mN e.1))) && goodWord (Cond.static (mN e.1)))) = true := by decide +kernel
def insT : List (Nat × Nat × Nat) := [(1, 664, 665), (2, 672, 673), (3, 219, 0), (4, 660, 661), (5, 403, 404), (6, 929, 47), (7, 788, 15), (8, 958, 52), (9, 1072, 72), (11, 723, 12), (12, 820, 23), (13, 1092, 1093), (14, 1088, 1089), (15, 784, 14), (16, 574, 575), (17, 413, 414), (18, 684, 685), (19, 111, 0), (22, 130, 0), (23, 458, 459), (24, 470, 471), (25, 249, 250), (26, 398, 399), (27, 99, 0), (28, 308, 309), (29, 326, 327), (30, 237, 238), (31, 578, 579), (32, 466, 4), (33, 641, 10), (34, 676, 677), (36, 407, 408), (37, 884, 885), (38, 1100, 1101), (39, 1002, 63), (40, 945, 50), (41, 909, 42), (42, 800, 18), (43, 1096, 1097), (44, 719, 11), (45, 816, 22), (46, 780, 13), (47, 1035, 67), (48, 876, 37), (49, 1079, 1080), (50, 601, 602), (51, 186, 0), (52, 651, 652), (53, 204, 0), (54, 706, 707), (55, 702, 703), (56, 688, 689), (63, 592, 593), (64, 253, 254), (65, 504, 505), (66, 304, 305), (67, 525, 526), (68, 245, 246), (69, 554, 555), (70, 233, 234), (71, 291, 292), (74, 628, 629), (75, 124, 0), (76, 443, 3), (77, 668, 669), (78, 1043, 69), (79, 1017, 1018), (80, 925, 46), (81, 1025, 1026), (82, 978, 57), (83, 714, 0), (84, 812, 21), (85, 897, 39), (86, 796, 17), (87, 921, 45), (88, 840, 28), (89, 994, 61), (90, 1014, 66), (91, 937, 49), (92, 990, 60), (93, 917, 44), (94, 1084, 1085), (95, 880, 38), (96, 698, 699), (99, 350, 351), (101, 340, 0), (107, 295, 296), (108, 287, 288), (109, 241, 242), (110, 300, 301), (117, 680, 681), (118, 598, 8), (119, 647, 648), (120, 656, 657), (121, 1039, 68), (122, 913, 43), (123, 828, 25), (124, 962, 53), (125, 901, 40), (126, 836, 27), (127, 872, 36), (128, 792, 16), (129, 312, 313), (133, 393, 394), (136, 571, 7), (137, 417, 418), (138, 694, 695), (139, 91, 0), (140, 428, 2), (141, 1029, 1030), (142, 905, 41), (143, 933, 48), (144, 852, 31), (145, 824, 24), (146, 856, 32), (149, 355, 356), (152, 476, 5), (153, 562, 563), (154, 582, 583), (155, 423, 424), (156, 970, 55), (157, 1010, 65), (158, 808, 20), (159, 848, 30), (160, 986, 59), (161, 892, 893), (162, 346, 347), (163, 387, 1), (164, 372, 373), (165, 482, 6), (166, 586, 587), (167, 637, 9), (168, 620, 621), (169, 615, 616), (170, 982, 58), (171, 966, 54), (172, 1006, 64), (173, 998, 62), (174, 860, 33), (175, 844, 29), (176, 868, 35), (177, 382, 383), (178, 368, 369), (179, 454, 455), (180, 438, 439), (181, 632, 633), (182, 940, 941), (183, 864, 34), (184, 974, 56), (185, 624, 625), (186, 279, 280), (187, 450, 451), (188, 1068, 71), (189, 832, 26), (190, 1055, 70), (191, 954, 51), (192, 1046, 1047), (193, 1058, 1059), (194, 1062, 1063), (195, 1050, 1051), (196, 804, 19), (197, 948, 949), (198, 775, 776)]
theorem insT_ok : insT.all (fun e => (decide (lw_tbl[e.2.1]? = some (Cond.instanceMethod (mN e.1))) && goodWord (Cond.instanceMethod (mN e.1)))) = true := by decide +kernel
theorem selT_ok : insT.all (fun e => decide (kd e.1 = 2) || (decide (lw_tbl[e.2.2]? = some (Cond.selects (mN e.1).cls (mN e.1) (mN e.1))) && goodWord (Cond.selects (mN e.1).cls (mN e.1) (mN e.1)))) = true := by decide +kernel
theorem kd_all : ∀ m, m < 199 → ((kd m = 1 ∧ stcT.any (fun e => e.1 == m) = true) ∨ (kd m ≠ 1 ∧ insT.any (fun e => e.1 == m) = true)) := by decide +kernel
theorem stc_in (m : Nat) (hm : m < 199) (hk : kd m = 1) : Cond.static (mN m) ∈ wsAll := by
  rcases kd_all m hm with ⟨-, h⟩ | ⟨h, -⟩
  · obtain ⟨e, he, h2⟩ := List.any_eq_true.mp h
    have h3 := List.all_eq_true.mp stcT_ok e he
    simp only [beq_iff_eq] at h2
    subst h2
    exact wsAll_and h3
  · exact absurd hk h
theorem ins_in (m : Nat) (hm : m < 199) (hk : kd m ≠ 1) : Cond.instanceMethod (mN m) ∈ wsAll := by
  rcases kd_all m hm with ⟨h, -⟩ | ⟨-, h⟩
  · exact absurd h hk
  · obtain ⟨e, he, h2⟩ := List.any_eq_true.mp h
    have h3 := List.all_eq_true.mp insT_ok e he
    simp only [beq_iff_eq] at h2
    subst h2
    exact wsAll_and h3
theorem sel_in (m : Nat) (hm : m < 199) (hk : kd m = 0) : Cond.selects (mN m).cls (mN m) (mN m) ∈ wsAll := by
  rcases kd_all m hm with ⟨h, -⟩ | ⟨-, h⟩
  · exact absurd (hk.symm.trans h) (by decide)
  · obtain ⟨e, he, h2⟩ := List.any_eq_true.mp h
    have h3 := List.all_eq_true.mp selT_ok e he
    simp only [beq_iff_eq] at h2
    subst h2
    rw [Bool.or_eq_true] at h3
    rcases h3 with h3 | h3
    · exact absurd (hk.symm.trans (of_decide_eq_true h3)) (by decide)
    · exact wsAll_and h3
def oNm (c : Nat) : String := (["StrongCells", "StrongCells$Book", "StrongCells$Deeds", "StrongCells$Images", "StrongCells$Judge", "StrongCells$Plan", "StrongCells$Shelf", "StrongCells$State", "StrongCells$Steps", "StrongCells$Ways", "StrongCellsLaw", "StrongCellsModel", "java/util/Arrays"] : List String).getD c ""
def mCl : List Nat := [12, 1, 1, 1, 1, 1, 11, 11, 11, 11, 11, 11, 11, 11, 11, 11, 2, 2, 3, 4, 5, 5, 6, 6, 6, 7, 7, 7, 7, 7, 7, 9, 9, 0, 0, 0, 1, 11, 11, 11, 11, 11, 11, 11, 11, 11, 11, 11, 11, 11, 2, 2, 2, 3, 3, 3, 3, 4, 4, 4, 5, 5, 5, 7, 7, 7, 7, 7, 7, 7, 7, 7, 8, 8, 9, 9, 0, 0, 11, 11, 11, 11, 11, 11, 11, 11, 11, 11, 11, 11, 11, 11, 11, 11, 11, 11, 3, 4, 4, 4, 4, 4, 4, 5, 5, 5, 5, 7, 7, 7, 7, 8, 8, 8, 8, 8, 8, 0, 0, 0, 0, 11, 11, 11, 11, 11, 11, 11, 11, 4, 4, 4, 5, 7, 8, 8, 0, 0, 0, 0, 0, 11, 11, 11, 11, 11, 11, 4, 4, 4, 8, 8, 9, 0, 0, 0, 11, 11, 11, 11, 11, 11, 4, 4, 4, 9, 0, 0, 0, 0, 11, 11, 11, 11, 11, 11, 11, 4, 4, 9, 0, 0, 11, 11, 11, 0, 0, 0, 11, 11, 11, 11, 11, 11, 11, 11, 11, 11, 11, 10]
def mC (m : Nat) : Nat := mCl.getD m 99
theorem mC_ok : ∀ m, m < 200 → (mN m).cls = oNm (mC m) := by decide +kernel
def mK (m : Nat) : Nat := ([99, 0, 0, 0, 0, 0, 8, 8, 8, 8, 8, 8, 8, 8, 8, 8, 1, 1, 2, 3, 99, 99, 4, 4, 4, 5, 5, 5, 5, 5, 5, 6, 6, 7, 7, 7, 0, 8, 8, 8, 8, 8, 8, 8, 8, 8, 8, 8, 8, 8, 1, 1, 1, 2, 2, 2, 2, 3, 3, 3, 99, 99, 99, 5, 5, 5, 5, 5, 5, 5, 5, 5, 99, 99, 6, 6, 7, 7, 8, 8, 8, 8, 8, 8, 8, 8, 8, 8, 8, 8, 8, 8, 8, 8, 8, 8, 2, 3, 3, 3, 3, 3, 3, 99, 99, 99, 99, 5, 5, 5, 5, 99, 99, 99, 99, 99, 99, 7, 7, 7, 7, 8, 8, 8, 8, 8, 8, 8, 8, 3, 3, 3, 99, 5, 99, 99, 7, 7, 7, 7, 7, 8, 8, 8, 8, 8, 8, 3, 3, 3, 99, 99, 6, 7, 7, 7, 8, 8, 8, 8, 8, 8, 3, 3, 3, 6, 7, 7, 7, 7, 8, 8, 8, 8, 8, 8, 8, 3, 3, 6, 7, 7, 8, 8, 8, 7, 7, 7, 8, 8, 8, 8, 8, 8, 8, 8, 8, 8, 8, 99] : List Nat).getD m 99
theorem mK_ok : ∀ m, m < 200 → mK m < 9 → (mN m).cls = cNm (mK m) := by decide +kernel
def flT : List (Nat × Nat × Nat × Nat × Nat) := [(7, 11, 5, 0, 102), (6, 22, 5, 0, 103), (4, 11, 3, 0, 114), (4, 17, 3, 1, 115), (6, 17, 4, 0, 138), (9, 16, 6, 0, 144), (9, 20, 6, 1, 145), (9, 26, 6, 2, 146), (9, 30, 6, 3, 147), (9, 34, 6, 4, 148), (9, 37, 6, 5, 149), (9, 45, 6, 6, 150), (0, 143, 6, 6, 151), (9, 49, 6, 7, 152), (0, 146, 6, 7, 153), (9, 52, 6, 8, 154), (0, 149, 6, 8, 155), (9, 55, 6, 9, 156), (0, 187, 6, 9, 157), (9, 58, 6, 10, 158), (0, 152, 6, 10, 159), (2, 14, 1, 0, 191), (2, 22, 1, 1, 192), (2, 18, 1, 2, 193), (3, 14, 2, 0, 209), (3, 20, 2, 1, 210), (1, 11, 0, 0, 222), (1, 15, 0, 1, 223), (1, 18, 0, 2, 224), (0, 10, 7, 0, 256), (0, 19, 7, 1, 257), (0, 26, 7, 2, 258), (0, 33, 7, 3, 259), (0, 40, 7, 4, 260), (0, 47, 7, 5, 261), (0, 101, 7, 6, 262), (11, 7, 8, 0, 725), (11, 39, 8, 1, 726), (11, 282, 8, 2, 727), (11, 219, 8, 3, 728), (11, 13, 8, 4, 729), (11, 16, 8, 5, 730), (11, 19, 8, 6, 731), (11, 207, 8, 7, 732), (11, 22, 8, 8, 733), (11, 25, 8, 9, 734), (11, 28, 8, 10, 735), (11, 179, 8, 11, 736), (11, 182, 8, 12, 737), (11, 176, 8, 13, 738), (11, 185, 8, 14, 739), (11, 272, 8, 15, 740)]
theorem flT_ok : flT.all (fun e => (decide (lw_tbl[e.2.2.2.2]? = some (Cond.fieldLink (oNm e.1) e.2.1 (TTT e.2.2.1 e.2.2.2.1).1 (TTT e.2.2.1 e.2.2.2.1).2.1 (TTT e.2.2.1 e.2.2.2.1).2.2.1)) && goodWord (Cond.fieldLink (oNm e.1) e.2.1 (TTT e.2.2.1 e.2.2.2.1).1 (TTT e.2.2.1 e.2.2.2.1).2.1 (TTT e.2.2.1 e.2.2.2.1).2.2.1)) && decide (e.2.2.1 < 9) && decide (e.2.2.2.1 < cNf e.2.2.1)) = true := by decide +kernel
def flk (m idx : Nat) : Option (Nat × Nat) := (flT.find? (fun e => e.1 == mC m && e.2.1 == idx)).map (fun e => (e.2.2.1, e.2.2.2.1))
theorem flk_ok {m idx ci k : Nat} (hm : m < 200) (h : flk m idx = some (ci, k)) : Cond.fieldLink (mN m).cls idx (TTT ci k).1 (TTT ci k).2.1 (TTT ci k).2.2.1 ∈ wsAll ∧ ci < 9 ∧ k < cNf ci := by
  unfold flk at h
  rw [Option.map_eq_some_iff] at h
  obtain ⟨e, he, h2⟩ := h
  have hm2 := List.mem_of_find?_eq_some he
  have hp := List.find?_some he
  simp only [Bool.and_eq_true, beq_iff_eq] at hp
  have h3 := List.all_eq_true.mp flT_ok e hm2
  simp only [Bool.and_eq_true, decide_eq_true_eq] at h3
  cases h2
  obtain ⟨⟨h4, h5⟩, h6⟩ := h3
  rw [mC_ok m hm, ← hp.1, ← hp.2]
  exact ⟨wsAll_of h4.1 h4.2, h5, h6⟩
def mlT : List (Nat × Nat × Nat × Nat) := [(10, 9, 139, 90), (9, 13, 22, 129), (2, 11, 22, 190), (3, 11, 22, 208), (0, 51, 70, 232), (7, 15, 30, 236), (0, 55, 109, 240), (7, 19, 68, 244), (7, 23, 25, 248), (7, 27, 64, 252), (10, 13, 186, 278), (0, 58, 35, 282), (0, 63, 108, 286), (7, 30, 71, 290), (0, 67, 107, 294), (0, 70, 25, 298), (0, 74, 110, 299), (7, 38, 66, 303), (7, 34, 28, 307), (0, 77, 129, 311), (4, 34, 25, 315), (4, 64, 98, 319), (4, 28, 57, 322), (4, 80, 29, 325), (4, 67, 97, 329), (4, 83, 58, 332), (4, 70, 0, 335), (4, 76, 101, 338), (4, 24, 59, 342), (0, 81, 162, 345), (4, 46, 99, 349), (4, 20, 71, 353), (4, 49, 149, 354), (4, 31, 131, 358), (4, 86, 100, 361), (4, 38, 102, 364), (0, 85, 178, 367), (4, 52, 164, 371), (4, 42, 147, 375), (4, 89, 130, 378), (0, 88, 177, 381), (4, 55, 163, 385), (4, 92, 148, 389), (0, 91, 133, 392), (7, 42, 107, 396), (7, 45, 26, 397), (0, 94, 5, 402), (0, 97, 36, 406), (1, 24, 25, 410), (1, 28, 29, 411), (0, 100, 17, 412), (10, 18, 137, 416), (0, 106, 26, 421), (10, 22, 155, 422), (0, 109, 140, 426), (0, 113, 28, 430), (0, 117, 112, 431), (8, 50, 66, 434), (8, 53, 28, 435), (8, 11, 25, 436), (10, 27, 180, 437), (0, 123, 76, 441), (0, 126, 29, 445), (0, 129, 99, 446), (0, 133, 149, 447), (0, 136, 164, 448), (10, 31, 187, 449), (0, 139, 179, 453), (9, 61, 23, 457), (9, 64, 32, 464), (9, 41, 24, 469), (9, 68, 110, 473), (9, 72, 152, 474), (9, 86, 129, 479), (9, 76, 165, 480), (9, 92, 108, 484), (9, 95, 112, 485), (9, 101, 150, 486), (8, 57, 134, 489), (8, 27, 68, 492), (8, 72, 26, 493), (8, 75, 111, 494), (8, 60, 72, 497), (8, 63, 135, 500), (8, 81, 65, 503), (8, 85, 115, 507), (8, 66, 116, 511), (8, 78, 64, 514), (8, 42, 132, 515), (5, 23, 28, 518), (5, 27, 68, 519), (5, 31, 106, 520), (5, 19, 25, 523), (5, 9, 67, 524), (5, 15, 65, 528), (5, 37, 104, 529), (5, 45, 62, 532), (5, 60, 29, 535), (5, 49, 60, 536), (5, 52, 71, 539), (5, 56, 61, 540), (5, 63, 21, 543), (5, 41, 105, 546), (8, 69, 113, 549), (8, 19, 67, 552), (8, 15, 69, 553), (8, 46, 73, 557), (8, 23, 30, 560), (10, 35, 153, 561), (0, 155, 20, 565), (0, 162, 136, 569), (0, 221, 16, 573), (0, 201, 31, 577), (10, 40, 154, 581), (10, 45, 166, 585), (0, 165, 67, 589), (0, 168, 66, 590), (0, 171, 63, 591), (0, 176, 118, 596), (0, 231, 50, 600), (2, 25, 23, 604), (0, 179, 151, 605), (8, 30, 103, 608), (8, 36, 114, 611), (10, 49, 169, 614), (0, 183, 150, 618), (10, 53, 168, 619), (10, 57, 185, 623), (0, 190, 74, 627), (10, 61, 181, 631), (0, 194, 167, 635), (0, 233, 33, 639), (10, 65, 119, 646), (0, 197, 52, 650), (2, 29, 24, 654), (10, 69, 120, 655), (0, 204, 4, 659), (0, 207, 1, 663), (10, 73, 77, 667), (0, 211, 2, 671), (10, 77, 34, 675), (10, 81, 117, 679), (0, 214, 18, 683), (0, 217, 56, 687), (3, 28, 18, 691), (3, 32, 23, 692), (10, 85, 138, 693), (0, 222, 96, 697), (3, 24, 55, 701), (0, 225, 54, 705), (3, 36, 24, 709), (0, 228, 55, 710), (10, 12, 83, 713), (11, 31, 44, 717), (11, 43, 11, 721), (10, 17, 198, 774), (11, 86, 46, 778), (11, 47, 15, 782), (11, 204, 7, 786), (11, 223, 128, 790), (11, 83, 86, 794), (11, 51, 42, 798), (11, 226, 196, 802), (11, 173, 158, 806), (11, 130, 84, 810), (11, 127, 45, 814), (11, 54, 12, 818), (11, 169, 145, 822), (11, 137, 123, 826), (11, 210, 189, 830), (11, 156, 126, 834), (11, 134, 88, 838), (11, 163, 175, 842), (11, 144, 159, 846), (11, 141, 144, 850), (11, 147, 146, 854), (11, 153, 174, 858), (11, 166, 183, 862), (11, 159, 176, 866), (11, 150, 127, 870), (11, 213, 48, 874), (11, 216, 95, 878), (10, 21, 37, 883), (11, 229, 10, 887), (10, 26, 161, 891), (11, 234, 85, 895), (11, 89, 125, 899), (11, 77, 142, 903), (11, 57, 41, 907), (11, 71, 122, 911), (11, 64, 93, 915), (11, 68, 87, 919), (11, 74, 80, 923), (11, 61, 6, 927), (11, 188, 143, 931), (11, 98, 91, 935), (10, 30, 182, 939), (11, 237, 40, 943), (10, 34, 197, 947), (11, 242, 191, 952), (11, 35, 8, 956), (11, 191, 124, 960), (11, 195, 171, 964), (11, 198, 156, 968), (11, 201, 184, 972), (11, 111, 82, 976), (11, 114, 170, 980), (11, 92, 160, 984), (11, 80, 92, 988), (11, 95, 89, 992), (11, 118, 173, 996), (11, 101, 39, 1000), (11, 121, 172, 1004), (11, 104, 157, 1008), (11, 107, 90, 1012), (10, 39, 79, 1016), (10, 44, 81, 1024), (10, 48, 141, 1028), (11, 253, 47, 1033), (11, 256, 121, 1037), (11, 124, 78, 1041), (10, 52, 192, 1045), (10, 56, 195, 1049), (11, 259, 190, 1053), (10, 60, 193, 1057), (10, 64, 194, 1061), (11, 277, 188, 1066), (11, 269, 9, 1070), (10, 68, 49, 1078), (10, 72, 94, 1083), (10, 76, 14, 1087), (10, 80, 13, 1091), (10, 84, 43, 1095), (10, 88, 38, 1099)]
theorem mlT_ok : mlT.all (fun e => (decide (lw_tbl[e.2.2.2]? = some (Cond.methodLink (oNm e.1) e.2.1 (mN e.2.2.1))) && goodWord (Cond.methodLink (oNm e.1) e.2.1 (mN e.2.2.1))) && decide (e.2.2.1 < 199)) = true := by decide +kernel
def mlk (m idx : Nat) : Option Nat := (mlT.find? (fun e => e.1 == mC m && e.2.1 == idx)).map (fun e => e.2.2.1)
theorem mlk_ok {m idx y : Nat} (hm : m < 200) (h : mlk m idx = some y) : Cond.methodLink (mN m).cls idx (mN y) ∈ wsAll ∧ y < 199 := by
  unfold mlk at h
  rw [Option.map_eq_some_iff] at h
  obtain ⟨e, he, h2⟩ := h
  have hm2 := List.mem_of_find?_eq_some he
  have hp := List.find?_some he
  simp only [Bool.and_eq_true, beq_iff_eq] at hp
  have h3 := List.all_eq_true.mp mlT_ok e hm2
  simp only [Bool.and_eq_true, decide_eq_true_eq] at h3
  cases h2
  obtain ⟨h4, h5⟩ := h3
  rw [mC_ok m hm, ← hp.1, ← hp.2]
  exact ⟨wsAll_of h4.1 h4.2, h5⟩
def nsT : List (Nat × Nat × Nat × Nat × String) := [(0, 9, 27, 98, "StrongCells"), (0, 18, 19, 110, "StrongCells"), (0, 25, 75, 123, "StrongCells"), (9, 25, 27, 143, "StrongCells"), (0, 32, 51, 185, "StrongCells"), (0, 39, 53, 203, "StrongCells"), (0, 46, 3, 218, "StrongCells")]
def nstW : List Cond := nsT.map (fun e => Cond.methodLinkNest (oNm e.1) e.2.1 (mN e.2.2.1) e.2.2.2.2)
theorem nsT_ok : nsT.all (fun e => decide (lw_tbl[e.2.2.2.1]? = some (Cond.methodLinkNest (oNm e.1) e.2.1 (mN e.2.2.1) e.2.2.2.2)) && decide (e.2.2.1 < 199)) = true := by decide +kernel
theorem nstW_in : ∀ w ∈ nstW, w ∈ lw_tbl := by
  intro w hw
  obtain ⟨e, he, rfl⟩ := List.mem_map.mp hw
  have h3 := List.all_eq_true.mp nsT_ok e he
  simp only [Bool.and_eq_true, decide_eq_true_eq] at h3
  exact List.mem_of_getElem? h3.1
def nsk (m idx : Nat) : Option (Nat × String) := (nsT.find? (fun e => e.1 == mC m && e.2.1 == idx)).map (fun e => (e.2.2.1, e.2.2.2.2))
theorem nsk_ok {m idx y : Nat} {host : String} (hm : m < 200) (h : nsk m idx = some (y, host)) : Cond.methodLinkNest (mN m).cls idx (mN y) host ∈ nstW ∧ y < 199 := by
  unfold nsk at h
  rw [Option.map_eq_some_iff] at h
  obtain ⟨e, he, h2⟩ := h
  have hm2 := List.mem_of_find?_eq_some he
  have hp := List.find?_some he
  simp only [Bool.and_eq_true, beq_iff_eq] at hp
  have h3 := List.all_eq_true.mp nsT_ok e hm2
  simp only [Bool.and_eq_true, decide_eq_true_eq] at h3
  cases h2
  obtain ⟨h4, h5⟩ := h3
  rw [mC_ok m hm, ← hp.1, ← hp.2]
  exact ⟨List.mem_map.mpr ⟨e, hm2, rfl⟩, h5⟩
def spN (k : Nat) : MethodName := match k with
  | 0 => Lib.objectInit
  | 1 => Lib.Math.max.name
  | 2 => Lib.Math.min.name
  | _ => arraycopyName
def spT : List (Nat × Nat × Nat × Nat) := [(0, 1, 0, 93), (7, 5, 0, 101), (4, 5, 0, 113), (9, 3, 0, 126), (6, 1, 0, 132), (6, 7, 1, 133), (2, 1, 0, 188), (3, 3, 0, 206), (1, 3, 0, 221), (4, 58, 2, 316), (7, 50, 1, 401), (6, 26, 3, 461), (9, 80, 1, 478), (8, 88, 1, 510), (11, 1, 0, 716)]
theorem spT_ok : spT.all (fun e => (decide (lw_tbl[e.2.2.2]? = some (Cond.methodLink (oNm e.1) e.2.1 (spN e.2.2.1))) && goodWord (Cond.methodLink (oNm e.1) e.2.1 (spN e.2.2.1)))) = true := by decide +kernel
def spk (m idx : Nat) : Option Nat := (spT.find? (fun e => e.1 == mC m && e.2.1 == idx)).map (fun e => e.2.2.1)
theorem spk_ok {m idx y : Nat} (hm : m < 200) (h : spk m idx = some y) : Cond.methodLink (mN m).cls idx (spN y) ∈ wsAll := by
  unfold spk at h
  rw [Option.map_eq_some_iff] at h
  obtain ⟨e, he, h2⟩ := h
  have hm2 := List.mem_of_find?_eq_some he
  have hp := List.find?_some he
  simp only [Bool.and_eq_true, beq_iff_eq] at hp
  have h3 := List.all_eq_true.mp spT_ok e hm2
  cases h2
  rw [mC_ok m hm, ← hp.1, ← hp.2]
  exact wsAll_and h3
theorem sp_w0 : Cond.instanceMethod Lib.objectInit ∈ wsAll := wsAll_of (i := 94) (by decide +kernel) (by decide +kernel)
theorem sp_w1 : Cond.code Lib.objectInit ⟨#[0xb1]⟩ 1 none ∈ wsAll := wsAll_of (i := 95) (by decide +kernel) (by decide +kernel)
theorem sp_maxs : Cond.static Lib.Math.max.name ∈ wsAll := wsAll_of (i := 134) (by decide +kernel) (by decide +kernel)
theorem sp_maxc : Cond.code Lib.Math.max.name Lib.Math.max.code 2 (some .int) ∈ wsAll := wsAll_of (i := 135) (by decide +kernel) (by decide +kernel)
theorem sp_mins : Cond.static Lib.Math.min.name ∈ wsAll := wsAll_of (i := 317) (by decide +kernel) (by decide +kernel)
theorem sp_minc : Cond.code Lib.Math.min.name Lib.Math.min.code 2 (some .int) ∈ wsAll := wsAll_of (i := 318) (by decide +kernel) (by decide +kernel)
theorem sp_mi : Cond.initialized "java/lang/Math" ∈ wsAll := wsAll_of (i := 79) (by decide +kernel) (by decide +kernel)
theorem sp_acn : Cond.native arraycopyName ∈ wsAll := wsAll_of (i := 463) (by decide +kernel) (by decide +kernel)
theorem sp_acs : Cond.static arraycopyName ∈ wsAll := wsAll_of (i := 462) (by decide +kernel) (by decide +kernel)
theorem sp_aci : Cond.initialized "java/lang/System" ∈ wsAll := wsAll_of (i := 86) (by decide +kernel) (by decide +kernel)
theorem sp_arI : Cond.arrayClass .int ∈ wsAll := wsAll_of (i := 107) (by decide +kernel) (by decide +kernel)
theorem sp_arO : Cond.arrayOver (.array .int) ∈ lw_tbl := List.mem_of_getElem? (i := 137) (by decide +kernel)
def clT : List (Nat × Nat × Nat × Nat × Nat × Nat) := [(10, 7, 7, 88, 89, 74), (0, 7, 5, 96, 97, 75), (0, 16, 3, 108, 109, 76), (0, 23, 6, 121, 122, 77), (9, 9, 4, 127, 128, 78), (9, 23, 5, 142, 97, 75), (0, 30, 1, 183, 184, 80), (2, 7, 4, 189, 128, 78), (0, 37, 2, 201, 202, 81), (3, 9, 4, 207, 128, 78), (0, 44, 0, 216, 217, 82), (10, 10, 8, 711, 712, 83)]
theorem clT_ok : clT.all (fun e => (decide (lw_tbl[e.2.2.2.1]? = some (Cond.classLink (oNm e.1) e.2.1 (cNm e.2.2.1))) && goodWord (Cond.classLink (oNm e.1) e.2.1 (cNm e.2.2.1))) && (decide (lw_tbl[e.2.2.2.2.1]? = some (Cond.instantiable (cNm e.2.2.1) (cNf e.2.2.1))) && goodWord (Cond.instantiable (cNm e.2.2.1) (cNf e.2.2.1))) && (decide (lw_tbl[e.2.2.2.2.2]? = some (Cond.initialized (cNm e.2.2.1))) && goodWord (Cond.initialized (cNm e.2.2.1))) && decide (e.2.2.1 < 9)) = true := by decide +kernel
def clk (m idx : Nat) : Option Nat := (clT.find? (fun e => e.1 == mC m && e.2.1 == idx)).map (fun e => e.2.2.1)
theorem clk_ok {m idx y : Nat} (hm : m < 200) (h : clk m idx = some y) : Cond.classLink (mN m).cls idx (cNm y) ∈ wsAll ∧ Cond.instantiable (cNm y) (cNf y) ∈ wsAll ∧ Cond.initialized (cNm y) ∈ wsAll ∧ y < 9 := by
  unfold clk at h
  rw [Option.map_eq_some_iff] at h
  obtain ⟨e, he, h2⟩ := h
  have hm2 := List.mem_of_find?_eq_some he
  have hp := List.find?_some he
  simp only [Bool.and_eq_true, beq_iff_eq] at hp
  have h3 := List.all_eq_true.mp clT_ok e hm2
  simp only [Bool.and_eq_true, decide_eq_true_eq] at h3
  cases h2
  obtain ⟨⟨⟨h4, h5⟩, h6⟩, h7⟩ := h3
  rw [mC_ok m hm, ← hp.1, ← hp.2]
  exact ⟨wsAll_of h4.1 h4.2, wsAll_of h5.1 h5.2, wsAll_of h6.1 h6.2, h7⟩
theorem mna_w : Cond.classLink "StrongCells$Shelf" 15 "[[I" ∈ wsAll := wsAll_of (i := 136) (by decide +kernel) (by decide +kernel)
def mnaM : Nat := 22
def mnaI : Nat := 15
def kiT : List (Nat × Nat × Int32 × Nat) := [(0, 62, (-1000000002), 285), (0, 105, (-1000000001), 420), (9, 67, (1000000), 468), (0, 161, (-1000000003), 568), (0, 175, (-1000000004), 595), (0, 236, (1103515245), 643), (0, 237, (2147483647), 644), (0, 238, (65536), 645), (11, 222, (-1000000002), 882), (11, 233, (-1000000001), 890), (11, 251, (-1000000003), 1023), (11, 252, (-1000000004), 1032), (11, 268, (65536), 1077)]
theorem kiT_ok : kiT.all (fun e => (decide (lw_tbl[e.2.2.2]? = some (Cond.constant (oNm e.1) e.2.1 e.2.2.1)) && goodWord (Cond.constant (oNm e.1) e.2.1 e.2.2.1))) = true := by decide +kernel
def kik (m idx : Nat) : Option Int32 := (kiT.find? (fun e => e.1 == mC m && e.2.1 == idx)).map (fun e => e.2.2.1)
theorem kik_ok {m idx : Nat} {v : Int32} (hm : m < 200) (h : kik m idx = some v) : Cond.constant (mN m).cls idx v ∈ wsAll := by
  unfold kik at h
  rw [Option.map_eq_some_iff] at h
  obtain ⟨e, he, h2⟩ := h
  have hm2 := List.mem_of_find?_eq_some he
  have hp := List.find?_some he
  simp only [Bool.and_eq_true, beq_iff_eq] at hp
  have h3 := List.all_eq_true.mp kiT_ok e hm2
  cases h2
  rw [mC_ok m hm, ← hp.1, ← hp.2]
  exact wsAll_and h3
def klT : List (Nat × Nat × Int64 × Nat) := [(11, 240, (3), 951), (11, 245, (5), 1020), (11, 247, (2), 1021), (11, 249, (4), 1022), (11, 275, (20), 1065), (11, 262, (1103515245), 1074), (11, 264, (12345), 1075), (11, 266, (2147483648), 1076), (11, 280, (16), 1082)]
theorem klT_ok : klT.all (fun e => (decide (lw_tbl[e.2.2.2]? = some (Cond.constantLong (oNm e.1) e.2.1 e.2.2.1)) && goodWord (Cond.constantLong (oNm e.1) e.2.1 e.2.2.1))) = true := by decide +kernel
def klk (m idx : Nat) : Option Int64 := (klT.find? (fun e => e.1 == mC m && e.2.1 == idx)).map (fun e => e.2.2.1)
theorem klk_ok {m idx : Nat} {v : Int64} (hm : m < 200) (h : klk m idx = some v) : Cond.constantLong (mN m).cls idx v ∈ wsAll := by
  unfold klk at h
  rw [Option.map_eq_some_iff] at h
  obtain ⟨e, he, h2⟩ := h
  have hm2 := List.mem_of_find?_eq_some he
  have hp := List.find?_some he
  simp only [Bool.and_eq_true, beq_iff_eq] at hp
  have h3 := List.all_eq_true.mp klT_ok e hm2
  cases h2
  rw [mC_ok m hm, ← hp.1, ← hp.2]
  exact wsAll_and h3
theorem m_plain : ∀ m, m < 200 → plainName (mN m).cls = true := by decide +kernel
theorem m_maxL : ∀ m, m < 200 → mL m ≤ 11 := by decide +kernel
theorem m_cls : ∀ m, m < 200 → (mN m).cls ≠ "java/lang/invoke/MethodHandle" ∧ (mN m).cls ≠ "java/lang/invoke/VarHandle" ∧ (parseMethodDescriptor (mN m).desc).map (fun d => d.parameters.length) = some (mP m) := by decide +kernel
theorem m_init : ∀ m, m < 200 → kd m = 2 → (mN m).name = "<init>" := by decide +kernel
theorem m_ht : ∀ m, m < 200 → 1 ≤ ht m := by decide +kernel
theorem m_ret : ∀ m, m < 200 → mR m = none ∨ mR m = some .int ∨ mR m = some .boolean := by decide +kernel
theorem m_retI : ∀ m, m < 200 → kd m = 2 → mR m = none := by decide +kernel
end
section
/-! THE SMALL MACHINE: the program's instructions over numbered cells; a cell's shape (kind, length, references) apart from its numbers -/
abbrev Shp : Type := Nat × Nat × (Nat → Option Nat)
/-- how many cells, the room that is left (cells, slots), shapes, numbers -/
abbrev Hp : Type := Nat × Nat × Nat × (Nat → Shp) × (Nat → Nat → Int32)
abbrev Rs : Type := Option Int32 × Hp
abbrev Cf : Type := Nat × List Value × List Value × Hp
abbrev So : Type := Option (Rs ⊕ Cf)
def upf {α : Type} (f : Nat → α) (k : Nat) (v : α) : Nat → α := fun j => if j = k then v else f j
def rv : Option Nat → Value
  | none => .null
  | some p => .ref p
abbrev hS (h : Hp) (a : Nat) : Shp := h.2.2.2.1 a
abbrev hG (h : Hp) (a : Nat) : Nat → Int32 := h.2.2.2.2 a
def setG (h : Hp) (a : Nat) (f : Nat → Int32) : Hp := (h.1, h.2.1, h.2.2.1, h.2.2.2.1, upf h.2.2.2.2 a f)
def setS (h : Hp) (a : Nat) (sh : Shp) : Hp := (h.1, h.2.1, h.2.2.1, upf h.2.2.2.1 a sh, h.2.2.2.2)
def nx (pc : Nat) (ls st : List Value) (h : Hp) : So := some (.inr (pc, ls, st, h))
abbrev inst (a : Nat) (h : Hp) (ci : Nat) : Prop := a ≠ 0 ∧ a ≤ h.1 ∧ (hS h a).1 = ci + 2
abbrev tg (pc : Nat) (off : Int) : Nat := ((pc : Int) + off).toNat
def hIld (i k pc : Nat) (ls st : List Value) (h : Hp) : So := match ls[i]? with
  | some (.int x) => nx (pc + k) ls (.int x :: st) h
  | _ => none
def hLld (i k pc : Nat) (ls st : List Value) (h : Hp) : So := match ls[i]? with
  | some (.long x) => nx (pc + k) ls (.long x :: st) h
  | _ => none
def hAld (i k pc : Nat) (ls st : List Value) (h : Hp) : So := match ls[i]? with
  | some (.ref x) => nx (pc + k) ls (.ref x :: st) h
  | _ => none
def hIst (m i k pc : Nat) (ls st : List Value) (h : Hp) : So := match st with
  | .int x :: st => if noL m = true ∧ i < ls.length then nx (pc + k) (ls.set i (.int x)) st h else none
  | _ => none
def hAst (m i k pc : Nat) (ls st : List Value) (h : Hp) : So := match st with
  | .ref x :: st => if noL m = true ∧ i < ls.length then nx (pc + k) (ls.set i (.ref x)) st h else none
  | _ => none
def hInc (m i : Nat) (n : Int) (pc : Nat) (ls st : List Value) (h : Hp) : So := match ls[i]? with
  | some (.int x) => if noL m = true then nx (pc + 3) (ls.set i (.int (x + Int32.ofInt n))) st h else none
  | _ => none
def hBin (f : Int32 → Int32 → Int32) (pc : Nat) (ls st : List Value) (h : Hp) : So := match st with
  | .int y :: .int x :: st => nx (pc + 1) ls (.int (f x y) :: st) h
  | _ => none
def hDiv (f : Int32 → Int32 → Int32) (pc : Nat) (ls st : List Value) (h : Hp) : So := match st with
  | .int y :: .int x :: st => if y = 0 then none else nx (pc + 1) ls (.int (f x y) :: st) h
  | _ => none
def hBinL (f : Int64 → Int64 → Int64) (pc : Nat) (ls st : List Value) (h : Hp) : So := match st with
  | .long y :: .long x :: st => nx (pc + 1) ls (.long (f x y) :: st) h
  | _ => none
def hRemL (pc : Nat) (ls st : List Value) (h : Hp) : So := match st with
  | .long y :: .long x :: st => if y = 0 then none else nx (pc + 1) ls (.long (x - x / y * y) :: st) h
  | _ => none
def hCmpL (pc : Nat) (ls st : List Value) (h : Hp) : So := match st with
  | .long y :: .long x :: st => nx (pc + 1) ls (.int (lg_cmp x y) :: st) h
  | _ => none
def hI2l (pc : Nat) (ls st : List Value) (h : Hp) : So := match st with
  | .int x :: st => nx (pc + 1) ls (.long x.toInt64 :: st) h
  | _ => none
def hL2i (pc : Nat) (ls st : List Value) (h : Hp) : So := match st with
  | .long x :: st => nx (pc + 1) ls (.int x.toInt32 :: st) h
  | _ => none
def hDup (pc : Nat) (ls st : List Value) (h : Hp) : So := match st with
  | .int x :: st => nx (pc + 1) ls (.int x :: .int x :: st) h
  | .ref x :: st => nx (pc + 1) ls (.ref x :: .ref x :: st) h
  | _ => none
def hDup2 (pc : Nat) (ls st : List Value) (h : Hp) : So := match st with
  | .int x :: .ref y :: st => nx (pc + 1) ls (.int x :: .ref y :: .int x :: .ref y :: st) h
  | _ => none
def hPop (pc : Nat) (ls st : List Value) (h : Hp) : So := match st with
  | .int _ :: st => nx (pc + 1) ls st h
  | _ => none
def hBr (pc : Nat) (off : Int) (c : Prop) [Decidable c] (ls st : List Value) (h : Hp) : So :=
  if 0 ≤ (pc : Int) + off then nx (if c then tg pc off else pc + 3) ls st h else none
def hIf (op : ClassFile.Cond) (off : Int) (pc : Nat) (ls st : List Value) (h : Hp) : So := match st with
  | .int x :: st => match op with
    | .eq => hBr pc off (x = 0) ls st h
    | .ne => hBr pc off (¬ x = 0) ls st h
    | .lt => hBr pc off (x < 0) ls st h
    | .ge => hBr pc off (0 ≤ x) ls st h
    | .gt => hBr pc off (0 < x) ls st h
    | .le => hBr pc off (x ≤ 0) ls st h
  | _ => none
def hIc (op : ClassFile.Cond) (off : Int) (pc : Nat) (ls st : List Value) (h : Hp) : So := match st with
  | .int y :: .int x :: st => match op with
    | .eq => hBr pc off (x = y) ls st h
    | .ne => hBr pc off (¬ x = y) ls st h
    | .lt => hBr pc off (x < y) ls st h
    | .ge => hBr pc off (y ≤ x) ls st h
    | .gt => hBr pc off (y < x) ls st h
    | .le => hBr pc off (x ≤ y) ls st h
  | _ => none
def hGo (off : Int) (pc : Nat) (ls st : List Value) (h : Hp) : So := if 0 ≤ (pc : Int) + off then nx (tg pc off) ls st h else none
/-- where a switch goes: the first of the numbers from k on that x is -/
def tsw (pc : Nat) (x : Int) (d : Int) : Int → List Int → Int
  | _, [] => d
  | k, o :: r => if x = k then o else tsw pc x d (k + 1) r
def hSw (d lo hi : Int) (offs : Array Int) (pc : Nat) (ls st : List Value) (h : Hp) : So := match st with
  | .int x :: st => if lo + offs.size = hi + 1 ∧ 0 ≤ (pc : Int) + d ∧ (∀ o ∈ offs.toList, 0 ≤ (pc : Int) + o) then nx (tg pc (tsw pc x.toInt d lo offs.toList)) ls st h else none
  | _ => none
def hGet (m idx pc : Nat) (ls st : List Value) (h : Hp) : So := match st, flk m idx with
  | .ref a :: st, some (ci, k) => if inst a h ci then nx (pc + 3) ls ((if isI ci k then .int (hG h a k) else rv ((hS h a).2.2 k)) :: st) h else none
  | _, _ => none
def hPut (m idx pc : Nat) (ls st : List Value) (h : Hp) : So := match st, flk m idx with
  | .int x :: .ref a :: st, some (ci, k) => if inst a h ci ∧ isI ci k = true ∧ (TTT ci k).2.2.2 = false ∧ (isZ ci k = true → x = 0 ∨ x = 1) then nx (pc + 3) ls st (setG h a (upd (hG h a) k x)) else none
  | .ref p :: .ref a :: st, some (ci, k) => if inst a h ci ∧ isI ci k = false ∧ (TTT ci k).2.2.2 = true ∧ kd m = 2 ∧ mK m = ci then nx (pc + 3) ls st (setS h a ((hS h a).1, (hS h a).2.1, upf (hS h a).2.2 k (some p))) else none
  | _, _ => none
def hIal (pc : Nat) (ls st : List Value) (h : Hp) : So := match st with
  | .int i :: .ref a :: st => if a ≤ h.1 ∧ (hS h a).1 = 0 ∧ ¬ (i < 0 ∨ (hS h a).2.1 ≤ i.toNatClampNeg) then nx (pc + 1) ls (.int (hG h a i.toNatClampNeg) :: st) h else none
  | _ => none
def hIas (pc : Nat) (ls st : List Value) (h : Hp) : So := match st with
  | .int x :: .int i :: .ref a :: st => if a ≠ 0 ∧ a ≤ h.1 ∧ (hS h a).1 = 0 ∧ ¬ (i < 0 ∨ (hS h a).2.1 ≤ i.toNatClampNeg) then nx (pc + 1) ls st (setG h a (upd (hG h a) i.toNatClampNeg x)) else none
  | _ => none
def hAal (pc : Nat) (ls st : List Value) (h : Hp) : So := match st with
  | .int i :: .ref a :: st => if a ≠ 0 ∧ a ≤ h.1 ∧ (hS h a).1 = 1 ∧ ¬ (i < 0 ∨ (hS h a).2.1 ≤ i.toNatClampNeg) then nx (pc + 1) ls (rv ((hS h a).2.2 i.toNatClampNeg) :: st) h else none
  | _ => none
def hLen (pc : Nat) (ls st : List Value) (h : Hp) : So := match st with
  | .ref a :: st => if a ≤ h.1 ∧ ((hS h a).1 = 0 ∨ (hS h a).1 = 1 ∧ a ≠ 0) then nx (pc + 1) ls (.int (Int32.ofNat (hS h a).2.1) :: st) h else none
  | _ => none
def hNwa (pc : Nat) (ls st : List Value) (h : Hp) : So := match st with
  | .int k :: st => if ¬ k < 0 ∧ 1 ≤ h.2.1 ∧ k.toNatClampNeg ≤ h.2.2.1 ∧ k.toNatClampNeg ≤ 100000 then
      nx (pc + 2) ls (.ref (h.1 + 1) :: st) (h.1 + 1, h.2.1 - 1, h.2.2.1 - k.toNatClampNeg, upf h.2.2.2.1 (h.1 + 1) (0, k.toNatClampNeg, fun _ => none), upf h.2.2.2.2 (h.1 + 1) (fun _ => 0)) else none
  | _ => none
def hMna (m idx pc : Nat) (ls st : List Value) (h : Hp) : So := match st with
  | .int k :: .int n :: st => if m = mnaM ∧ idx = mnaI ∧ ¬ n < 0 ∧ ¬ k < 0 ∧ 1 + n.toNatClampNeg ≤ h.2.1 ∧ n.toNatClampNeg + n.toNatClampNeg * k.toNatClampNeg ≤ h.2.2.1 ∧ n.toNatClampNeg ≤ 100000 ∧ k.toNatClampNeg ≤ 100000 then
      nx (pc + 4) ls (.ref (h.1 + 1) :: st) (h.1 + 1 + n.toNatClampNeg, h.2.1 - (1 + n.toNatClampNeg), h.2.2.1 - (n.toNatClampNeg + n.toNatClampNeg * k.toNatClampNeg),
        (fun j => if j = h.1 + 1 then (1, n.toNatClampNeg, fun i => if i < n.toNatClampNeg then some (h.1 + 2 + i) else none) else if h.1 + 2 ≤ j ∧ j < h.1 + 2 + n.toNatClampNeg then (0, k.toNatClampNeg, fun _ => none) else h.2.2.2.1 j),
        (fun j => if h.1 + 1 ≤ j ∧ j < h.1 + 2 + n.toNatClampNeg then fun _ => 0 else h.2.2.2.2 j)) else none
  | _ => none
def hNew (m idx pc : Nat) (ls st : List Value) (h : Hp) : So := match clk m idx with
  | some ci => if 1 ≤ h.2.1 ∧ cNf ci ≤ h.2.2.1 then
      nx (pc + 3) ls (.ref (h.1 + 1) :: st) (h.1 + 1, h.2.1 - 1, h.2.2.1 - cNf ci, upf h.2.2.2.1 (h.1 + 1) (ci + 2, 0, fun _ => none), upf h.2.2.2.2 (h.1 + 1) (fun _ => 0)) else none
  | none => none
def enH (y : Nat) (h : Hp) : Hp := (h.1, mc y, ms y, h.2.2.2.1, h.2.2.2.2)
def lvH (y : Nat) (h h' : Hp) : Hp := (h'.1, h.2.1 - mc y, h.2.2.1 - ms y, h'.2.2.2.1, h'.2.2.2.2)
def hCall (E : Nat → List Value → Hp → Option Rs) (y : Nat) (As rest : List Value) (pc : Nat) (ls : List Value) (h : Hp) : So :=
  if (rest.map fun v => v.category).sum ≤ 8 ∧ mc y ≤ h.2.1 ∧ ms y ≤ h.2.2.1 then
    match E y As (enH y h) with
    | some (r, h') => nx (pc + 3) ls ((r.map Value.int).toList ++ rest) (lvH y h h')
    | none => none
  else none
def hVir (E : Nat → List Value → Hp → Option Rs) (m idx pc : Nat) (ls st : List Value) (h : Hp) : So := match mlk m idx with
  | some y => if kd y = 0 then match st.drop (mP y) with
      | .ref a :: rest => if mK y < 9 ∧ inst a h (mK y) then hCall E y (.ref a :: (st.take (mP y)).reverse) rest pc ls h else none
      | _ => none
    else none
  | none => none
def hSta (E : Nat → List Value → Hp → Option Rs) (m idx pc : Nat) (ls st : List Value) (h : Hp) : So := match mlk m idx, spk m idx with
  | some y, _ => if kd y = 1 ∧ (st.take (mP y)).length = mP y then hCall E y (st.take (mP y)).reverse (st.drop (mP y)) pc ls h else none
  | none, some 1 => match st with
    | .int y :: .int x :: rest => if (rest.map fun v => v.category).sum ≤ 8 then nx (pc + 3) ls (.int (if x < y then y else x) :: rest) h else none
    | _ => none
  | none, some 2 => match st with
    | .int y :: .int x :: rest => if (rest.map fun v => v.category).sum ≤ 8 then nx (pc + 3) ls (.int (if y < x then y else x) :: rest) h else none
    | _ => none
  | none, some 3 => match st with
    | .int n :: .int dp :: .ref a1 :: .int sp :: .ref a0 :: rest =>
      if (rest.map fun v => v.category).sum ≤ 8 ∧ a0 ≠ 0 ∧ a0 ≤ h.1 ∧ a1 ≠ 0 ∧ a1 ≤ h.1 ∧ (hS h a0).1 = 0 ∧ (hS h a1).1 = 0 ∧ ¬ sp < 0 ∧ ¬ dp < 0 ∧ ¬ n < 0 ∧ sp.toNatClampNeg + n.toNatClampNeg ≤ (hS h a0).2.1 ∧ dp.toNatClampNeg + n.toNatClampNeg ≤ (hS h a1).2.1 then
        nx (pc + 3) ls rest (setG h a1 (va_cpy (hG h a0) (hG h a1) sp.toNatClampNeg dp.toNatClampNeg n.toNatClampNeg)) else none
    | _ => none
  | _, _ => none
def hSpe (E : Nat → List Value → Hp → Option Rs) (m idx pc : Nat) (ls st : List Value) (h : Hp) : So := match mlk m idx, nsk m idx, spk m idx with
  | some y, _, _ => if kd y = 2 then match st.drop (mP y) with
      | .ref a :: rest => if (st.take (mP y)).length = mP y then hCall E y (.ref a :: (st.take (mP y)).reverse) rest pc ls h else none
      | _ => none
    else none
  | none, some (y, _), _ => if kd y = 2 then match st.drop (mP y) with
      | .ref a :: rest => if (st.take (mP y)).length = mP y then hCall E y (.ref a :: (st.take (mP y)).reverse) rest pc ls h else none
      | _ => none
    else none
  | none, none, some 0 => match st with
    | .ref a :: rest => if (rest.map fun v => v.category).sum ≤ 8 then nx (pc + 3) ls rest h else none
    | _ => none
  | _, _, _ => none
def hRetI (m : Nat) (st : List Value) (h : Hp) : So := match st with
  | [.int v] => if mR m = some .int ∨ mR m = some .boolean ∧ (v = 0 ∨ v = 1) then some (.inl (some v, h)) else none
  | _ => none
def hRetV (m : Nat) (st : List Value) (h : Hp) : So := match st with
  | [] => if mR m = none then some (.inl (none, h)) else none
  | _ => none
def hK (v : Option Int32) (k pc : Nat) (ls st : List Value) (h : Hp) : So := match v with
  | some v => nx (pc + k) ls (.int v :: st) h
  | none => none
def hKl (v : Option Int64) (k pc : Nat) (ls st : List Value) (h : Hp) : So := match v with
  | some v => nx (pc + k) ls (.long v :: st) h
  | none => none
abbrev gd (len k : Nat) (x : So) : So := if len = k then x else none
def stI (E : Nat → List Value → Hp → Option Rs) (m pc : Nat) (ls st : List Value) (h : Hp) (ins : Instr) (len : Nat) : So := match ins with
  | .iconst n => gd len 1 (hK (some (Int32.ofInt n)) 1 pc ls st h)
  | .bipush n => gd len 2 (hK (some (Int8.ofInt n).toInt32) 2 pc ls st h)
  | .sipush n => gd len 3 (hK (some (Int16.ofInt n).toInt32) 3 pc ls st h)
  | .ldc i => gd len 2 (hK (kik m i) 2 pc ls st h)
  | .ldc_w i => gd len 3 (hK (kik m i) 3 pc ls st h)
  | .lconst n => gd len 1 (hKl (some (Int64.ofNat (n : Nat))) 1 pc ls st h)
  | .ldc2_w i => gd len 3 (hKl (klk m i) 3 pc ls st h)
  | .iload_n n => gd len 1 (hIld n 1 pc ls st h)
  | .iload n => gd len 2 (hIld n 2 pc ls st h)
  | .lload_n n => gd len 1 (hLld n 1 pc ls st h)
  | .lload n => gd len 2 (hLld n 2 pc ls st h)
  | .aload_n n => gd len 1 (hAld n 1 pc ls st h)
  | .aload n => gd len 2 (hAld n 2 pc ls st h)
  | .istore_n n => gd len 1 (hIst m n 1 pc ls st h)
  | .istore n => gd len 2 (hIst m n 2 pc ls st h)
  | .astore_n n => gd len 1 (hAst m n 1 pc ls st h)
  | .astore n => gd len 2 (hAst m n 2 pc ls st h)
  | .iinc i n => gd len 3 (hInc m i n pc ls st h)
  | .iadd => gd len 1 (hBin (· + ·) pc ls st h)
  | .isub => gd len 1 (hBin (· - ·) pc ls st h)
  | .imul => gd len 1 (hBin (· * ·) pc ls st h)
  | .iand => gd len 1 (hBin (· &&& ·) pc ls st h)
  | .ior => gd len 1 (hBin (· ||| ·) pc ls st h)
  | .ixor => gd len 1 (hBin (· ^^^ ·) pc ls st h)
  | .ishl => gd len 1 (hBin (fun x y => x <<< (y &&& 31)) pc ls st h)
  | .ishr => gd len 1 (hBin (fun x y => x >>> (y &&& 31)) pc ls st h)
  | .idiv => gd len 1 (hDiv (· / ·) pc ls st h)
  | .irem => gd len 1 (hDiv (fun x y => x - x / y * y) pc ls st h)
  | .ladd => gd len 1 (hBinL (· + ·) pc ls st h)
  | .lmul => gd len 1 (hBinL (· * ·) pc ls st h)
  | .lrem => gd len 1 (hRemL pc ls st h)
  | .lcmp => gd len 1 (hCmpL pc ls st h)
  | .i2l => gd len 1 (hI2l pc ls st h)
  | .l2i => gd len 1 (hL2i pc ls st h)
  | .dup => gd len 1 (hDup pc ls st h)
  | .dup2 => gd len 1 (hDup2 pc ls st h)
  | .pop => gd len 1 (hPop pc ls st h)
  | .ifCond op off => gd len 3 (hIf op off pc ls st h)
  | .if_icmp op off => gd len 3 (hIc op off pc ls st h)
  | .goto off => gd len 3 (hGo off pc ls st h)
  | .tableswitch d lo hi offs => hSw d lo hi offs pc ls st h
  | .getfield i => gd len 3 (hGet m i pc ls st h)
  | .putfield i => gd len 3 (hPut m i pc ls st h)
  | .iaload => gd len 1 (hIal pc ls st h)
  | .iastore => gd len 1 (hIas pc ls st h)
  | .aaload => gd len 1 (hAal pc ls st h)
  | .arraylength => gd len 1 (hLen pc ls st h)
  | .newarray t => if t = .int then gd len 2 (hNwa pc ls st h) else none
  | .multianewarray i d => if d = 2 then gd len 4 (hMna m i pc ls st h) else none
  | .new i => gd len 3 (hNew m i pc ls st h)
  | .invokevirtual i => gd len 3 (hVir E m i pc ls st h)
  | .invokestatic i => gd len 3 (hSta E m i pc ls st h)
  | .invokespecial i => gd len 3 (hSpe E m i pc ls st h)
  | .ireturn => gd len 1 (hRetI m st h)
  | .return_ => gd len 1 (hRetV m st h)
  | _ => none
def stp (E : Nat → List Value → Hp → Option Rs) (m : Nat) (c : Cf) : So := match decode (mB m) c.1 with
  | .ok x => stI E m c.1 c.2.1 c.2.2.1 c.2.2.2 x.1 x.2
  | .error _ => none
def rnN (E : Nat → List Value → Hp → Option Rs) (m : Nat) : Nat → Cf → Option Rs
  | 0, _ => none
  | n + 1, c => match stp E m c with
    | none => none
    | some (.inl r) => some r
    | some (.inr c') => rnN E m n c'
theorem rnN_succ {E : Nat → List Value → Hp → Option Rs} {m : Nat} : ∀ (n : Nat) (c : Cf) (r : Rs), rnN E m n c = some r → rnN E m (n + 1) c = some r := by
  intro n
  induction n with
  | zero => intro c r h; cases h
  | succ n ih =>
    intro c r h
    rw [rnN] at h ⊢
    cases hs : stp E m c with
    | none => rw [hs] at h; exact h
    | some x =>
      rw [hs] at h
      cases x with
      | inl y => exact h
      | inr c' => exact ih c' r h
theorem rnN_le {E : Nat → List Value → Hp → Option Rs} {m n k : Nat} {c : Cf} {r : Rs} (h : rnN E m n c = some r) (hk : n ≤ k) : rnN E m k c = some r := by
  induction hk with
  | refl => exact h
  | step _ ih => exact rnN_succ _ _ _ ih
noncomputable def rn (E : Nat → List Value → Hp → Option Rs) (m : Nat) (c : Cf) : Option Rs := @dite _ (∃ n r, rnN E m n c = some r) (Classical.propDecidable _) (fun h => some (Classical.choose (Classical.choose_spec h))) (fun _ => none)
theorem rn_iff {E : Nat → List Value → Hp → Option Rs} {m : Nat} {c : Cf} {r : Rs} : rn E m c = some r ↔ ∃ n, rnN E m n c = some r := by
  unfold rn
  by_cases h : ∃ n r, rnN E m n c = some r
  · rw [dif_pos h]
    constructor
    · intro h2
      cases h2
      exact ⟨_, Classical.choose_spec (Classical.choose_spec h)⟩
    · rintro ⟨n, hn⟩
      have h1 := Classical.choose_spec (Classical.choose_spec h)
      have h2 := rnN_le h1 (Nat.le_max_left (Classical.choose h) n)
      have h3 := rnN_le hn (Nat.le_max_right (Classical.choose h) n)
      exact h2.symm.trans h3
  · rw [dif_neg h]
    constructor
    · intro h2; cases h2
    · rintro ⟨n, hn⟩; exact absurd ⟨n, r, hn⟩ h
theorem rn_eq (E : Nat → List Value → Hp → Option Rs) (m : Nat) (c : Cf) : rn E m c = (match stp E m c with
    | none => none
    | some (.inl r) => some r
    | some (.inr c') => rn E m c') := by
  apply Option.ext
  intro r
  rw [rn_iff]
  constructor
  · rintro ⟨n, hn⟩
    cases n with
    | zero => cases hn
    | succ n =>
      rw [rnN] at hn
      cases hs : stp E m c with
      | none => rw [hs] at hn; cases hn
      | some x =>
        rw [hs] at hn
        cases x with
        | inl y => exact hn
        | inr c' => exact rn_iff.mpr ⟨n, hn⟩
  · intro h
    cases hs : stp E m c with
    | none => rw [hs] at h; cases h
    | some x =>
      rw [hs] at h
      cases x with
      | inl y => exact ⟨1, by rw [rnN, hs]; exact h⟩
      | inr c' =>
        obtain ⟨n, hn⟩ := rn_iff.mp h
        exact ⟨n + 1, by rw [rnN, hs]; exact hn⟩
/-- a method's locals at its start -/
def flt (as : List Value) : List Value := as.flatMap (fun v => if v.category = 2 then [v, .retAddr 0] else [v])
def ent (as : List Value) (n : Nat) : List Value := flt as ++ List.replicate (n - (flt as).length) (.retAddr 0)
/-- what a method answers, and what it leaves -/
noncomputable def Den (m : Nat) (as : List Value) (h : Hp) : Option Rs :=
  if (flt as).length ≤ mL m ∧ (noL m = true → ∀ v ∈ as, v.category = 1) then
    rn (fun y as' h' => if _hlt : ht y < ht m then Den y as' h' else none) m (0, ent as (mL m), [], h) else none
termination_by ht m
noncomputable def EE (m : Nat) : Nat → List Value → Hp → Option Rs := fun y as' h' => if ht y < ht m then Den y as' h' else none
theorem Den_eq (m : Nat) (as : List Value) (h : Hp) : Den m as h = if (flt as).length ≤ mL m ∧ (noL m = true → ∀ v ∈ as, v.category = 1) then rn (EE m) m (0, ent as (mL m), [], h) else none := by
  rw [Den]
  rfl
end
section
/-! THE WORLD OF THE SMALL MACHINE over the machine's heap: cell k at address base + k - 1, cell 0 the script -/
def ad (b base : Nat) : Nat → Nat := fun p => if p = 0 then b else base + (p - 1)
theorem ad_succ (b base k : Nat) : ad b base (k + 1) = base + k := by simp [ad]
theorem ad_zero (b base : Nat) : ad b base 0 = b := by simp [ad]
def cv (b base : Nat) : Value → Value
  | .ref k => .ref (ad b base k)
  | v => v
theorem cv_cat (b base : Nat) (v : Value) : (cv b base v).category = v.category := by cases v <;> rfl
theorem cv_cats (b base : Nat) (l : List Value) : ((l.map (cv b base)).map fun v => v.category) = l.map fun v => v.category := by
  rw [List.map_map]
  apply List.map_congr_left
  intro v _
  exact cv_cat b base v
theorem cv_rv (b base : Nat) (o : Option Nat) : cv b base (rv o) = va_rf (o.map (ad b base)) := by cases o <;> rfl
def cE (b base : Nat) (cI cII : ClassId) (sh : Shp) (f : Nat → Int32) : va_E :=
  if sh.1 = 0 then .inl (cI, sh.2.1, .inl f)
  else if sh.1 = 1 then .inl (cII, sh.2.1, .inr (.inr (.inr (.inr (fun j => (sh.2.2 j).map (ad b base))))))
  else .inr (sh.1 - 2, (List.range (cNf (sh.1 - 2))).map (fun k => if isI (sh.1 - 2) k then .int (f k) else va_rf ((sh.2.2 k).map (ad b base))))
theorem cE_arr {b base : Nat} {cI cII : ClassId} {sh : Shp} {f : Nat → Int32} (h : sh.1 = 0) : cE b base cI cII sh f = .inl (cI, sh.2.1, .inl f) := if_pos h
theorem cE_rows {b base : Nat} {cI cII : ClassId} {sh : Shp} {f : Nat → Int32} (h : sh.1 = 1) : cE b base cI cII sh f = .inl (cII, sh.2.1, .inr (.inr (.inr (.inr (fun j => (sh.2.2 j).map (ad b base)))))) := by
  unfold cE
  rw [if_neg (by omega), if_pos h]
theorem cE_obj {b base : Nat} {cI cII : ClassId} {sh : Shp} {f : Nat → Int32} {ci : Nat} (h : sh.1 = ci + 2) : cE b base cI cII sh f = .inr (ci, (List.range (cNf ci)).map (fun k => if isI ci k then .int (f k) else va_rf ((sh.2.2 k).map (ad b base)))) := by
  unfold cE
  rw [if_neg (by omega), if_neg (by omega), show sh.1 - 2 = ci by omega]
def wd (b base : Nat) (cI cII : ClassId) (h : Hp) : va_W := (List.range h.1).map (fun k => (base + k, cE b base cI cII (hS h (k + 1)) (hG h (k + 1))))
/-- the heap holds the small machine's cells; the script's shape and numbers -/
def Wl (b base L : Nat) (xs : Nat → Int32) (D : va_G) (cI cII : ClassId) (h : Hp) (H : Heap) : Prop :=
  H.size = base + h.1 ∧ va_P D clss (wd b base cI cII h) H ∧ (hS h 0).1 = 0 ∧ (hS h 0).2.1 = L ∧ hG h 0 = xs
def Ow (base : Nat) : Nat → Prop := fun q => base ≤ q
section WD
variable {b base : Nat} {cI cII : ClassId}
theorem wd_get {h : Hp} {k : Nat} (hk : k < h.1) : (wd b base cI cII h)[k]? = some (base + k, cE b base cI cII (hS h (k + 1)) (hG h (k + 1))) := by
  unfold wd
  rw [List.getElem?_map, List.getElem?_range hk]
  rfl
theorem wd_len {h : Hp} : (wd b base cI cII h).length = h.1 := by simp [wd]
theorem wd_key {h : Hp} {k : Nat} {q : Nat × va_E} (hq : (wd b base cI cII h)[k]? = some q) : q.1 = base + k ∧ k < h.1 := by
  have hk : k < h.1 := by
    have := (List.getElem?_eq_some_iff.mp hq).1
    rw [wd_len] at this
    exact this
  rw [wd_get hk] at hq
  cases hq
  exact ⟨rfl, hk⟩
theorem wd_D (h : Hp) : va_D (Ow base) (wd b base cI cII h) := by
  refine ⟨fun i j x y hi hj e => ?_, fun k q hq => ?_⟩
  · have h1 := (wd_key hi).1
    have h2 := (wd_key hj).1
    omega
  · show base ≤ q.1
    rw [(wd_key hq).1]
    omega
theorem wd_set {h h' : Hp} {k : Nat} (hn : h'.1 = h.1) (hk : k < h.1) (ho : ∀ j, j ≠ k + 1 → hS h' j = hS h j ∧ hG h' j = hG h j) :
    (wd b base cI cII h).set k (base + k, cE b base cI cII (hS h' (k + 1)) (hG h' (k + 1))) = wd b base cI cII h' := by
  apply List.ext_getElem?
  intro i
  by_cases hi : i = k
  · subst hi
    rw [List.getElem?_set_self (by rw [wd_len]; exact hk), wd_get (h := h') (by omega)]
  · rw [List.getElem?_set_ne (Ne.symm hi)]
    by_cases h2 : i < h.1
    · rw [wd_get h2, wd_get (h := h') (by omega), (ho (i + 1) (by omega)).1, (ho (i + 1) (by omega)).2]
    · rw [List.getElem?_eq_none (by rw [wd_len]; omega), List.getElem?_eq_none (by rw [wd_len]; omega)]
theorem wd_push {h h' : Hp} (hn : h'.1 = h.1 + 1) (ho : ∀ j, j ≤ h.1 → hS h' j = hS h j ∧ hG h' j = hG h j) :
    wd b base cI cII h ++ [(base + h.1, cE b base cI cII (hS h' (h.1 + 1)) (hG h' (h.1 + 1)))] = wd b base cI cII h' := by
  unfold wd
  rw [hn, List.range_succ, List.map_append]
  congr 1
  apply List.map_congr_left
  intro k hk
  have hk := List.mem_range.mp hk
  rw [(ho (k + 1) (by omega)).1, (ho (k + 1) (by omega)).2]
theorem wd_congr {h h' : Hp} (hn : h'.1 = h.1) (h1 : h'.2.2.2.1 = h.2.2.2.1) (h2 : h'.2.2.2.2 = h.2.2.2.2) : wd b base cI cII h' = wd b base cI cII h := by
  have e1 : ∀ j, hS h' j = hS h j := fun j => congrFun h1 j
  have e2 : ∀ j, hG h' j = hG h j := fun j => congrFun h2 j
  unfold wd
  simp only [hn, e1, e2]
theorem Wl_congr {L : Nat} {xs : Nat → Int32} {D : va_G} {h h' : Hp} {H : Heap} (hn : h'.1 = h.1) (h1 : h'.2.2.2.1 = h.2.2.2.1) (h2 : h'.2.2.2.2 = h.2.2.2.2) (w : Wl b base L xs D cI cII h H) : Wl b base L xs D cI cII h' H := by
  obtain ⟨a1, a2, a3, a4, a5⟩ := w
  refine ⟨by rw [hn]; exact a1, by rw [wd_congr hn h1 h2]; exact a2, ?_, ?_, ?_⟩
  · show (h'.2.2.2.1 0).1 = 0; rw [h1]; exact a3
  · show (h'.2.2.2.1 0).2.1 = L; rw [h1]; exact a4
  · show h'.2.2.2.2 0 = xs; rw [h2]; exact a5
end WD
/-! locals -/
def LH (b base : Nat) (A : Array Slot) (m : Nat) (ls : List Value) : Prop :=
  A.size = mL m ∧ lv_wf A ∧ ls.length = mL m ∧ (∀ (i : Nat) (v : Value), ls[i]? = some v → (∀ r, v ≠ .retAddr r) → A[i]? = some (.val (cv b base v))) ∧ (noL m = true → ∀ v ∈ ls, v.category = 1)
def lvl1 (b base : Nat) (i : Nat) (v : Value) : Option (Nat × Value) := match v with
  | .retAddr _ => none
  | v => some (i, cv b base v)
def lvl (b base : Nat) (ls : List Value) : List (Nat × Value) := (List.range ls.length).filterMap (fun i => (ls[i]?).bind (lvl1 b base i))
theorem lvl_mem {b base : Nat} {ls : List Value} {i : Nat} {v : Value} (h : ls[i]? = some v) (hr : ∀ r, v ≠ .retAddr r) : (i, cv b base v) ∈ lvl b base ls := by
  refine List.mem_filterMap.mpr ⟨i, List.mem_range.mpr (List.getElem?_eq_some_iff.mp h).1, ?_⟩
  rw [h]
  cases v <;> first | rfl | exact absurd rfl (hr _)
theorem LH.has {b base : Nat} {A : Array Slot} {m : Nat} {ls : List Value} (h : LH b base A m ls) : lv_has A (mL m) (lvl b base ls) := by
  refine ⟨h.1, h.2.1, fun q hq => ?_⟩
  obtain ⟨i, hi, hq⟩ := List.mem_filterMap.mp hq
  cases hv : ls[i]? with
  | none => rw [hv] at hq; cases hq
  | some v =>
    rw [hv] at hq
    have hr : ∀ r, v ≠ .retAddr r := fun r e => by subst e; cases hq
    have h1 := h.2.2.2.1 i v hv hr
    have h2 : q = (i, cv b base v) := by cases v <;> first | (cases hq; rfl) | exact absurd rfl (hr _)
    rw [h2]
    exact h1
theorem LH.set {b base : Nat} {A A' : Array Slot} {m i : Nat} {ls : List Value} {v : Value} (h : LH b base A m ls) (hn : noL m = true) (hv : v.category = 1)
    (h' : lv_has A' (mL m) ((i, cv b base v) :: (lvl b base ls).filter (fun q => !(q.1 == i) && !(q.1 + 1 == i && q.2.category == 2)))) : LH b base A' m (ls.set i v) := by
  refine ⟨h'.1, h'.2.1, by rw [List.length_set]; exact h.2.2.1, fun j w hw hr => ?_, fun hn' w hw => ?_⟩
  · by_cases hj : j = i
    · subst hj
      rw [List.getElem?_set] at hw
      rw [if_pos rfl] at hw
      split at hw
      · cases hw
        exact h'.2.2 (j, cv b base v) List.mem_cons_self
      · cases hw
    · rw [List.getElem?_set_ne (Ne.symm hj)] at hw
      refine h'.2.2 (j, cv b base w) (List.mem_cons_of_mem _ (List.mem_filter.mpr ⟨lvl_mem hw hr, ?_⟩))
      have hc : w.category = 1 := h.2.2.2.2 hn w (List.mem_of_getElem? hw)
      simp [hj, cv_cat, hc]
  · rcases List.mem_or_eq_of_mem_set hw with h1 | h1
    · exact h.2.2.2.2 hn' w h1
    · rw [h1]; exact hv
end
section
/-! THE SMALL MACHINE IS SOUND: each instruction -/
abbrev Cx : Type := Program × Launch × Env × Room × State × MethodId × Array Value × List Frame × Method × Code × (State → Prop) × Nat × Nat × Nat × (Nat → Int32) × va_G × ClassId × ClassId
/-- the class numbers that a method's calls and makings look at, kept from caller to callee -/
def NW (U : State) : Prop := (∀ w ∈ nstW, va_Nw w U) ∧ (Cond.arrayOver (.array .int)).before #[] U = true
def Gx (X : Cx) (m : Nat) : Prop := match X with
  | (p, l, e, R, s, mi, args, below, meth, c, Q, b, base, L, xs, D, cI, cII) =>
    p.tables.exec = Jvm.exec ∧ c.code = mB m ∧ c.maxLocals = mL m ∧ s.vm.findClass (mN m).cls = some mi.cls ∧ (∀ w ∈ wsAll, w.before args s = true) ∧
    va_K D clss [(cI, .int), (cII, .array .int)] s ∧ base ≤ s.heap.size ∧ b < base ∧ va_X b L xs s s.heap ∧ (kd m = 2 → meth.name = "<init>") ∧ ht m ≤ R.frames ∧ 30 * ht m ≤ R.locals ∧ mc m ≤ R.cells ∧ ms m ≤ R.slots ∧ m < 200 ∧ NW s ∧ meth.locks = false
def Rn (X : Cx) (m pc : Nat) (ls st : List Value) (h : Hp) : Prop := match X with
  | (p, l, e, R, s, mi, args, below, meth, c, Q, b, base, L, xs, D, cI, cII) =>
    ∀ (H : Heap) (locs : List Loc) (cells slots : Nat) (A : Array Slot), Wl b base L xs D cI cII h H → va_S (Ow base) s.heap H locs → cells + h.2.1 = mc m → slots + h.2.2.1 = ms m → LH b base A m ls →
      W p l e R s mi args below meth c H locs cells slots Q (F0 mi pc A (st.map (cv b base)))
section SND
variable {X : Cx} {m pc pc' : Nat} {ls st ls' st' : List Value} {h h' : Hp}
theorem s_k {v : Option Int32} {n : Nat} (k : Rn X m pc' ls' st' h') (hh : hK v n pc ls st h = some (.inr (pc', ls', st', h')))
    (row : ∀ (x : Int32), v = some x → match X with
      | (p, l, e, R, s, mi, args, below, meth, c, Q, b, base, L, xs, D, cI, cII) => ∀ (H : Heap) (locs : List Loc) (cells slots : Nat) (A : Array Slot) (rest : List Value), W p l e R s mi args below meth c H locs cells slots Q (F0 mi (pc + n) A (.int x :: rest)) → W p l e R s mi args below meth c H locs cells slots Q (F0 mi pc A rest)) : Rn X m pc ls st h := by
  obtain ⟨p, l, e, R, s, mi, args, below, meth, c, Q, b, base, L, xs, D, cI, cII⟩ := X
  cases v with
  | none => cases hh
  | some x =>
    cases hh
    intro H locs cells slots A w1 w2 w3 w4 w5
    exact row x rfl H locs cells slots A _ (k H locs cells slots A w1 w2 w3 w4 w5)
theorem s_kl {v : Option Int64} {n : Nat} (k : Rn X m pc' ls' st' h') (hh : hKl v n pc ls st h = some (.inr (pc', ls', st', h')))
    (row : ∀ (x : Int64), v = some x → match X with
      | (p, l, e, R, s, mi, args, below, meth, c, Q, b, base, L, xs, D, cI, cII) => ∀ (H : Heap) (locs : List Loc) (cells slots : Nat) (A : Array Slot) (rest : List Value), W p l e R s mi args below meth c H locs cells slots Q (F0 mi (pc + n) A (.long x :: rest)) → W p l e R s mi args below meth c H locs cells slots Q (F0 mi pc A rest)) : Rn X m pc ls st h := by
  obtain ⟨p, l, e, R, s, mi, args, below, meth, c, Q, b, base, L, xs, D, cI, cII⟩ := X
  cases v with
  | none => cases hh
  | some x =>
    cases hh
    intro H locs cells slots A w1 w2 w3 w4 w5
    exact row x rfl H locs cells slots A _ (k H locs cells slots A w1 w2 w3 w4 w5)
theorem s_iconst {n : Int} (G : Gx X m) (hd : decode (mB m) pc = .ok (.iconst n, 1)) (hh : hK (some (Int32.ofInt n)) 1 pc ls st h = some (.inr (pc', ls', st', h'))) (k : Rn X m pc' ls' st' h') : Rn X m pc ls st h :=
  s_k k hh (fun x hx => by
    obtain ⟨p, l, e, R, s, mi, args, below, meth, c, Q, b, base, L, xs, D, cI, cII⟩ := X
    intro H locs cells slots A rest q
    exact lv_iconst G.1 G.2.1 hd (Option.some.inj hx) q)
theorem s_bipush {n : Int} (G : Gx X m) (hd : decode (mB m) pc = .ok (.bipush n, 2)) (hh : hK (some (Int8.ofInt n).toInt32) 2 pc ls st h = some (.inr (pc', ls', st', h'))) (k : Rn X m pc' ls' st' h') : Rn X m pc ls st h :=
  s_k k hh (fun x hx => by
    obtain ⟨p, l, e, R, s, mi, args, below, meth, c, Q, b, base, L, xs, D, cI, cII⟩ := X
    intro H locs cells slots A rest q
    exact lv_bipush G.1 G.2.1 hd (Option.some.inj hx) q)
theorem s_sipush {n : Int} (G : Gx X m) (hd : decode (mB m) pc = .ok (.sipush n, 3)) (hh : hK (some (Int16.ofInt n).toInt32) 3 pc ls st h = some (.inr (pc', ls', st', h'))) (k : Rn X m pc' ls' st' h') : Rn X m pc ls st h :=
  s_k k hh (fun x hx => by
    obtain ⟨p, l, e, R, s, mi, args, below, meth, c, Q, b, base, L, xs, D, cI, cII⟩ := X
    intro H locs cells slots A rest q
    exact lv_sipush G.1 G.2.1 hd (Option.some.inj hx) q)
theorem s_ldc {i : Nat} (G : Gx X m) (hd : decode (mB m) pc = .ok (.ldc i, 2)) (hh : hK (kik m i) 2 pc ls st h = some (.inr (pc', ls', st', h'))) (k : Rn X m pc' ls' st' h') : Rn X m pc ls st h :=
  s_k k hh (fun x hx => by
    obtain ⟨p, l, e, R, s, mi, args, below, meth, c, Q, b, base, L, xs, D, cI, cII⟩ := X
    obtain ⟨hx1, hb, hml, hown, hts, hK, h1, h2, h3, h4, h5, h6, h7, h8, hm, -⟩ := G
    intro H locs cells slots A rest q
    exact lv_ldc hx1 hb hown (hts _ (kik_ok hm hx)) hd q)
theorem s_ldcw {i : Nat} (G : Gx X m) (hd : decode (mB m) pc = .ok (.ldc_w i, 3)) (hh : hK (kik m i) 3 pc ls st h = some (.inr (pc', ls', st', h'))) (k : Rn X m pc' ls' st' h') : Rn X m pc ls st h :=
  s_k k hh (fun x hx => by
    obtain ⟨p, l, e, R, s, mi, args, below, meth, c, Q, b, base, L, xs, D, cI, cII⟩ := X
    obtain ⟨hx1, hb, hml, hown, hts, hK, h1, h2, h3, h4, h5, h6, h7, h8, hm, -⟩ := G
    intro H locs cells slots A rest q
    exact lv_ldcw hx1 hb hown (hts _ (kik_ok hm hx)) hd q)
theorem s_lconst {n : Fin 2} (G : Gx X m) (hd : decode (mB m) pc = .ok (.lconst n, 1)) (hh : hKl (some (Int64.ofNat (n : Nat))) 1 pc ls st h = some (.inr (pc', ls', st', h'))) (k : Rn X m pc' ls' st' h') : Rn X m pc ls st h :=
  s_kl k hh (fun x hx => by
    obtain ⟨p, l, e, R, s, mi, args, below, meth, c, Q, b, base, L, xs, D, cI, cII⟩ := X
    intro H locs cells slots A rest q
    exact lv_lconst G.1 G.2.1 hd (Option.some.inj hx) q)
theorem s_ldc2 {i : Nat} (G : Gx X m) (hd : decode (mB m) pc = .ok (.ldc2_w i, 3)) (hh : hKl (klk m i) 3 pc ls st h = some (.inr (pc', ls', st', h'))) (k : Rn X m pc' ls' st' h') : Rn X m pc ls st h :=
  s_kl k hh (fun x hx => by
    obtain ⟨p, l, e, R, s, mi, args, below, meth, c, Q, b, base, L, xs, D, cI, cII⟩ := X
    obtain ⟨hx1, hb, hml, hown, hts, hK, h1, h2, h3, h4, h5, h6, h7, h8, hm, -⟩ := G
    intro H locs cells slots A rest q
    exact lv_ldc2 hx1 hb hown (hts _ (klk_ok hm hx)) hd q)
/-- a local read -/
theorem LH.at {b base : Nat} {A : Array Slot} {i : Nat} {v : Value} (w : LH b base A m ls) (hv : ls[i]? = some v) (hr : ∀ r, v ≠ .retAddr r) : A[i]? = some (.val (cv b base v)) := w.2.2.2.1 i v hv hr
theorem s_iload {i : Nat} {n : Nat} (k : Rn X m pc' ls' st' h') (hh : hIld i n pc ls st h = some (.inr (pc', ls', st', h')))
    (row : ∀ (x : Int32), match X with
      | (p, l, e, R, s, mi, args, below, meth, c, Q, b, base, L, xs, D, cI, cII) => ∀ (H : Heap) (locs : List Loc) (cells slots : Nat) (A : Array Slot) (rest : List Value), A[i]? = some (.val (.int x)) → W p l e R s mi args below meth c H locs cells slots Q (F0 mi (pc + n) A (.int x :: rest)) → W p l e R s mi args below meth c H locs cells slots Q (F0 mi pc A rest)) : Rn X m pc ls st h := by
  obtain ⟨p, l, e, R, s, mi, args, below, meth, c, Q, b, base, L, xs, D, cI, cII⟩ := X
  unfold hIld at hh
  split at hh
  · rename_i x hv
    cases hh
    intro H locs cells slots A w1 w2 w3 w4 w5
    exact row x H locs cells slots A _ (w5.at hv (fun r => by simp)) (k H locs cells slots A w1 w2 w3 w4 w5)
  · cases hh
theorem s_lload {i : Nat} {n : Nat} (k : Rn X m pc' ls' st' h') (hh : hLld i n pc ls st h = some (.inr (pc', ls', st', h')))
    (row : ∀ (x : Int64), match X with
      | (p, l, e, R, s, mi, args, below, meth, c, Q, b, base, L, xs, D, cI, cII) => ∀ (H : Heap) (locs : List Loc) (cells slots : Nat) (A : Array Slot) (rest : List Value), A[i]? = some (.val (.long x)) → W p l e R s mi args below meth c H locs cells slots Q (F0 mi (pc + n) A (.long x :: rest)) → W p l e R s mi args below meth c H locs cells slots Q (F0 mi pc A rest)) : Rn X m pc ls st h := by
  obtain ⟨p, l, e, R, s, mi, args, below, meth, c, Q, b, base, L, xs, D, cI, cII⟩ := X
  unfold hLld at hh
  split at hh
  · rename_i x hv
    cases hh
    intro H locs cells slots A w1 w2 w3 w4 w5
    exact row x H locs cells slots A _ (w5.at hv (fun r => by simp)) (k H locs cells slots A w1 w2 w3 w4 w5)
  · cases hh
theorem s_aload {i : Nat} {n : Nat} (k : Rn X m pc' ls' st' h') (hh : hAld i n pc ls st h = some (.inr (pc', ls', st', h')))
    (row : ∀ (x : Nat), match X with
      | (p, l, e, R, s, mi, args, below, meth, c, Q, b, base, L, xs, D, cI, cII) => ∀ (H : Heap) (locs : List Loc) (cells slots : Nat) (A : Array Slot) (rest : List Value), A[i]? = some (.val (.ref x)) → W p l e R s mi args below meth c H locs cells slots Q (F0 mi (pc + n) A (.ref x :: rest)) → W p l e R s mi args below meth c H locs cells slots Q (F0 mi pc A rest)) : Rn X m pc ls st h := by
  obtain ⟨p, l, e, R, s, mi, args, below, meth, c, Q, b, base, L, xs, D, cI, cII⟩ := X
  unfold hAld at hh
  split at hh
  · rename_i x hv
    cases hh
    intro H locs cells slots A w1 w2 w3 w4 w5
    exact row (ad b base x) H locs cells slots A _ (w5.at hv (fun r => by simp)) (k H locs cells slots A w1 w2 w3 w4 w5)
  · cases hh
/-- a local written -/
theorem s_istore {i n : Nat} (k : Rn X m pc' ls' st' h') (hh : hIst m i n pc ls st h = some (.inr (pc', ls', st', h')))
    (row : ∀ (x : Int32), match X with
      | (p, l, e, R, s, mi, args, below, meth, c, Q, b, base, L, xs, D, cI, cII) => ∀ (H : Heap) (locs : List Loc) (cells slots : Nat) (A : Array Slot) (rest : List Value) (nL : Nat) (lv : List (Nat × Value)), lv_has A nL lv → i < nL →
        (∀ A' : Array Slot, lv_has A' nL ((i, .int x) :: lv.filter (fun q => !(q.1 == i) && !(q.1 + 1 == i && q.2.category == 2))) → W p l e R s mi args below meth c H locs cells slots Q (F0 mi (pc + n) A' rest)) → W p l e R s mi args below meth c H locs cells slots Q (F0 mi pc A (.int x :: rest))) : Rn X m pc ls st h := by
  obtain ⟨p, l, e, R, s, mi, args, below, meth, c, Q, b, base, L, xs, D, cI, cII⟩ := X
  unfold hIst at hh
  split at hh
  · rename_i x st0
    split at hh
    · rename_i hc
      cases hh
      intro H locs cells slots A w1 w2 w3 w4 w5
      exact row x H locs cells slots A _ _ _ w5.has (by rw [← w5.2.2.1]; exact hc.2) (fun A' hA' => k H locs cells slots A' w1 w2 w3 w4 (w5.set hc.1 (v := .int x) rfl hA'))
    · cases hh
  · cases hh
theorem s_astore {i n : Nat} (k : Rn X m pc' ls' st' h') (hh : hAst m i n pc ls st h = some (.inr (pc', ls', st', h')))
    (row : ∀ (x : Nat), match X with
      | (p, l, e, R, s, mi, args, below, meth, c, Q, b, base, L, xs, D, cI, cII) => ∀ (H : Heap) (locs : List Loc) (cells slots : Nat) (A : Array Slot) (rest : List Value) (nL : Nat) (lv : List (Nat × Value)), lv_has A nL lv → i < nL →
        (∀ A' : Array Slot, lv_has A' nL ((i, .ref x) :: lv.filter (fun q => !(q.1 == i) && !(q.1 + 1 == i && q.2.category == 2))) → W p l e R s mi args below meth c H locs cells slots Q (F0 mi (pc + n) A' rest)) → W p l e R s mi args below meth c H locs cells slots Q (F0 mi pc A (.ref x :: rest))) : Rn X m pc ls st h := by
  obtain ⟨p, l, e, R, s, mi, args, below, meth, c, Q, b, base, L, xs, D, cI, cII⟩ := X
  unfold hAst at hh
  split at hh
  · rename_i x st0
    split at hh
    · rename_i hc
      cases hh
      intro H locs cells slots A w1 w2 w3 w4 w5
      exact row (ad b base x) H locs cells slots A _ _ _ w5.has (by rw [← w5.2.2.1]; exact hc.2) (fun A' hA' => k H locs cells slots A' w1 w2 w3 w4 (w5.set hc.1 (v := .ref x) rfl hA'))
    · cases hh
  · cases hh
theorem s_iinc {i : Nat} {n : Int} (G : Gx X m) (hd : decode (mB m) pc = .ok (.iinc i n, 3)) (hh : hInc m i n pc ls st h = some (.inr (pc', ls', st', h'))) (k : Rn X m pc' ls' st' h') : Rn X m pc ls st h := by
  obtain ⟨p, l, e, R, s, mi, args, below, meth, c, Q, b, base, L, xs, D, cI, cII⟩ := X
  unfold hInc at hh
  split at hh
  · rename_i x hv
    split at hh
    · rename_i hc
      cases hh
      intro H locs cells slots A w1 w2 w3 w4 w5
      have hmem := lvl_mem (b := b) (base := base) hv (fun r => by simp)
      obtain ⟨j, hj⟩ := List.getElem?_of_mem hmem
      exact lv_iinc (x := x) (v := x + Int32.ofInt n) G.1 G.2.1 hd w5.has hj rfl (by rw [← w5.2.2.1]; exact (List.getElem?_eq_some_iff.mp hv).1) rfl (fun A' hA' => k H locs cells slots A' w1 w2 w3 w4 (w5.set hc (v := .int (x + Int32.ofInt n)) rfl hA'))
    · cases hh
  · cases hh
theorem s_bin {f : Int32 → Int32 → Int32} (k : Rn X m pc' ls' st' h') (hh : hBin f pc ls st h = some (.inr (pc', ls', st', h')))
    (row : ∀ (x y : Int32), match X with
      | (p, l, e, R, s, mi, args, below, meth, c, Q, b, base, L, xs, D, cI, cII) => ∀ (H : Heap) (locs : List Loc) (cells slots : Nat) (A : Array Slot) (rest : List Value), W p l e R s mi args below meth c H locs cells slots Q (F0 mi (pc + 1) A (.int (f x y) :: rest)) → W p l e R s mi args below meth c H locs cells slots Q (F0 mi pc A (.int y :: .int x :: rest))) : Rn X m pc ls st h := by
  obtain ⟨p, l, e, R, s, mi, args, below, meth, c, Q, b, base, L, xs, D, cI, cII⟩ := X
  unfold hBin at hh
  split at hh
  · cases hh
    intro H locs cells slots A w1 w2 w3 w4 w5
    exact row _ _ H locs cells slots A _ (k H locs cells slots A w1 w2 w3 w4 w5)
  · cases hh
theorem s_div {f : Int32 → Int32 → Int32} (k : Rn X m pc' ls' st' h') (hh : hDiv f pc ls st h = some (.inr (pc', ls', st', h')))
    (row : ∀ (x y : Int32), ¬ y = 0 → match X with
      | (p, l, e, R, s, mi, args, below, meth, c, Q, b, base, L, xs, D, cI, cII) => ∀ (H : Heap) (locs : List Loc) (cells slots : Nat) (A : Array Slot) (rest : List Value), W p l e R s mi args below meth c H locs cells slots Q (F0 mi (pc + 1) A (.int (f x y) :: rest)) → W p l e R s mi args below meth c H locs cells slots Q (F0 mi pc A (.int y :: .int x :: rest))) : Rn X m pc ls st h := by
  obtain ⟨p, l, e, R, s, mi, args, below, meth, c, Q, b, base, L, xs, D, cI, cII⟩ := X
  unfold hDiv at hh
  split at hh
  · split at hh
    · cases hh
    · rename_i hy
      cases hh
      intro H locs cells slots A w1 w2 w3 w4 w5
      exact row _ _ hy H locs cells slots A _ (k H locs cells slots A w1 w2 w3 w4 w5)
  · cases hh
theorem s_binL {f : Int64 → Int64 → Int64} (k : Rn X m pc' ls' st' h') (hh : hBinL f pc ls st h = some (.inr (pc', ls', st', h')))
    (row : ∀ (x y : Int64), match X with
      | (p, l, e, R, s, mi, args, below, meth, c, Q, b, base, L, xs, D, cI, cII) => ∀ (H : Heap) (locs : List Loc) (cells slots : Nat) (A : Array Slot) (rest : List Value), W p l e R s mi args below meth c H locs cells slots Q (F0 mi (pc + 1) A (.long (f x y) :: rest)) → W p l e R s mi args below meth c H locs cells slots Q (F0 mi pc A (.long y :: .long x :: rest))) : Rn X m pc ls st h := by
  obtain ⟨p, l, e, R, s, mi, args, below, meth, c, Q, b, base, L, xs, D, cI, cII⟩ := X
  unfold hBinL at hh
  split at hh
  · cases hh
    intro H locs cells slots A w1 w2 w3 w4 w5
    exact row _ _ H locs cells slots A _ (k H locs cells slots A w1 w2 w3 w4 w5)
  · cases hh
theorem s_lrem (G : Gx X m) (hd : decode (mB m) pc = .ok (.lrem, 1)) (hh : hRemL pc ls st h = some (.inr (pc', ls', st', h'))) (k : Rn X m pc' ls' st' h') : Rn X m pc ls st h := by
  obtain ⟨p, l, e, R, s, mi, args, below, meth, c, Q, b, base, L, xs, D, cI, cII⟩ := X
  unfold hRemL at hh
  split at hh
  · split at hh
    · cases hh
    · rename_i hy
      cases hh
      intro H locs cells slots A w1 w2 w3 w4 w5
      exact lv_lrem G.1 G.2.1 hd hy (k H locs cells slots A w1 w2 w3 w4 w5)
  · cases hh
theorem s_lcmp (G : Gx X m) (hd : decode (mB m) pc = .ok (.lcmp, 1)) (hh : hCmpL pc ls st h = some (.inr (pc', ls', st', h'))) (k : Rn X m pc' ls' st' h') : Rn X m pc ls st h := by
  obtain ⟨p, l, e, R, s, mi, args, below, meth, c, Q, b, base, L, xs, D, cI, cII⟩ := X
  unfold hCmpL at hh
  split at hh
  · cases hh
    intro H locs cells slots A w1 w2 w3 w4 w5
    exact W.lcmp G.1 G.2.1 hd (k H locs cells slots A w1 w2 w3 w4 w5)
  · cases hh
theorem s_i2l (G : Gx X m) (hd : decode (mB m) pc = .ok (.i2l, 1)) (hh : hI2l pc ls st h = some (.inr (pc', ls', st', h'))) (k : Rn X m pc' ls' st' h') : Rn X m pc ls st h := by
  obtain ⟨p, l, e, R, s, mi, args, below, meth, c, Q, b, base, L, xs, D, cI, cII⟩ := X
  unfold hI2l at hh
  split at hh
  · cases hh
    intro H locs cells slots A w1 w2 w3 w4 w5
    exact lv_i2l G.1 G.2.1 hd rfl (k H locs cells slots A w1 w2 w3 w4 w5)
  · cases hh
theorem s_l2i (G : Gx X m) (hd : decode (mB m) pc = .ok (.l2i, 1)) (hh : hL2i pc ls st h = some (.inr (pc', ls', st', h'))) (k : Rn X m pc' ls' st' h') : Rn X m pc ls st h := by
  obtain ⟨p, l, e, R, s, mi, args, below, meth, c, Q, b, base, L, xs, D, cI, cII⟩ := X
  unfold hL2i at hh
  split at hh
  · cases hh
    intro H locs cells slots A w1 w2 w3 w4 w5
    exact lv_l2i G.1 G.2.1 hd rfl (k H locs cells slots A w1 w2 w3 w4 w5)
  · cases hh
theorem s_dup (G : Gx X m) (hd : decode (mB m) pc = .ok (.dup, 1)) (hh : hDup pc ls st h = some (.inr (pc', ls', st', h'))) (k : Rn X m pc' ls' st' h') : Rn X m pc ls st h := by
  obtain ⟨p, l, e, R, s, mi, args, below, meth, c, Q, b, base, L, xs, D, cI, cII⟩ := X
  unfold hDup at hh
  split at hh
  · cases hh
    intro H locs cells slots A w1 w2 w3 w4 w5
    exact lv_dup (va := .int _) G.1 G.2.1 hd rfl (k H locs cells slots A w1 w2 w3 w4 w5)
  · cases hh
    intro H locs cells slots A w1 w2 w3 w4 w5
    exact lv_dup (va := .ref _) G.1 G.2.1 hd rfl (k H locs cells slots A w1 w2 w3 w4 w5)
  · cases hh
theorem s_dup2 (G : Gx X m) (hd : decode (mB m) pc = .ok (.dup2, 1)) (hh : hDup2 pc ls st h = some (.inr (pc', ls', st', h'))) (k : Rn X m pc' ls' st' h') : Rn X m pc ls st h := by
  obtain ⟨p, l, e, R, s, mi, args, below, meth, c, Q, b, base, L, xs, D, cI, cII⟩ := X
  unfold hDup2 at hh
  split at hh
  · cases hh
    intro H locs cells slots A w1 w2 w3 w4 w5
    exact lv_dup2_11 (va := .int _) (vb := .ref _) G.1 G.2.1 hd rfl rfl (k H locs cells slots A w1 w2 w3 w4 w5)
  · cases hh
theorem s_pop (G : Gx X m) (hd : decode (mB m) pc = .ok (.pop, 1)) (hh : hPop pc ls st h = some (.inr (pc', ls', st', h'))) (k : Rn X m pc' ls' st' h') : Rn X m pc ls st h := by
  obtain ⟨p, l, e, R, s, mi, args, below, meth, c, Q, b, base, L, xs, D, cI, cII⟩ := X
  unfold hPop at hh
  split at hh
  · cases hh
    intro H locs cells slots A w1 w2 w3 w4 w5
    exact lv_pop (va := .int _) G.1 G.2.1 hd rfl (k H locs cells slots A w1 w2 w3 w4 w5)
  · cases hh
theorem tg_ok {pc : Nat} {off : Int} (h : 0 ≤ (pc : Int) + off) : (pc : Int) + off = (tg pc off : Int) := by
  show _ = (((pc : Int) + off).toNat : Int)
  omega
theorem s_br {off : Int} {q : Prop} {dq : Decidable q} {st0 : List Value} (k : Rn X m pc' ls' st' h') (hh : hBr pc off q ls st0 h = some (.inr (pc', ls', st', h')))
    (row : match X with
      | (p, l, e, R, s, mi, args, below, meth, c, Q, b, base, L, xs, D, cI, cII) => ∀ (H : Heap) (locs : List Loc) (cells slots : Nat) (A : Array Slot) (tgt : Nat), (pc : Int) + off = (tgt : Int) → (q → W p l e R s mi args below meth c H locs cells slots Q (F0 mi tgt A (st0.map (cv b base)))) → (¬ q → W p l e R s mi args below meth c H locs cells slots Q (F0 mi (pc + 3) A (st0.map (cv b base)))) → W p l e R s mi args below meth c H locs cells slots Q (F0 mi pc A (st.map (cv b base)))) : Rn X m pc ls st h := by
  obtain ⟨p, l, e, R, s, mi, args, below, meth, c, Q, b, base, L, xs, D, cI, cII⟩ := X
  unfold hBr at hh
  split at hh
  · rename_i hoff
    cases hh
    intro H locs cells slots A w1 w2 w3 w4 w5
    refine row H locs cells slots A (tg pc off) (tg_ok hoff) (fun hq => ?_) (fun hq => ?_)
    · rw [if_pos hq] at k
      exact k H locs cells slots A w1 w2 w3 w4 w5
    · rw [if_neg hq] at k
      exact k H locs cells slots A w1 w2 w3 w4 w5
  · cases hh
theorem s_if {op : ClassFile.Cond} {off : Int} (G : Gx X m) (hd : decode (mB m) pc = .ok (.ifCond op off, 3)) (hh : hIf op off pc ls st h = some (.inr (pc', ls', st', h'))) (k : Rn X m pc' ls' st' h') : Rn X m pc ls st h := by
  unfold hIf at hh
  split at hh
  · cases op <;> (
      refine s_br k hh ?_
      obtain ⟨p, l, e, R, s, mi, args, below, meth, c, Q, b, base, L, xs, D, cI, cII⟩ := X
      intro H locs cells slots A tgt ht k1 k2
      first
        | exact lv_if_eq G.1 G.2.1 hd ht k1 k2
        | exact lv_if_ne G.1 G.2.1 hd ht k1 (fun q => k2 (fun z => z q))
        | exact lv_if_lt G.1 G.2.1 hd ht k1 k2
        | exact lv_if_ge G.1 G.2.1 hd ht k1 k2
        | exact lv_if_gt G.1 G.2.1 hd ht k1 k2
        | exact lv_if_le G.1 G.2.1 hd ht k1 k2)
  · cases hh
theorem s_ic {op : ClassFile.Cond} {off : Int} (G : Gx X m) (hd : decode (mB m) pc = .ok (.if_icmp op off, 3)) (hh : hIc op off pc ls st h = some (.inr (pc', ls', st', h'))) (k : Rn X m pc' ls' st' h') : Rn X m pc ls st h := by
  unfold hIc at hh
  split at hh
  · cases op <;> (
      refine s_br k hh ?_
      obtain ⟨p, l, e, R, s, mi, args, below, meth, c, Q, b, base, L, xs, D, cI, cII⟩ := X
      intro H locs cells slots A tgt ht k1 k2
      first
        | exact lv_icmp_eq G.1 G.2.1 hd ht k1 k2
        | exact lv_icmp_ne G.1 G.2.1 hd ht k1 (fun q => k2 (fun z => z q))
        | exact lv_icmp_lt G.1 G.2.1 hd ht k1 k2
        | exact lv_icmp_ge G.1 G.2.1 hd ht k1 k2
        | exact lv_icmp_gt G.1 G.2.1 hd ht k1 k2
        | exact lv_icmp_le G.1 G.2.1 hd ht k1 k2)
  · cases hh
theorem s_goto {off : Int} (G : Gx X m) (hd : decode (mB m) pc = .ok (.goto off, 3)) (hh : hGo off pc ls st h = some (.inr (pc', ls', st', h'))) (k : Rn X m pc' ls' st' h') : Rn X m pc ls st h := by
  obtain ⟨p, l, e, R, s, mi, args, below, meth, c, Q, b, base, L, xs, D, cI, cII⟩ := X
  unfold hGo at hh
  split at hh
  · rename_i hoff
    cases hh
    intro H locs cells slots A w1 w2 w3 w4 w5
    exact lv_goto G.1 G.2.1 hd (tg_ok hoff) (k H locs cells slots A w1 w2 w3 w4 w5)
  · cases hh
theorem tsw_out {pc : Nat} {x d : Int} : ∀ (r : List Int) (k : Int), (x < k ∨ k + r.length ≤ x) → tsw pc x d k r = d
  | [], _, _ => rfl
  | o :: r, k, h => by
    rw [tsw, if_neg (by simp only [List.length_cons] at h; omega)]
    exact tsw_out r (k + 1) (by simp only [List.length_cons] at h; omega)
theorem tsw_in {pc : Nat} {x d : Int} : ∀ (r : List Int) (k : Int), k ≤ x → x < k + r.length → ∃ o, r[(x - k).toNat]? = some o ∧ o ∈ r ∧ tsw pc x d k r = o
  | [], k, h1, h2 => by simp only [List.length_nil] at h2; omega
  | o :: r, k, h1, h2 => by
    by_cases hx : x = k
    · exact ⟨o, by rw [hx]; simp, List.mem_cons_self, by rw [tsw, if_pos hx]⟩
    · obtain ⟨o', a1, a2, a3⟩ := tsw_in (pc := pc) (x := x) (d := d) r (k + 1) (by omega) (by simp only [List.length_cons] at h2; omega)
      refine ⟨o', ?_, List.mem_cons_of_mem _ a2, by rw [tsw, if_neg hx]; exact a3⟩
      have e : (x - k).toNat = (x - (k + 1)).toNat + 1 := by omega
      rw [e, List.getElem?_cons_succ]
      exact a1
theorem s_sw {d lo hi : Int} {offs : Array Int} {len : Nat} (G : Gx X m) (hd : decode (mB m) pc = .ok (.tableswitch d lo hi offs, len)) (hh : hSw d lo hi offs pc ls st h = some (.inr (pc', ls', st', h'))) (k : Rn X m pc' ls' st' h') : Rn X m pc ls st h := by
  obtain ⟨p, l, e, R, s, mi, args, below, meth, c, Q, b, base, L, xs, D, cI, cII⟩ := X
  unfold hSw at hh
  split at hh
  · rename_i x st0
    split at hh
    · rename_i hc
      obtain ⟨c1, c2, c3⟩ := hc
      cases hh
      intro H locs cells slots A w1 w2 w3 w4 w5
      have hlen : (offs.toList.length : Int) = offs.size := by simp
      by_cases hx : x.toInt < lo ∨ hi < x.toInt
      · have e1 := tsw_out (pc := pc) (x := x.toInt) (d := d) offs.toList lo (by omega)
        rw [e1] at k
        exact lv_tableOut G.1 G.2.1 hd hx (tg_ok c2) (k H locs cells slots A w1 w2 w3 w4 w5)
      · obtain ⟨o, a1, a2, a3⟩ := tsw_in (pc := pc) (x := x.toInt) (d := d) offs.toList lo (by omega) (by omega)
        rw [a3] at k
        exact lv_tableIn G.1 G.2.1 hd (by omega) (by omega) (by rw [← Array.getElem?_toList]; exact a1) (tg_ok (c3 o a2)) (k H locs cells slots A w1 w2 w3 w4 w5)
    · cases hh
  · cases hh
end SND
end
section
/-! THE SMALL MACHINE IS SOUND: fields, arrays, makings -/
section SNH
variable {X : Cx} {m pc pc' : Nat} {ls st ls' st' : List Value} {h h' : Hp}
theorem objs_get {n k : Nat} {F : Nat → Value} (hk : k < n) : ((List.range n).map F)[k]? = some (F k) := by
  rw [List.getElem?_map, List.getElem?_range hk]
  rfl
theorem objs_set {n k : Nat} {F : Nat → Value} {v : Value} : ((List.range n).map F).set k v = (List.range n).map (fun j => if j = k then v else F j) := by
  apply List.ext_getElem?
  intro i
  by_cases hi : i = k
  · subst hi
    by_cases h2 : i < n
    · rw [List.getElem?_set_self (by simpa using h2), objs_get h2, if_pos rfl]
    · rw [List.getElem?_eq_none (by simp; omega), List.getElem?_eq_none (by simp; omega)]
  · rw [List.getElem?_set_ne (Ne.symm hi)]
    by_cases h2 : i < n
    · rw [objs_get h2, objs_get h2, if_neg hi]
    · rw [List.getElem?_eq_none (by simp; omega), List.getElem?_eq_none (by simp; omega)]
theorem setG_S (h : Hp) (a : Nat) (f : Nat → Int32) (j : Nat) : hS (setG h a f) j = hS h j := rfl
theorem setG_G (h : Hp) (a : Nat) (f : Nat → Int32) (j : Nat) : hG (setG h a f) j = if j = a then f else hG h j := rfl
theorem setS_G (h : Hp) (a : Nat) (f : Shp) (j : Nat) : hG (setS h a f) j = hG h j := rfl
theorem setS_S (h : Hp) (a : Nat) (f : Shp) (j : Nat) : hS (setS h a f) j = if j = a then f else hS h j := rfl
/-- a cell's numbers written -/
theorem Wl_setG {b base L : Nat} {xs : Nat → Int32} {D : va_G} {cI cII : ClassId} {a : Nat} {f : Nat → Int32} {H H1 : Heap} (w : Wl b base L xs D cI cII h H) (ha : a < h.1) (hz : H1.size = H.size)
    (hP : va_P D clss ((wd b base cI cII h).set a (base + a, cE b base cI cII (hS h (a + 1)) f)) H1) : Wl b base L xs D cI cII (setG h (a + 1) f) H1 := by
  obtain ⟨a1, a2, a3, a4, a5⟩ := w
  refine ⟨hz.trans a1, ?_, a3, a4, ?_⟩
  · have e := wd_set (b := b) (base := base) (cI := cI) (cII := cII) (h := h) (h' := setG h (a + 1) f) (k := a) rfl ha (fun j hj => ⟨rfl, by rw [setG_G, if_neg hj]⟩)
    rw [setG_G, if_pos rfl, setG_S] at e
    rw [← e]
    exact hP
  · rw [setG_G, if_neg (by omega)]
    exact a5
theorem Wl_setS {b base L : Nat} {xs : Nat → Int32} {D : va_G} {cI cII : ClassId} {a : Nat} {f : Shp} {H H1 : Heap} (w : Wl b base L xs D cI cII h H) (ha : a < h.1) (hz : H1.size = H.size)
    (hP : va_P D clss ((wd b base cI cII h).set a (base + a, cE b base cI cII f (hG h (a + 1)))) H1) : Wl b base L xs D cI cII (setS h (a + 1) f) H1 := by
  obtain ⟨a1, a2, a3, a4, a5⟩ := w
  refine ⟨hz.trans a1, ?_, ?_, ?_, a5⟩
  · have e := wd_set (b := b) (base := base) (cI := cI) (cII := cII) (h := h) (h' := setS h (a + 1) f) (k := a) rfl ha (fun j hj => ⟨by rw [setS_S, if_neg hj], rfl⟩)
    rw [setS_S, if_pos rfl, setS_G] at e
    rw [← e]
    exact hP
  · rw [setS_S, if_neg (by omega)]
    exact a3
  · rw [setS_S, if_neg (by omega)]
    exact a4
theorem s_get {i : Nat} (G : Gx X m) (hd : decode (mB m) pc = .ok (.getfield i, 3)) (hh : hGet m i pc ls st h = some (.inr (pc', ls', st', h'))) (k : Rn X m pc' ls' st' h') : Rn X m pc ls st h := by
  obtain ⟨p, l, e, R, s, mi, args, below, meth, c, Q, b, base, L, xs, D, cI, cII⟩ := X
  obtain ⟨hx1, hb, hml, hown, hts, hK, h1, h2, h3, h4, h5, h6, h7, h8, hm, -⟩ := G
  unfold hGet at hh
  split at hh
  · rename_i a st0 ci kf hf
    obtain ⟨f1, f2, f3⟩ := flk_ok hm hf
    split at hh
    · rename_i hin
      obtain ⟨a', rfl⟩ := Nat.exists_eq_add_one_of_ne_zero hin.1
      have hlt : a' < h.1 := hin.2.1
      cases hh
      intro H locs cells slots A w1 w2 w3 w4 w5
      have hg := wd_get (b := b) (base := base) (cI := cI) (cII := cII) hlt
      rw [cE_obj hin.2.2] at hg
      have q := va_get (meth := meth) (D := D) (cl := clss) (v := if isI ci kf then .int (hG h (a' + 1) kf) else va_rf (((hS h (a' + 1)).2.2 kf).map (ad b base))) hx1 hb hts (lay_in ci f2) hown hK w1.2.1 a' hg (clss_get ci f2) kf f3 (hts _ f1) (fun _ z => z) (objs_get f3) hd
        (Q := Q) (l := l) (e := e) (R := R) (below := below) (locs := locs) (cells := cells) (slots := slots) (ls := A) (rest := st0.map (cv b base))
      have ea : cv b base (.ref (a' + 1)) = .ref (base + a') := by show Value.ref (ad b base (a' + 1)) = _; rw [ad_succ]
      rw [List.map_cons, ea]
      refine q ?_
      have ev : cv b base (if isI ci kf then .int (hG h (a' + 1) kf) else rv ((hS h (a' + 1)).2.2 kf)) = (if isI ci kf then .int (hG h (a' + 1) kf) else va_rf (((hS h (a' + 1)).2.2 kf).map (ad b base))) := by
        split
        · rfl
        · exact cv_rv _ _ _
      rw [← ev]
      exact k H locs cells slots A w1 w2 w3 w4 w5
    · cases hh
  · cases hh
set_option maxHeartbeats 1000000 in
theorem s_put {i : Nat} (G : Gx X m) (hd : decode (mB m) pc = .ok (.putfield i, 3)) (hh : hPut m i pc ls st h = some (.inr (pc', ls', st', h'))) (k : Rn X m pc' ls' st' h') : Rn X m pc ls st h := by
  obtain ⟨p, l, e, R, s, mi, args, below, meth, c, Q, b, base, L, xs, D, cI, cII⟩ := X
  obtain ⟨hx1, hb, hml, hown, hts, hK, h1, h2, h3, h4, h5, h6, h7, h8, hm, -⟩ := G
  unfold hPut at hh
  split at hh
  · rename_i x a st0 ci kf hf
    obtain ⟨f1, f2, f3⟩ := flk_ok hm hf
    split at hh
    · rename_i hin
      obtain ⟨⟨i1, i2, i3⟩, i4, i5, i6⟩ := hin
      obtain ⟨a', rfl⟩ := Nat.exists_eq_add_one_of_ne_zero i1
      have hlt : a' < h.1 := i2
      cases hh
      intro H locs cells slots A w1 w2 w3 w4 w5
      have hg := wd_get (b := b) (base := base) (cI := cI) (cII := cII) hlt
      rw [cE_obj i3] at hg
      have ea : cv b base (.ref (a' + 1)) = .ref (base + a') := by show Value.ref (ad b base (a' + 1)) = _; rw [ad_succ]
      rw [List.map_cons, List.map_cons, ea]
      show W p l e R s mi args below meth c H locs cells slots Q (F0 mi pc A (.int x :: .ref (base + a') :: List.map (cv b base) _))
      have hap := va_apart (own := (mN m).cls) hts (lay_in ci f2) (tYY ci) (tY_ok ci f2) (nm_ok ci f2) hK (clss_get ci f2)
      obtain ⟨r, g1, cell, q1, q2, q3, q4⟩ := w1.2.1 a' _ hg
      have hr : r = (cNm ci, TTT ci, cNf ci) := Option.some.inj (g1.symm.trans (clss_get ci f2))
      subst hr
      obtain ⟨hSl, hfc, kC, hkC, hkind⟩ := hK.1 ci _ (clss_get ci f2)
      obtain ⟨cf, kfc, fi, f, hi, hsl⟩ := hSl kf f3
      have hlay := hts _ (lay_in ci f2 _ (u_in_lay f3))
      unfold u_lay at hlay
      rw [if_neg (by rw [i5]; decide)] at hlay
      have hst := (u_facts hfc hkC (u_lays hts (lay_in ci f2) f3) hi).1
      obtain ⟨ty, ht, hnr, hft⟩ : ∃ ty, parseFieldDescriptor (TTT ci kf).2.2.1 = some ty ∧ narrow ty (.int x) = .int x ∧ fits ty (.int x) = true := by
        refine ⟨tYY ci kf, tY_ok ci f2 kf f3, ?_⟩
        have hty : ∀ c, c < 9 → ∀ k, k < cNf c → isI c k = true → (tYY c k = .int ∨ (tYY c k = .boolean ∧ isZ c k = true)) := by decide +kernel
        rcases hty ci f2 kf f3 i4 with h9 | ⟨h9, h10⟩
        · rw [h9]; exact ⟨rfl, rfl⟩
        · rw [h9]
          rcases i6 h10 with rfl | rfl <;> decide
      have h6' := u_store hfc hkC hkind hlay hi ht hnr hft
      refine W.putK hx1 hb (f := f) ⟨hown, hts _ f1, ⟨_, _, _, hi⟩, hst⟩ (by rw [q2]; exact h6') q1 q3 (by rw [hsl]; exact k2_hasslot (q4 kf f3)) rfl rfl hd fun H' e1 e2 e3 => ?_
      rw [hsl] at e1 ⊢
      have hlen : kf < ((List.range (cNf ci)).map (fun k => if isI ci k then Value.int (hG h (a' + 1) k) else va_rf (((hS h (a' + 1)).2.2 k).map (ad b base)))).length := by simpa using f3
      have hP := w1.2.1.set (wd_D h) hg (e := .inr (ci, ((List.range (cNf ci)).map (fun k => if isI ci k then Value.int (hG h (a' + 1) k) else va_rf (((hS h (a' + 1)).2.2 k).map (ad b base)))).set kf (.int x)))
        ⟨_, clss_get ci f2, t_OB.to (V := updV (vp_V _) kf (.int x)) ⟨_, e1, q2, q3, t_set q4 hap f3 (.int x)⟩ (fun j _ => vp_updV_set hlen (.int x) j)⟩ e3
      have hW : Wl b base L xs D cI cII (setG h (a' + 1) (upd (hG h (a' + 1)) kf x)) H' := by
        refine Wl_setG w1 hlt e2 ?_
        rw [cE_obj i3]
        rw [objs_set] at hP
        refine (congrArg (fun z => va_P D clss ((wd b base cI cII h).set a' (base + a', .inr (ci, z))) H') ?_).mp hP
        apply List.map_congr_left
        intro j hj
        by_cases hjk : j = kf
        · subst hjk
          rw [if_pos rfl, if_pos i4]
          simp [upd]
        · rw [if_neg hjk]
          simp [upd, hjk]
      exact k H' _ cells slots A hW (w2.put e2 e3 ((wd_D h).2 a' _ hg)) w3 w4 w5
    · cases hh
  · rename_i pr a st0 ci kf hf
    obtain ⟨f1, f2, f3⟩ := flk_ok hm hf
    split at hh
    · rename_i hin
      obtain ⟨⟨i1, i2, i3⟩, i4, i5, i6, i7⟩ := hin
      obtain ⟨a', rfl⟩ := Nat.exists_eq_add_one_of_ne_zero i1
      have hlt : a' < h.1 := i2
      cases hh
      intro H locs cells slots A w1 w2 w3 w4 w5
      have hg := wd_get (b := b) (base := base) (cI := cI) (cII := cII) hlt
      rw [cE_obj i3] at hg
      have ea : cv b base (.ref (a' + 1)) = .ref (base + a') := by show Value.ref (ad b base (a' + 1)) = _; rw [ad_succ]
      rw [List.map_cons, List.map_cons, ea]
      show W p l e R s mi args below meth c H locs cells slots Q (F0 mi pc A (.ref (ad b base pr) :: .ref (base + a') :: List.map (cv b base) _))
      have hap := va_apart (own := (mN m).cls) hts (lay_in ci f2) (tYY ci) (tY_ok ci f2) (nm_ok ci f2) hK (clss_get ci f2)
      obtain ⟨r, g1, cell, q1, q2, q3, q4⟩ := w1.2.1 a' _ hg
      have hr : r = (cNm ci, TTT ci, cNf ci) := Option.some.inj (g1.symm.trans (clss_get ci f2))
      subst hr
      obtain ⟨hSl, hfc, kC, hkC, hkind⟩ := hK.1 ci _ (clss_get ci f2)
      obtain ⟨cf, kfc, fi, f, hi, hsl⟩ := hSl kf f3
      have hlay := hts _ (lay_in ci f2 _ (u_in_lay f3))
      unfold u_lay at hlay
      rw [if_pos i5] at hlay
      have hst := (u_facts hfc hkC (u_lays hts (lay_in ci f2) f3) hi).1
      have hdecl : (TTT ci kf).1 = (mN m).cls := by
        have hd1 : ∀ c, c < 9 → ∀ k, k < cNf c → (TTT c k).1 = cNm c := by decide +kernel
        rw [hd1 ci f2 kf f3, mK_ok m hm (by rw [i7]; exact f2), i7]
      have hcf : mi.cls = cf := by
        obtain ⟨_, _, c', _, _, _, -, -, hf', -, -, -, hown2, -⟩ := Cond.laysFinal_spec hlay
        have e1 : c' = cf := by have := hi.symm.trans hf'; simp at this; exact this.1.symm
        rw [hdecl] at hown2
        rw [← e1]; exact Option.some.inj (hown.symm.trans hown2)
      obtain ⟨ty, ht, hnr, hft⟩ : ∃ ty, parseFieldDescriptor (TTT ci kf).2.2.1 = some ty ∧ narrow ty (.ref (ad b base pr)) = .ref (ad b base pr) ∧ fits ty (.ref (ad b base pr)) = true := by
        refine ⟨tYY ci kf, tY_ok ci f2 kf f3, ?_⟩
        have hty : ∀ c, c < 9 → ∀ k, k < cNf c → isI c k = false → (tYY c k).isReference = true := by decide +kernel
        have h9 := hty ci f2 kf f3 i4
        cases h10 : tYY ci kf <;> rw [h10] at h9 <;> first | exact ⟨rfl, rfl⟩ | exact absurd h9 (by decide)
      have h6' := u_fits hfc hkC hkind (Or.inr hlay) hi ht hnr hft
      refine W.putFinK hx1 hb hown (hts _ f1) hi hst hcf (h4 i6) (by rw [q2]; exact h6') q1 q3 (by rw [hsl]; exact k2_hasslot (q4 kf f3)) rfl rfl hd fun H' e1 e2 e3 => ?_
      rw [hsl] at e1 ⊢
      have hlen : kf < ((List.range (cNf ci)).map (fun k => if isI ci k then Value.int (hG h (a' + 1) k) else va_rf (((hS h (a' + 1)).2.2 k).map (ad b base)))).length := by simpa using f3
      have hP := w1.2.1.set (wd_D h) hg (e := .inr (ci, ((List.range (cNf ci)).map (fun k => if isI ci k then Value.int (hG h (a' + 1) k) else va_rf (((hS h (a' + 1)).2.2 k).map (ad b base)))).set kf (.ref (ad b base pr))))
        ⟨_, clss_get ci f2, t_OB.to (V := updV (vp_V _) kf (.ref (ad b base pr))) ⟨_, e1, q2, q3, t_set q4 hap f3 (.ref (ad b base pr))⟩ (fun j _ => vp_updV_set hlen (.ref (ad b base pr)) j)⟩ e3
      have hW : Wl b base L xs D cI cII (setS h (a' + 1) ((hS h (a' + 1)).1, (hS h (a' + 1)).2.1, upf (hS h (a' + 1)).2.2 kf (some pr))) H' := by
        refine Wl_setS w1 hlt e2 ?_
        rw [cE_obj (ci := ci) (sh := ((hS h (a' + 1)).1, (hS h (a' + 1)).2.1, upf (hS h (a' + 1)).2.2 kf (some pr))) i3]
        rw [objs_set] at hP
        refine (congrArg (fun z => va_P D clss ((wd b base cI cII h).set a' (base + a', .inr (ci, z))) H') ?_).mp hP
        apply List.map_congr_left
        intro j hj
        by_cases hjk : j = kf
        · subst hjk
          rw [if_pos rfl, if_neg (by rw [i4]; decide)]
          simp [upf, va_rf]
        · rw [if_neg hjk]
          simp [upf, hjk]
      exact k H' _ cells slots A hW (w2.put e2 e3 ((wd_D h).2 a' _ hg)) w3 w4 w5
    · cases hh
  · cases hh
end SNH
end
section
/-! THE SMALL MACHINE IS SOUND: arrays, makings -/
section SNA
variable {X : Cx} {m pc pc' : Nat} {ls st ls' st' : List Value} {h h' : Hp}
theorem s_ial (G : Gx X m) (hd : decode (mB m) pc = .ok (.iaload, 1)) (hh : hIal pc ls st h = some (.inr (pc', ls', st', h'))) (k : Rn X m pc' ls' st' h') : Rn X m pc ls st h := by
  obtain ⟨p, l, e, R, s, mi, args, below, meth, c, Q, b, base, L, xs, D, cI, cII⟩ := X
  obtain ⟨hx1, hb, hml, hown, hts, hK, h1, h2, h3, h4, h5, h6, h7, h8, hm, -⟩ := G
  unfold hIal at hh
  split at hh
  · rename_i i a st0
    split at hh
    · rename_i hc
      obtain ⟨c1, c2, c3⟩ := hc
      cases hh
      intro H locs cells slots A w1 w2 w3 w4 w5
      rw [List.map_cons, List.map_cons]
      cases a with
      | zero =>
        have e0 : cv b base (.ref 0) = .ref b := by show Value.ref (ad b base 0) = _; rw [ad_zero]
        rw [e0]
        obtain ⟨a1, a2, a3, a4, a5⟩ := w1
        rw [a4] at c3
        rw [a5] at k
        exact va_sld (meth := meth) hx1 hb h3 (Nat.lt_of_lt_of_le h2 h1) (fun z => Nat.not_le.mpr h2 z) w2 c3 hd (k H locs cells slots A ⟨a1, a2, a3, a4, a5⟩ w2 w3 w4 w5)
      | succ a' =>
        have e0 : cv b base (.ref (a' + 1)) = .ref (base + a') := by show Value.ref (ad b base (a' + 1)) = _; rw [ad_succ]
        rw [e0]
        have hg := wd_get (b := b) (base := base) (cI := cI) (cII := cII) (h := h) (k := a') c1
        rw [cE_arr c2] at hg
        exact va_iald (meth := meth) hx1 hb hK w1.2.1 a' 0 hg rfl c3 hd (k H locs cells slots A w1 w2 w3 w4 w5)
    · cases hh
  · cases hh
theorem s_ias (G : Gx X m) (hd : decode (mB m) pc = .ok (.iastore, 1)) (hh : hIas pc ls st h = some (.inr (pc', ls', st', h'))) (k : Rn X m pc' ls' st' h') : Rn X m pc ls st h := by
  obtain ⟨p, l, e, R, s, mi, args, below, meth, c, Q, b, base, L, xs, D, cI, cII⟩ := X
  obtain ⟨hx1, hb, hml, hown, hts, hK, h1, h2, h3, h4, h5, h6, h7, h8, hm, -⟩ := G
  unfold hIas at hh
  split at hh
  · rename_i x i a st0
    split at hh
    · rename_i hc
      obtain ⟨c0, c1, c2, c3⟩ := hc
      obtain ⟨a', rfl⟩ := Nat.exists_eq_add_one_of_ne_zero c0
      cases hh
      intro H locs cells slots A w1 w2 w3 w4 w5
      rw [List.map_cons, List.map_cons, List.map_cons]
      have e0 : cv b base (.ref (a' + 1)) = .ref (base + a') := by show Value.ref (ad b base (a' + 1)) = _; rw [ad_succ]
      rw [e0]
      have hlt : a' < h.1 := c1
      have hg := wd_get (b := b) (base := base) (cI := cI) (cII := cII) hlt
      rw [cE_arr c2] at hg
      refine W.iast (meth := meth) hx1 hb (w1.2.1 a' _ hg) ((hK.2 0 _ rfl).1 _ (fun j => .int (hG h (a' + 1) j))) (fun q => by cases q) (by show ¬ (i < 0 ∨ (arrV _ _ _).slots.size ≤ _); rw [arrV_size]; exact c3) rfl rfl hd fun H1 e1 z oq => ?_
      refine k H1 _ cells slots A (Wl_setG w1 hlt z ?_) (w2.put z oq ((wd_D h).2 a' _ hg)) w3 w4 w5
      rw [cE_arr c2]
      refine w1.2.1.set (wd_D h) hg ?_ oq
      show H1[base + a']? = some (vp_cell _ _)
      rw [e1]
      rw [vp_cell_i, vp_cell_i, arrV_store]
      congr 2
      funext q
      by_cases hq : q = i.toNatClampNeg
      · subst hq
        simp [upd, updV]
      · simp [upd, updV, hq]
    · cases hh
  · cases hh
theorem s_aal (G : Gx X m) (hd : decode (mB m) pc = .ok (.aaload, 1)) (hh : hAal pc ls st h = some (.inr (pc', ls', st', h'))) (k : Rn X m pc' ls' st' h') : Rn X m pc ls st h := by
  obtain ⟨p, l, e, R, s, mi, args, below, meth, c, Q, b, base, L, xs, D, cI, cII⟩ := X
  obtain ⟨hx1, hb, hml, hown, hts, hK, h1, h2, h3, h4, h5, h6, h7, h8, hm, -⟩ := G
  unfold hAal at hh
  split at hh
  · rename_i i a st0
    split at hh
    · rename_i hc
      obtain ⟨c0, c1, c2, c3⟩ := hc
      obtain ⟨a', rfl⟩ := Nat.exists_eq_add_one_of_ne_zero c0
      cases hh
      intro H locs cells slots A w1 w2 w3 w4 w5
      rw [List.map_cons, List.map_cons]
      have e0 : cv b base (.ref (a' + 1)) = .ref (base + a') := by show Value.ref (ad b base (a' + 1)) = _; rw [ad_succ]
      rw [e0]
      have hlt : a' < h.1 := c1
      have hg := wd_get (b := b) (base := base) (cI := cI) (cII := cII) hlt
      rw [cE_rows c2] at hg
      have hi : i.toNatClampNeg < (hS h (a' + 1)).2.1 := Nat.not_le.mp fun q => c3 (Or.inr q)
      have q := k H locs cells slots A w1 w2 w3 w4 w5
      rw [List.map_cons, cv_rv] at q
      exact W.aald (meth := meth) (v := va_rf (((hS h (a' + 1)).2.2 i.toNatClampNeg).map (ad b base))) (ty := .array .int) hx1 hb (w1.2.1 a' _ hg) ((hK.2 1 _ rfl).1 _ (fun j => va_rf (((hS h (a' + 1)).2.2 j).map (ad b base)))) rfl (fun q => by cases q) (by show ¬ (i < 0 ∨ (arrV _ _ _).slots.size ≤ _); rw [arrV_size]; exact c3) (by show (arrV _ _ _).slots[_]? = _; rw [arrV_read _ _ hi]) rfl rfl hd q
    · cases hh
  · cases hh
theorem s_len (G : Gx X m) (hd : decode (mB m) pc = .ok (.arraylength, 1)) (hh : hLen pc ls st h = some (.inr (pc', ls', st', h'))) (k : Rn X m pc' ls' st' h') : Rn X m pc ls st h := by
  obtain ⟨p, l, e, R, s, mi, args, below, meth, c, Q, b, base, L, xs, D, cI, cII⟩ := X
  obtain ⟨hx1, hb, hml, hown, hts, hK, h1, h2, h3, h4, h5, h6, h7, h8, hm, -⟩ := G
  unfold hLen at hh
  split at hh
  · rename_i a st0
    split at hh
    · rename_i hc
      obtain ⟨c1, c2⟩ := hc
      cases hh
      intro H locs cells slots A w1 w2 w3 w4 w5
      rw [List.map_cons]
      have q := k H locs cells slots A w1 w2 w3 w4 w5
      cases a with
      | zero =>
        have e0 : cv b base (.ref 0) = .ref b := by show Value.ref (ad b base 0) = _; rw [ad_zero]
        rw [e0]
        rw [w1.2.2.2.1] at q
        exact va_slen (meth := meth) hx1 hb h3 (Nat.lt_of_lt_of_le h2 h1) (fun z => Nat.not_le.mpr h2 z) w2 hd q
      | succ a' =>
        have e0 : cv b base (.ref (a' + 1)) = .ref (base + a') := by show Value.ref (ad b base (a' + 1)) = _; rw [ad_succ]
        rw [e0]
        have hg := wd_get (b := b) (base := base) (cI := cI) (cII := cII) (h := h) (k := a') c1
        rcases c2 with c2 | ⟨c2, -⟩
        · rw [cE_arr c2] at hg
          exact va_alen (meth := meth) hx1 hb hK w1.2.1 a' 0 hg rfl rfl hd q
        · rw [cE_rows c2] at hg
          exact va_alen (meth := meth) hx1 hb hK w1.2.1 a' 1 hg rfl rfl hd q
    · cases hh
  · cases hh
/-- a cell made at the heap's end -/
theorem Wl_push {b base L : Nat} {xs : Nat → Int32} {D : va_G} {cI cII : ClassId} {sh : Shp} {f : Nat → Int32} {bc bs : Nat} {H H1 : Heap} (w : Wl b base L xs D cI cII h H) (hz : H1.size = H.size + 1) (ho : ∀ q, q < H.size → H1[q]? = H[q]?)
    (hc : va_at D clss (base + h.1, cE b base cI cII sh f) H1) : Wl b base L xs D cI cII (h.1 + 1, bc, bs, upf h.2.2.2.1 (h.1 + 1) sh, upf h.2.2.2.2 (h.1 + 1) f) H1 := by
  obtain ⟨a1, a2, a3, a4, a5⟩ := w
  have e1 : ∀ j, j ≤ h.1 → upf h.2.2.2.1 (h.1 + 1) sh j = hS h j := fun j hj => if_neg (by omega)
  have e2 : ∀ j, j ≤ h.1 → upf h.2.2.2.2 (h.1 + 1) f j = hG h j := fun j hj => if_neg (by omega)
  refine ⟨by rw [hz, a1]; exact Nat.add_assoc _ _ _, ?_, ?_, ?_, ?_⟩
  · rw [← wd_push (h := h) rfl (fun j hj => ⟨e1 j hj, e2 j hj⟩)]
    refine (a2.kept (fun k q hq => ho q.1 ((a2 k q hq).lt))).app (fun k q hq => ?_)
    have hk : k < 1 := (List.getElem?_eq_some_iff.mp hq).1
    rw [show k = 0 by omega] at hq
    cases hq
    have t1 : upf h.2.2.2.1 (h.1 + 1) sh (h.1 + 1) = sh := if_pos rfl
    have t2 : upf h.2.2.2.2 (h.1 + 1) f (h.1 + 1) = f := if_pos rfl
    show va_at D clss (base + h.1, cE b base cI cII (upf h.2.2.2.1 (h.1 + 1) sh (h.1 + 1)) (upf h.2.2.2.2 (h.1 + 1) f (h.1 + 1))) H1
    rw [t1, t2]
    exact hc
  · show (upf h.2.2.2.1 (h.1 + 1) sh 0).1 = 0
    rw [e1 0 (by omega)]
    exact a3
  · show (upf h.2.2.2.1 (h.1 + 1) sh 0).2.1 = L
    rw [e1 0 (by omega)]
    exact a4
  · show upf h.2.2.2.2 (h.1 + 1) f 0 = xs
    rw [e2 0 (by omega)]
    exact a5
theorem s_nwa (G : Gx X m) (hd : decode (mB m) pc = .ok (.newarray .int, 2)) (hh : hNwa pc ls st h = some (.inr (pc', ls', st', h'))) (k : Rn X m pc' ls' st' h') : Rn X m pc ls st h := by
  obtain ⟨p, l, e, R, s, mi, args, below, meth, c, Q, b, base, L, xs, D, cI, cII⟩ := X
  obtain ⟨hx1, hb, hml, hown, hts, hK, h1, h2, h3, h4, h5, h6, h7, h8, hm, -⟩ := G
  unfold hNwa at hh
  split at hh
  · rename_i n st0
    split at hh
    · rename_i hc
      obtain ⟨c1, c2, c3, c4⟩ := hc
      cases hh
      intro H locs cells slots A w1 w2 w3 w4 w5
      rw [List.map_cons]
      show W p l e R s mi args below meth c H locs cells slots Q (F0 mi pc A (.int n :: List.map (cv b base) _))
      refine va_newaK (meth := meth) (atype := .int) hx1 hb (hts _ sp_arI) rfl hd rfl c1 rfl (by show n.toNatClampNeg * 4 ≤ 536870912; omega) (by omega) (by omega) rfl fun H1 cA e1 z1 o1 hAr hNm => ?_
      have hcA : cA = cI := by
        have hr := (hK.2 0 _ rfl).2
        exact Option.some.inj (hNm.symm.trans hr)
      subst hcA
      have q := k H1 locs (cells + 1) (slots + n.toNatClampNeg) A (Wl_push (sh := (0, n.toNatClampNeg, fun _ => none)) (f := fun _ => 0) w1 z1 o1 (by
          rw [cE_arr rfl]
          show H1[base + h.1]? = some (vp_cell _ _)
          rw [← w1.1]
          exact e1)) ⟨Nat.le_trans w2.1 (by omega), fun x g1 g2 => (o1 x (Nat.lt_of_lt_of_le g1 w2.1)).trans (w2.2.1 x g1 g2), w2.2.2⟩ (by show cells + 1 + (h.2.1 - 1) = _; omega) (by show slots + n.toNatClampNeg + (h.2.2.1 - n.toNatClampNeg) = _; omega) w5
      have e0 : cv b base (.ref (h.1 + 1)) = .ref H.size := by show Value.ref (ad b base (h.1 + 1)) = _; rw [ad_succ, w1.1]
      rw [List.map_cons, e0] at q
      exact q
    · cases hh
  · cases hh
theorem s_new {i : Nat} (G : Gx X m) (hd : decode (mB m) pc = .ok (.new i, 3)) (hh : hNew m i pc ls st h = some (.inr (pc', ls', st', h'))) (k : Rn X m pc' ls' st' h') : Rn X m pc ls st h := by
  obtain ⟨p, l, e, R, s, mi, args, below, meth, c, Q, b, base, L, xs, D, cI, cII⟩ := X
  obtain ⟨hx1, hb, hml, hown, hts, hK, h1, h2, h3, h4, h5, h6, h7, h8, hm, -⟩ := G
  unfold hNew at hh
  split at hh
  · rename_i ci hcl
    obtain ⟨f1, f2, f3, f4⟩ := clk_ok hm hcl
    split at hh
    · rename_i hc
      obtain ⟨c1, c2⟩ := hc
      cases hh
      intro H locs cells slots A w1 w2 w3 w4 w5
      have hKn := hK.1 ci _ (clss_get ci f4)
      refine W.newcK (meth := meth) hx1 hb hown (hts _ f1) (hts _ f2) (hts _ f3) rfl hd (by omega) (by omega) hKn.2.1 rfl fun H1 kC hkC e1 z1 o1 => ?_
      have q := k H1 locs (cells + 1) (slots + cNf ci) A (Wl_push (sh := (ci + 2, 0, fun _ => none)) (f := fun _ => 0) w1 z1 o1 (by
          rw [cE_obj (ci := ci) rfl]
          refine ⟨_, clss_get ci f4, ?_⟩
          rw [← w1.1]
          refine (u_born (tYY ci) hts (lay_in ci f4) hKn hkC e1 (tY_ok ci f4)).to (fun j hj => ?_)
          have hty : ∀ c, c < 9 → ∀ k, k < cNf c → defaultValue (tYY c k) = if isI c k then .int 0 else .null := by decide +kernel
          show defaultValue (tYY ci j) = vp_V _ j
          rw [hty ci f4 j hj]
          unfold vp_V
          rw [List.getD_eq_getElem?_getD, objs_get hj]
          rfl)) ⟨Nat.le_trans w2.1 (by omega), fun x g1 g2 => (o1 x (Nat.lt_of_lt_of_le g1 w2.1)).trans (w2.2.1 x g1 g2), w2.2.2⟩ (by show cells + 1 + (h.2.1 - 1) = _; omega) (by show slots + cNf ci + (h.2.2.1 - cNf ci) = _; omega) w5
      have e0 : cv b base (.ref (h.1 + 1)) = .ref H.size := by show Value.ref (ad b base (h.1 + 1)) = _; rw [ad_succ, w1.1]
      rw [List.map_cons, e0] at q
      exact q
    · cases hh
  · cases hh
end SNA
end
section
/-! THE SMALL MACHINE IS SOUND: calls -/
theorem aoa_spec {s : State} (h : (Cond.arrayOver (.array .int)).before #[] s = true) :
    ∃ comp c k, s.vm.findClass (FieldType.array .int).toString = some comp ∧ (s.vm.classes.findIdx? fun (x : Class) => match x.kind with | .array component _ => component == comp | _ => false) = some c ∧ s.vm.classes[c]? = some k ∧ k.kind = .array comp (.array .int) ∧
      s.vm.findClass ("[" ++ (FieldType.array .int).toString) = some c := by
  simp only [Cond.before, Cond.holds, Cond.value, beq_iff_eq] at h
  cases hc : s.vm.findClass (FieldType.array .int).toString with
  | none => simp [hc] at h
  | some comp =>
    simp only [hc, Option.bind_some, Option.bind_eq_some_iff, Option.map_eq_some_iff] at h
    obtain ⟨c, hi, k, hk, hb⟩ := h
    obtain ⟨hlt, hp, -⟩ := Array.findIdx?_eq_some_iff_getElem.mp hi
    have hkk : s.vm.classes[c] = k := (Array.getElem?_eq_some_iff.mp hk).2
    rw [hkk] at hp
    cases hkind : k.kind with
    | array component ty =>
      rw [hkind] at hb hp
      simp at hb hp
      exact ⟨comp, c, k, rfl, hi, hk, by rw [hkind, hp, hb.1], hb.2⟩
    | _ => rw [hkind] at hb; simp at hb
theorem aoa_moved {u U : State} (hvm : u.vm.Alike U.vm) (h : (Cond.arrayOver (.array .int)).before #[] u = true) : (Cond.arrayOver (.array .int)).before #[] U = true := by
  obtain ⟨comp, c, k, h1, h2, h3, h4, h5⟩ := aoa_spec h
  obtain ⟨k', hk', he⟩ := hvm.2.2 _ _ h3
  have hi : (U.vm.classes.findIdx? fun (x : Class) => match x.kind with | .array component _ => component == comp | _ => false) = some c := by
    refine (va_idx_bare U.vm comp).symm.trans ?_
    first | rw [hvm.bare_eq] | rw [← hvm.bare_eq]
    exact (va_idx_bare u.vm comp).trans h2
  have hkind : k'.kind = .array comp (.array .int) := by rw [he]; exact h4
  have f1 : U.vm.findClass (FieldType.array .int).toString = some comp := by rw [hvm.findClass]; exact h1
  have f2 : U.vm.findClass ("[" ++ (FieldType.array .int).toString) = some c := by rw [hvm.findClass]; exact h5
  unfold Cond.before Cond.holds
  simp only [Cond.value]
  rw [f1, Option.bind_some]
  refine (congrArg (fun o : Option Nat => (o.bind (fun c => (U.vm.classes[c]?).map fun (k : Class) => match k.kind with | .array _ ty => decide (ty = FieldType.array .int) && decide (U.vm.findClass ("[" ++ (FieldType.array .int).toString) = some c) | _ => false) == some true)) hi).trans ?_
  simp [hk', hkind, f2]
theorem NW.warm {s U : State} (hW : s.WarmedH U.vm) (h : NW s) : NW U := by
  refine ⟨fun w hw => ?_, aoa_moved hW.alike h.2⟩
  have h1 := h.1 w hw
  obtain ⟨e, -, rfl⟩ := List.mem_map.mp hw
  exact va_Nw.warmM hW h1
/-- what holds as a method begins -/
def Pw (b base L : Nat) (xs : Nat → Int32) (D : va_G) (cI cII : ClassId) (h : Hp) (U : State) : Prop :=
  Wl b base L xs D cI cII h U.heap ∧ va_K D clss [(cI, .int), (cII, .array .int)] U ∧ va_X b L xs U U.heap ∧ b < base ∧ NW U
/-- what holds as it ends -/
def Qw (b base L : Nat) (xs : Nat → Int32) (D : va_G) (cI cII : ClassId) (r : Option Int32) (h : Hp) : State → Outcome → State → Prop := fun st o t =>
  o = .returned (r.map Value.int) ∧ Wl b base L xs D cI cII h t.heap ∧ va_F (Ow base) st t
def rm (y : Nat) : Room := { frames := ht y, cells := mc y, slots := ms y, locals := 30 * ht y }
abbrev wsm (y : Nat) : List Cond := Cond.code (mN y) (mB y) (mL y) (mR y) :: wsAll
def CT (l : Launch) (b base L : Nat) (xs : Nat → Int32) (D : va_G) (cI cII : ClassId) (y : Nat) (As : List Value) (h : Hp) (r : Option Int32) (h' : Hp) : Prop :=
  Met l (mN y) (wsm y) (rm y) (va_Pc (As.map (cv b base)) (Pw b base L xs D cI cII h)) (fun _ => Qw b base L xs D cI cII r h') (mc y) (ms y) (Ow base)
theorem Pw_blind {b base L : Nat} {xs : Nat → Int32} {D : va_G} {cI cII : ClassId} {h : Hp} {As : List Value} : FrameBlind (va_Pc As (Pw b base L xs D cI cII h)) := by
  intro a U g mk q
  obtain ⟨q0, q1, q2, q3, q4, q5⟩ := q
  exact ⟨q0, q1, va_K.moved (u := U) (U := U.calling g mk a) (Vm.Alike.refl U.vm) q2, va_X.moved (u := U) (U := U.calling g mk a) (Vm.Alike.refl U.vm) q3, q4, NW.warm (s := U) (U := U.calling g mk a) (State.WarmedH.refl U) q5⟩
theorem good_all (y : Nat) (hy : y < 199) : GoodIn wsAll (wsm y) := by
  intro w hw
  have hm : w ∈ wsAll := by
    rcases List.mem_cons.mp hw with rfl | h
    · exact cod_in y hy
    · exact h
  exact ⟨hm, good_of_word (List.mem_filter.mp hm).2⟩
section SNC
variable {p : Program} {l : Launch} {e : Env} {R : Room} {s : State} {mi : MethodId} {args : Array Value} {below : List Frame} {meth : Method} {c : Code} {Q : State → Prop}
variable {b base L : Nat} {xs : Nat → Int32} {D : va_G} {cI cII : ClassId} {H : Heap} {locs : List Loc} {cells slots pc : Nat} {A : Array Slot} {rest st0 : List Value} {r : Option Int32} {h' : Hp}
theorem runK {mc1 ms1 : Nat} (hr : va_Run p l e R s mi args below meth c H locs cells slots mc1 ms1 (F0 mi pc A st0) rest (Qw b base L xs D cI cII r h') (Ow base)) (w2 : va_S (Ow base) s.heap H locs)
    (kk : ∀ (H1 : Heap) (locs1 : List Loc), Wl b base L xs D cI cII h' H1 → va_S (Ow base) s.heap H1 locs1 → W p l e R s mi args below meth c H1 locs1 (cells + mc1) (slots + ms1) Q (F0 mi (pc + 3) A ((r.map Value.int).toList ++ rest))) : W p l e R s mi args below meth c H locs cells slots Q (F0 mi pc A st0) := by
  intro T hT X
  obtain ⟨v, st₀, t, T', L9, h0, X', hL, e1, e2, ⟨hv, hb, hz, hk⟩, st⟩ := hr T hT X
  cases hv
  rw [h0] at hz hk
  obtain ⟨t2, a1, b1⟩ := kk T'.heap (locs ++ L9) (by rw [e1]; exact hb)
    ⟨Nat.le_trans w2.1 (by rw [e1]; exact hz), fun q h1 h2 => by rw [e1, hk q (Nat.lt_of_lt_of_le h1 w2.1) h2]; exact w2.2.1 q h1 h2, fun q hq => by
      rcases List.mem_append.mp hq with h | h
      · exact w2.2.2 q h
      · exact hL q h⟩ T' rfl X'
  exact ⟨t2, st t2 a1, b1⟩
end SNC
/-- what a call's callee keeps to -/
def Cs (X : Cx) (E : Nat → List Value → Hp → Option Rs) (m : Nat) : Prop := match X with
  | (p, l, e, R, s, mi, args, below, meth, c, Q, b, base, L, xs, D, cI, cII) => ∀ (y : Nat) (As : List Value) (h : Hp) (r : Option Int32) (h' : Hp), y < 199 → h.2.1 = mc y → h.2.2.1 = ms y → E y As h = some (r, h') → ht y < ht m ∧ CT l b base L xs D cI cII y As h r h'
section SNB
variable {X : Cx} {E : Nat → List Value → Hp → Option Rs} {m pc pc' : Nat} {ls st ls' st' : List Value} {h h' : Hp}
theorem take_rev {st As : List Value} {f : Value → Value} {n : Nat} {v : Value} {rest : List Value} (hd : st.drop n = v :: rest) : st.map f = ((st.take n).reverse.map f).reverse ++ f v :: rest.map f := by
  rw [← List.map_reverse, List.reverse_reverse, ← List.map_cons, ← List.map_append, ← hd, List.take_append_drop]
theorem take_rev2 {st : List Value} {f : Value → Value} {n : Nat} : st.map f = ((st.take n).reverse.map f).reverse ++ (st.drop n).map f := by
  rw [← List.map_reverse, List.reverse_reverse, ← List.map_append, List.take_append_drop]
theorem drop_len {st : List Value} {n : Nat} {v : Value} {rest : List Value} (hd : st.drop n = v :: rest) : (st.take n).length = n := by
  have h1 := congrArg List.length hd
  rw [List.length_drop, List.length_cons] at h1
  rw [List.length_take]
  omega
/-- what a call brings together: the callee's words and room -/
theorem call_b {p : Program} {l : Launch} {e : Env} {R : Room} {s : State} {mi : MethodId} {args : Array Value} {below : List Frame} {meth : Method} {c : Code} {Q : State → Prop} {b base L : Nat} {xs : Nat → Int32} {D : va_G} {cI cII : ClassId} {y i : Nat}
    (G : Gx (p, l, e, R, s, mi, args, below, meth, c, Q, b, base, L, xs, D, cI, cII) m) (hy : y < 199) (hl : Cond.methodLink (mN m).cls i (mN y) ∈ wsAll) (hht : ht y < ht m) :
    CallB R s args (mN m).cls i (mN y) (mB y) (mL y) (mR y) (wsm y) (rm y) (mc y) (ms y) (mP y) := by
  obtain ⟨hx1, hb, hml, hown, hts, hK, h1, h2, h3, h4, h5, h6, h7, h8, hm, -⟩ := G
  have hL := m_maxL y (by omega)
  exact callB_of (mP y) hts (good_all y hy) rfl rfl rfl (hts _ (ini_in y (by omega))) (hts _ hl) (m_cls y (by omega)) ⟨by show ht y + 1 ≤ R.frames; omega, by show 8 + (mL y + 11) + 30 * ht y ≤ R.locals; omega⟩
theorem pre_ok {p : Program} {l : Launch} {e : Env} {R : Room} {s : State} {mi : MethodId} {args : Array Value} {below : List Frame} {meth : Method} {c : Code} {Q : State → Prop} {b base L : Nat} {xs : Nat → Int32} {D : va_G} {cI cII : ClassId} {y : Nat} {As : List Value} {H : Heap} {locs : List Loc}
    (G : Gx (p, l, e, R, s, mi, args, below, meth, c, Q, b, base, L, xs, D, cI, cII) m) (w1 : Wl b base L xs D cI cII h H) (w2 : va_S (Ow base) s.heap H locs) :
    PreS s H (va_Pc (As.map (cv b base)) (Pw b base L xs D cI cII (enH y h))) (As.map (cv b base)) := by
  obtain ⟨hx1, hb, hml, hown, hts, hK, h1, h2, h3, h4, h5, h6, h7, h8, hm, hN, -⟩ := G
  refine ⟨Pw_blind, fun U hU hW => ⟨rfl, ?_, hK.moved hW.alike, ?_, h2, hN.warm hW⟩⟩
  · rw [hU]
    exact Wl_congr rfl rfl rfl w1
  · rw [hU]
    exact (h3.kept (w2.2.1 b (Nat.lt_of_lt_of_le h2 h1) (Nat.not_le.mpr h2))).moved hW.alike
/-- the call itself: the callee's answer goes onto the stack -/
theorem s_call {y : Nat} {As rest : List Value} (G : Gx X m) (IH : Cs X E m) (hy : y < 199) (hh : hCall E y As rest pc ls h = some (.inr (pc', ls', st', h'))) (k : Rn X m pc' ls' st' h')
    (row : match X with
      | (p, l, e, R, s, mi, args, below, meth, c, Q, b, base, L, xs, D, cI, cII) => ∀ (H : Heap) (locs : List Loc) (cells slots : Nat) (A : Array Slot) (r : Option Int32) (h1 : Hp), ht y < ht m → CT l b base L xs D cI cII y As (enH y h) r h1 → Wl b base L xs D cI cII h H → va_S (Ow base) s.heap H locs → LH b base A m ls → cells + mc y ≤ R.cells ∧ slots + ms y ≤ R.slots → ((rest.map (cv b base)).map fun v => v.category).sum ≤ 8 →
        va_Run p l e R s mi args below meth c H locs cells slots (mc y) (ms y) (F0 mi pc A (st.map (cv b base))) (rest.map (cv b base)) (Qw b base L xs D cI cII r h1) (Ow base)) : Rn X m pc ls st h := by
  obtain ⟨p, l, e, R, s, mi, args, below, meth, c, Q, b, base, L, xs, D, cI, cII⟩ := X
  have G' := G
  obtain ⟨hx1, hb, hml, hown, hts, hK, g1, g2, g3, g4, g5, g6, g7, g8, hm, -⟩ := G'
  unfold hCall at hh
  split at hh
  · rename_i hc
    obtain ⟨c1, c2, c3⟩ := hc
    cases hE : E y As (enH y h) with
    | none => rw [hE] at hh; cases hh
    | some q =>
      obtain ⟨r, h1⟩ := q
      rw [hE] at hh
      obtain ⟨i1, i2⟩ := IH y As (enH y h) r h1 hy rfl rfl hE
      cases hh
      intro H locs cells slots A w1 w2 w3 w4 w5
      refine runK (row H locs cells slots A r h1 i1 i2 w1 w2 w5 ⟨by omega, by omega⟩ (by rw [cv_cats]; exact c1)) w2 (fun H1 locs1 v1 v2 => ?_)
      have q := k H1 locs1 (cells + mc y) (slots + ms y) A (Wl_congr rfl rfl rfl v1) v2 (by show cells + mc y + (h.2.1 - mc y) = _; omega) (by show slots + ms y + (h.2.2.1 - ms y) = _; omega) w5
      rw [List.map_append] at q
      have e1 : ((r.map Value.int).toList).map (cv b base) = (r.map Value.int).toList := by cases r <;> rfl
      rw [e1] at q
      exact q
  · cases hh
theorem s_vir {i : Nat} (G : Gx X m) (IH : Cs X E m) (hd : decode (mB m) pc = .ok (.invokevirtual i, 3)) (hh : hVir E m i pc ls st h = some (.inr (pc', ls', st', h'))) (k : Rn X m pc' ls' st' h') : Rn X m pc ls st h := by
  unfold hVir at hh
  split at hh
  · rename_i y hy
    split at hh
    · rename_i hkd
      split at hh
      · rename_i a rest hdr
        split at hh
        · rename_i hin
          obtain ⟨hk9, hin⟩ := hin
          obtain ⟨a', rfl⟩ := Nat.exists_eq_add_one_of_ne_zero hin.1
          have hm : m < 200 := by
            obtain ⟨p, l, e, R, s, mi, args, below, meth, c, Q, b, base, L, xs, D, cI, cII⟩ := X
            obtain ⟨hx1, hb, hml, hown, hts, hK, g1, g2, g3, g4, g5, g6, g7, g8, hm, -⟩ := G
            exact hm
          obtain ⟨f1, f2⟩ := mlk_ok hm hy
          refine s_call G IH f2 hh k ?_
          obtain ⟨p, l, e, R, s, mi, args, below, meth, c, Q, b, base, L, xs, D, cI, cII⟩ := X
          intro H locs cells slots A r h1 i1 i2 w1 w2 w5 hf hcat
          have cb := call_b G f2 f1 i1
          have pr := pre_ok (As := .ref (a' + 1) :: (st.take (mP y)).reverse) (y := y) G w1 w2
          obtain ⟨hx1, hb, hml, hown, hts, hK, g1, g2, g3, g4, g5, g6, g7, g8, hm, -⟩ := G
          have hlt : a' < h.1 := hin.2.1
          have hg := wd_get (b := b) (base := base) (cI := cI) (cII := cII) hlt
          rw [cE_obj hin.2.2] at hg
          have hcls : (mN y).cls = cNm (mK y) := mK_ok y (by omega) hk9
          have hrec := va_recv hK w1.2.1 (clss_get (mK y) hk9) hg
          have e0 : cv b base (.ref (a' + 1)) = .ref (base + a') := by show Value.ref (ad b base (a' + 1)) = _; rw [ad_succ]
          unfold CT at i2
          rw [List.map_cons, e0] at pr i2
          refine va_runV (nL := mL m) (n := mP y) (As := (st.take (mP y)).reverse.map (cv b base)) (b := base + a') ⟨hx1, hb, hml, hown, hts⟩ i2 (C := (mN y).cls) ⟨cb, hts _ (ins_in y f2 (by rw [hkd]; decide)), hts _ (sel_in y f2 hkd)⟩ ⟨pr.1, by rw [hcls]; exact hrec, pr.2⟩ rfl ?_ w5.1 ?_ ?_ hd hf
          · rw [List.length_map, List.length_reverse]
            exact drop_len hdr
          · show st.map (cv b base) = _
            rw [take_rev (As := []) hdr, e0]
          · exact lv_room hcat
        · cases hh
      · cases hh
    · cases hh
  · cases hh
end SNB
end
section
/-! THE SMALL MACHINE IS SOUND: static calls, constructors, the rest; whole methods -/
section SNM
variable {X : Cx} {E : Nat → List Value → Hp → Option Rs} {m pc pc' : Nat} {ls st ls' st' : List Value} {h h' : Hp}
theorem Gx.m200 (G : Gx X m) : m < 200 := by
  obtain ⟨p, l, e, R, s, mi, args, below, meth, c, Q, b, base, L, xs, D, cI, cII⟩ := X
  obtain ⟨hx1, hb, hml, hown, hts, hK, g1, g2, g3, g4, g5, g6, g7, g8, hm, -⟩ := G
  exact hm
theorem s_copy {n dp sp : Int32} {a0 a1 i : Nat} {st0 : List Value} (G : Gx X m) (hd : decode (mB m) pc = .ok (.invokestatic i, 3)) (hl : Cond.methodLink (mN m).cls i arraycopyName ∈ wsAll)
    (hc : (st0.map fun v => v.category).sum ≤ 8 ∧ a0 ≠ 0 ∧ a0 ≤ h.1 ∧ a1 ≠ 0 ∧ a1 ≤ h.1 ∧ (hS h a0).1 = 0 ∧ (hS h a1).1 = 0 ∧ ¬ sp < 0 ∧ ¬ dp < 0 ∧ ¬ n < 0 ∧ sp.toNatClampNeg + n.toNatClampNeg ≤ (hS h a0).2.1 ∧ dp.toNatClampNeg + n.toNatClampNeg ≤ (hS h a1).2.1)
    (k : Rn X m (pc + 3) ls st0 (setG h a1 (va_cpy (hG h a0) (hG h a1) sp.toNatClampNeg dp.toNatClampNeg n.toNatClampNeg))) : Rn X m pc ls (.int n :: .int dp :: .ref a1 :: .int sp :: .ref a0 :: st0) h := by
  obtain ⟨p, l, e, R, s, mi, args, below, meth, c, Q, b, base, L, xs, D, cI, cII⟩ := X
  obtain ⟨hx1, hb, hml, hown, hts, hK, g1, g2, g3, g4, g5, g6, g7, g8, hm, -⟩ := G
  obtain ⟨c1, c2, c3, c4, c5, c6, c7, h1, h2, h3, h4, h5⟩ := hc
  obtain ⟨x0, rfl⟩ := Nat.exists_eq_add_one_of_ne_zero c2
  obtain ⟨x1, rfl⟩ := Nat.exists_eq_add_one_of_ne_zero c4
  have hl0 : x0 < h.1 := c3
  have hl1 : x1 < h.1 := c5
  intro H locs cells slots A w1 w2 w3 w4 w5
  have hg0 := wd_get (b := b) (base := base) (cI := cI) (cII := cII) hl0
  rw [cE_arr c6] at hg0
  have hg1 := wd_get (b := b) (base := base) (cI := cI) (cII := cII) hl1
  rw [cE_arr c7] at hg1
  have e0 : cv b base (.ref (x0 + 1)) = .ref (base + x0) := by show Value.ref (ad b base (x0 + 1)) = _; rw [ad_succ]
  have e1 : cv b base (.ref (x1 + 1)) = .ref (base + x1) := by show Value.ref (ad b base (x1 + 1)) = _; rw [ad_succ]
  rw [List.map_cons, List.map_cons, List.map_cons, List.map_cons, List.map_cons, e0, e1]
  show W p l e R s mi args below meth c H locs cells slots Q (F0 mi pc A (.int n :: .int dp :: .ref (base + x1) :: .int sp :: .ref (base + x0) :: st0.map (cv b base)))
  generalize hf : hG h (x0 + 1) = f at hg0 k
  generalize hg : hG h (x1 + 1) = g at hg1 k
  generalize hn0 : (hS h (x0 + 1)).2.1 = n0 at hg0 h4
  generalize hn1 : (hS h (x1 + 1)).2.1 = n1 at hg1 h5
  have nn : ∀ z : Int32, ¬ z < 0 → z.toInt = (z.toNatClampNeg : Int) := by
    intro z hz
    have hz0 : (0 : Int) ≤ z.toInt := by
      have := Int32.not_lt.mp hz
      simpa using Int32.le_iff_toInt_le.mp this
    show z.toInt = ((z.toInt.toNat : Nat) : Int)
    omega
  have hht := m_ht m hm
  intro T hT X
  have hc0 : H[base + x0]? = some (vp_cell cI (n0, .inl f)) := w1.2.1 x0 _ hg0
  have hc1 : H[base + x1]? = some (vp_cell cI (n1, .inl g)) := w1.2.1 x1 _ hg1
  obtain ⟨-, k0, hk0, cm0, hkk0⟩ := (hK.2 0 _ rfl).1 n0 (fun j => .int (f j))
  obtain ⟨-, k1, hk1, cm1, hkk1⟩ := (hK.2 0 _ rfl).1 n1 (fun j => .int (g j))
  obtain ⟨vm', X', step⟩ := X.arraycopy hx1 hown (hts _ hl) (hts _ sp_acn) (hts _ sp_acs) (hts _ sp_aci) (src := base + x0) (dst := base + x1) (cs := vp_cell cI (n0, .inl f)) (cd := vp_cell cI (n1, .inl g)) (srcPos := sp) (destPos := dp) (n := n) (by rw [hT]; exact hc0) (by rw [hT]; exact hc1)
    (fun _ h => by cases h) (fun _ h => by cases h) (fun h => by cases h) (fun h => by cases h) hk0 hk1 hkk0 hkk1 (by simp [refKind]) h1 h2 h3
    (by rw [nn sp h1, nn n h3]; show ¬ _ > ((arrV cI n0 (fun j => .int (f j))).slots.size : Int); rw [arrV_size]; omega)
    (by rw [nn dp h2, nn n h3]; show ¬ _ > ((arrV cI n1 (fun j => .int (g j))).slots.size : Int); rw [arrV_size]; omega)
    (fun vm₁ _ i hi => by
      have e : (vp_cell cI (n0, .inl f)).slots.getD (sp.toNatClampNeg + i) .null = .int (f (sp.toNatClampNeg + i)) := by
        show (arrV cI n0 (fun j => .int (f j))).slots.getD _ _ = _
        rw [Array.getD_eq_getD_getElem?, arrV_read _ _ (by omega)]
        rfl
      refine ⟨?_, ?_⟩
      · rw [e]
        rfl
      · rw [e]
        exact trivial)
    (g := F0 mi pc A (.int n :: .int dp :: .ref (base + x1) :: .int sp :: .ref (base + x0) :: st0.map (cv b base))) rfl (by rw [hml]; exact w5.1) (rest := st0.map (cv b base)) rfl (by rw [hb]; exact hd) (by omega) (by
      rw [cv_cats]
      show 2 * 0 + _ + (nativeFrameWords "java/lang/System" "arraycopy" 5 + 11) ≤ _
      have h9 : nativeFrameWords "java/lang/System" "arraycopy" 5 = 7 := by decide +kernel
      rw [h9]
      omega)
  have e1 : copied (vp_cell cI (n0, .inl f)) (vp_cell cI (n1, .inl g)) sp dp n = vp_cell cI (n1, .inl (va_cpy f g sp.toNatClampNeg dp.toNatClampNeg n.toNatClampNeg)) := va_copied (fun z => .int z) cI cI f g h4
  rw [e1] at X' step
  have hlt : base + x1 < H.size := (Array.getElem?_eq_some_iff.mp hc1).1
  have hheap : ((T.setVm vm').setCell (base + x1) (vp_cell cI (n1, .inl (va_cpy f g sp.toNatClampNeg dp.toNatClampNeg n.toNatClampNeg)))).heap = H.setIfInBounds (base + x1) (vp_cell cI (n1, .inl (va_cpy f g sp.toNatClampNeg dp.toNatClampNeg n.toNatClampNeg))) := by rw [← hT]; rfl
  have oq : ∀ q : Nat, q ≠ base + x1 → (H.setIfInBounds (base + x1) (vp_cell cI (n1, .inl (va_cpy f g sp.toNatClampNeg dp.toNatClampNeg n.toNatClampNeg))))[q]? = H[q]? := fun q hq => by simp [Array.getElem?_setIfInBounds, Ne.symm hq]
  have hW : Wl b base L xs D cI cII (setG h (x1 + 1) (va_cpy f g sp.toNatClampNeg dp.toNatClampNeg n.toNatClampNeg)) (H.setIfInBounds (base + x1) (vp_cell cI (n1, .inl (va_cpy f g sp.toNatClampNeg dp.toNatClampNeg n.toNatClampNeg)))) := by
    refine Wl_setG w1 hl1 (by simp) ?_
    rw [cE_arr c7, hn1]
    exact w1.2.1.set (wd_D h) hg1 (show (H.setIfInBounds (base + x1) _)[base + x1]? = some _ by simp [Array.getElem?_setIfInBounds, hlt]) oq
  obtain ⟨t, a1, b1⟩ := k _ _ cells slots A hW ⟨by simp; exact w2.1, fun q g1 g2 => by
      rw [oq q (fun e => g2 (by rw [e]; exact (wd_D h).2 x1 _ hg1))]
      exact w2.2.1 q g1 g2, fun q hq => by
      rcases List.mem_append.mp hq with h | h
      · exact w2.2.2 q h
      · obtain ⟨z, -, hz⟩ := List.mem_map.mp h
        rw [← hz]
        exact (wd_D _).2 x1 _ hg1⟩ w3 w4 w5 _ hheap X'
  exact ⟨t, step t a1, b1⟩
theorem s_sta {i : Nat} (G : Gx X m) (IH : Cs X E m) (hd : decode (mB m) pc = .ok (.invokestatic i, 3)) (hh : hSta E m i pc ls st h = some (.inr (pc', ls', st', h'))) (k : Rn X m pc' ls' st' h') : Rn X m pc ls st h := by
  have hm := G.m200
  unfold hSta at hh
  split at hh
  · rename_i y hy
    split at hh
    · rename_i hc
      obtain ⟨hkd, hlen⟩ := hc
      obtain ⟨f1, f2⟩ := mlk_ok hm hy
      refine s_call G IH f2 hh k ?_
      obtain ⟨p, l, e, R, s, mi, args, below, meth, c, Q, b, base, L, xs, D, cI, cII⟩ := X
      intro H locs cells slots A r h1 i1 i2 w1 w2 w5 hf hcat
      have cb := call_b G f2 f1 i1
      have pr := pre_ok (As := (st.take (mP y)).reverse) (y := y) G w1 w2
      obtain ⟨hx1, hb, hml, hown, hts, hK, g1, g2, g3, g4, g5, g6, g7, g8, hm, -⟩ := G
      unfold CT at i2
      refine va_runS (nL := mL m) (n := mP y) (As := (st.take (mP y)).reverse.map (cv b base)) ⟨hx1, hb, hml, hown, hts⟩ i2 ⟨cb, hts _ (stc_in y f2 hkd)⟩ pr rfl ?_ w5.1 take_rev2 ?_ hd hf
      · rw [List.length_map, List.length_reverse]
        exact hlen
      · exact lv_room hcat
    · cases hh
  · rename_i h1 h2
    split at hh
    · split at hh
      · rename_i hc
        cases hh
        obtain ⟨p, l, e, R, s, mi, args, below, meth, c, Q, b, base, L, xs, D, cI, cII⟩ := X
        obtain ⟨hx1, hb, hml, hown, hts, hK, g1, g2, g3, g4, g5, g6, g7, g8, hm, -⟩ := G
        have hht := m_ht m hm
        intro H locs cells slots A w1 w2 w3 w4 w5
        exact va_mmax (meth := meth) hx1 hb (hml.trans w5.1.symm) hown (hts _ (spk_ok hm h2)) (hts _ sp_maxs) (hts _ sp_mi) (hts _ sp_maxc) (by omega) (by rw [cv_cats]; omega) (by omega) (by omega) hd (k H locs cells slots A w1 w2 w3 w4 w5)
      · cases hh
    · cases hh
  · rename_i h1 h2
    split at hh
    · split at hh
      · rename_i hc
        cases hh
        obtain ⟨p, l, e, R, s, mi, args, below, meth, c, Q, b, base, L, xs, D, cI, cII⟩ := X
        obtain ⟨hx1, hb, hml, hown, hts, hK, g1, g2, g3, g4, g5, g6, g7, g8, hm, -⟩ := G
        have hht := m_ht m hm
        intro H locs cells slots A w1 w2 w3 w4 w5
        exact va_mmin (meth := meth) hx1 hb (hml.trans w5.1.symm) hown (hts _ (spk_ok hm h2)) (hts _ sp_mins) (hts _ sp_mi) (hts _ sp_minc) (by omega) (by rw [cv_cats]; omega) (by omega) (by omega) hd (k H locs cells slots A w1 w2 w3 w4 w5)
      · cases hh
    · cases hh
  · rename_i h1 h2
    split at hh
    · split at hh
      · rename_i hc
        cases hh
        exact s_copy G hd (spk_ok hm h2) hc k
      · cases hh
    · cases hh
  · cases hh
theorem s_spe {i : Nat} (G : Gx X m) (IH : Cs X E m) (hd : decode (mB m) pc = .ok (.invokespecial i, 3)) (hh : hSpe E m i pc ls st h = some (.inr (pc', ls', st', h'))) (k : Rn X m pc' ls' st' h') : Rn X m pc ls st h := by
  have hm := G.m200
  unfold hSpe at hh
  split at hh
  · rename_i y hy
    split at hh
    · rename_i hkd
      split at hh
      · rename_i a rest hdr
        split at hh
        · rename_i hlen
          obtain ⟨f1, f2⟩ := mlk_ok hm hy
          refine s_call G IH f2 hh k ?_
          obtain ⟨p, l, e, R, s, mi, args, below, meth, c, Q, b, base, L, xs, D, cI, cII⟩ := X
          intro H locs cells slots A r h1 i1 i2 w1 w2 w5 hf hcat
          have cb := call_b G f2 f1 i1
          have pr := pre_ok (As := .ref a :: (st.take (mP y)).reverse) (y := y) G w1 w2
          obtain ⟨hx1, hb, hml, hown, hts, hK, g1, g2, g3, g4, g5, g6, g7, g8, hm, -⟩ := G
          have e0 : cv b base (.ref a) = .ref (ad b base a) := rfl
          unfold CT at i2
          rw [List.map_cons, e0] at pr i2
          have hrn := m_retI y (by omega) hkd
          rw [hrn] at cb
          refine va_runI (nL := mL m) (n := mP y) (As := (st.take (mP y)).reverse.map (cv b base)) (b := ad b base a) ⟨hx1, hb, hml, hown, hts⟩ i2 ⟨cb, m_init y (by omega) hkd, hts _ (ins_in y f2 (by rw [hkd]; decide))⟩ pr rfl ?_ w5.1 ?_ ?_ hd hf
          · rw [List.length_map, List.length_reverse]
            exact hlen
          · show st.map (cv b base) = _
            rw [take_rev (As := []) hdr, e0]
          · exact lv_room hcat
        · cases hh
      · cases hh
    · cases hh
  · rename_i y host hn hy
    split at hh
    · rename_i hkd
      split at hh
      · rename_i a rest hdr
        split at hh
        · rename_i hlen
          obtain ⟨f1, f2⟩ := nsk_ok hm hy
          refine s_call G IH f2 hh k ?_
          obtain ⟨p, l, e, R, s, mi, args, below, meth, c, Q, b, base, L, xs, D, cI, cII⟩ := X
          intro H locs cells slots A r h1 i1 i2 w1 w2 w5 hf hcat
          have pr := pre_ok (As := .ref a :: (st.take (mP y)).reverse) (y := y) G w1 w2
          obtain ⟨hx1, hb, hml, hown, hts, hK, g1, g2, g3, g4, g5, g6, g7, g8, hm, hN, -⟩ := G
          have e0 : cv b base (.ref a) = .ref (ad b base a) := rfl
          unfold CT at i2
          rw [List.map_cons, e0] at pr i2
          have hrn := m_retI y (by omega) hkd
          have hL := m_maxL y (by omega)
          have cb : va_CN R s args (mN m).cls i (mN y) host (mB y) (mL y) (mR y) (wsm y) (rm y) (mc y) (ms y) (mP y) :=
            va_cnB (mP y) hts (good_all y f2) rfl rfl rfl (hN.1 _ f1) (hts _ (ini_in y (by omega))) (m_cls y (by omega)) ⟨by show ht y + 1 ≤ R.frames; omega, by show 8 + (mL y + 11) + 30 * ht y ≤ R.locals; omega⟩
          rw [hrn] at cb
          refine va_runIN (nL := mL m) (n := mP y) (As := (st.take (mP y)).reverse.map (cv b base)) (b := ad b base a) ⟨hx1, hb, hml, hown, hts⟩ i2 ⟨cb, m_init y (by omega) hkd, hts _ (ins_in y f2 (by rw [hkd]; decide))⟩ pr rfl ?_ w5.1 ?_ ?_ hd hf
          · rw [List.length_map, List.length_reverse]
            exact hlen
          · show st.map (cv b base) = _
            rw [take_rev (As := []) hdr, e0]
          · exact lv_room hcat
        · cases hh
      · cases hh
    · cases hh
  · rename_i h1 h2 h3
    split at hh
    · rename_i a rest
      split at hh
      · rename_i hc
        cases hh
        obtain ⟨p, l, e, R, s, mi, args, below, meth, c, Q, b, base, L, xs, D, cI, cII⟩ := X
        obtain ⟨hx1, hb, hml, hown, hts, hK, g1, g2, g3, g4, g5, g6, g7, g8, hm, -⟩ := G
        have hht := m_ht m hm
        intro H locs cells slots A w1 w2 w3 w4 w5
        refine W.objInit (meth := meth) (a := ad b base a) hx1 hb hown (hts _ (spk_ok hm h3)) (hts _ sp_w0) (hts _ sp_w1) rfl (by rw [hml]; exact w5.1) rfl hd (by omega) ?_ (k H locs cells slots A w1 w2 w3 w4 w5)
        show 2 * 0 + ((List.map (cv b base) _).map fun v => v.category).sum + 12 ≤ R.locals
        rw [cv_cats]
        omega
      · cases hh
    · cases hh
  · cases hh
end SNM
end
section
/-! THE SMALL MACHINE IS SOUND: a whole run, a whole method -/
def MnaOk : Prop := ∀ (X : Cx) (m pc pc' i : Nat) (ls st ls' st' : List Value) (h h' : Hp), Gx X m → decode (mB m) pc = .ok (.multianewarray i 2, 4) → hMna m i pc ls st h = some (.inr (pc', ls', st', h')) → Rn X m pc' ls' st' h' → Rn X m pc ls st h
def RetK (X : Cx) (m : Nat) (r : Option Int32) (h : Hp) : Prop := match X with
  | (p, l, e, R, s, mi, args, below, meth, c, Q, b, base, L, xs, D, cI, cII) =>
    ∀ (H : Heap) (locs : List Loc) (cells slots pc : Nat) (A : Array Slot), Wl b base L xs D cI cII h H → va_S (Ow base) s.heap H locs → cells ≤ mc m → slots ≤ ms m →
      ((∃ v, r = some v ∧ decode (mB m) pc = .ok (.ireturn, 1) ∧ (mR m = some .int ∨ mR m = some .boolean ∧ (v = 0 ∨ v = 1))) ∨ (r = none ∧ decode (mB m) pc = .ok (.return_, 1) ∧ mR m = none)) →
      W p l e R s mi args below meth c H locs cells slots Q (F0 mi pc A ((r.map Value.int).toList))
section SNR
variable {X : Cx} {E : Nat → List Value → Hp → Option Rs} {m pc pc' : Nat} {ls st ls' st' : List Value} {h h' : Hp}
theorem gd_some {len k : Nat} {x : So} {y : Rs ⊕ Cf} (hs : gd len k x = some y) : len = k ∧ x = some y := by
  unfold gd at hs
  split at hs
  · exact ⟨by assumption, hs⟩
  · cases hs
theorem s_step (HM : MnaOk) (G : Gx X m) (IH : Cs X E m) (hs : stp E m (pc, ls, st, h) = some (.inr (pc', ls', st', h'))) (k : Rn X m pc' ls' st' h') : Rn X m pc ls st h := by
  unfold stp at hs
  cases hd : decode (mB m) pc with
  | error q => simp only [hd] at hs; cases hs
  | ok x =>
    obtain ⟨ins, len⟩ := x
    simp only [hd] at hs
    cases ins with
    | iconst n => obtain ⟨rfl, hs⟩ := gd_some hs; exact s_iconst G hd hs k
    | bipush n => obtain ⟨rfl, hs⟩ := gd_some hs; exact s_bipush G hd hs k
    | sipush n => obtain ⟨rfl, hs⟩ := gd_some hs; exact s_sipush G hd hs k
    | ldc n => obtain ⟨rfl, hs⟩ := gd_some hs; exact s_ldc G hd hs k
    | ldc_w n => obtain ⟨rfl, hs⟩ := gd_some hs; exact s_ldcw G hd hs k
    | lconst n => obtain ⟨rfl, hs⟩ := gd_some hs; exact s_lconst G hd hs k
    | ldc2_w n => obtain ⟨rfl, hs⟩ := gd_some hs; exact s_ldc2 G hd hs k
    | iload_n n => obtain ⟨rfl, hs⟩ := gd_some hs; exact s_iload k hs (fun x => by obtain ⟨p, l, e, R, s, mi, args, below, meth, c, Q, b, base, L, xs, D, cI, cII⟩ := X; intro H locs cells slots A rest hl q; exact lv_iload_n G.1 G.2.1 hd rfl hl q)
    | iload n => obtain ⟨rfl, hs⟩ := gd_some hs; exact s_iload k hs (fun x => by obtain ⟨p, l, e, R, s, mi, args, below, meth, c, Q, b, base, L, xs, D, cI, cII⟩ := X; intro H locs cells slots A rest hl q; exact lv_iload G.1 G.2.1 hd hl q)
    | lload_n n => obtain ⟨rfl, hs⟩ := gd_some hs; exact s_lload k hs (fun x => by obtain ⟨p, l, e, R, s, mi, args, below, meth, c, Q, b, base, L, xs, D, cI, cII⟩ := X; intro H locs cells slots A rest hl q; exact lv_lload_n G.1 G.2.1 hd rfl hl q)
    | lload n => obtain ⟨rfl, hs⟩ := gd_some hs; exact s_lload k hs (fun x => by obtain ⟨p, l, e, R, s, mi, args, below, meth, c, Q, b, base, L, xs, D, cI, cII⟩ := X; intro H locs cells slots A rest hl q; exact lv_lload G.1 G.2.1 hd hl q)
    | aload_n n => obtain ⟨rfl, hs⟩ := gd_some hs; exact s_aload k hs (fun x => by obtain ⟨p, l, e, R, s, mi, args, below, meth, c, Q, b, base, L, xs, D, cI, cII⟩ := X; intro H locs cells slots A rest hl q; exact lv_aload_n G.1 G.2.1 hd rfl hl q)
    | aload n => obtain ⟨rfl, hs⟩ := gd_some hs; exact s_aload k hs (fun x => by obtain ⟨p, l, e, R, s, mi, args, below, meth, c, Q, b, base, L, xs, D, cI, cII⟩ := X; intro H locs cells slots A rest hl q; exact lv_aload G.1 G.2.1 hd hl q)
    | istore_n n => obtain ⟨rfl, hs⟩ := gd_some hs; exact s_istore k hs (fun x => by obtain ⟨p, l, e, R, s, mi, args, below, meth, c, Q, b, base, L, xs, D, cI, cII⟩ := X; intro H locs cells slots A rest nL lv hl hn q; exact lv_istore_n G.1 G.2.1 hd rfl hl hn rfl q)
    | istore n => obtain ⟨rfl, hs⟩ := gd_some hs; exact s_istore k hs (fun x => by obtain ⟨p, l, e, R, s, mi, args, below, meth, c, Q, b, base, L, xs, D, cI, cII⟩ := X; intro H locs cells slots A rest nL lv hl hn q; exact lv_istore G.1 G.2.1 hd hl hn rfl q)
    | astore_n n => obtain ⟨rfl, hs⟩ := gd_some hs; exact s_astore k hs (fun x => by obtain ⟨p, l, e, R, s, mi, args, below, meth, c, Q, b, base, L, xs, D, cI, cII⟩ := X; intro H locs cells slots A rest nL lv hl hn q; exact lv_astore_n G.1 G.2.1 hd rfl hl hn rfl q)
    | astore n => obtain ⟨rfl, hs⟩ := gd_some hs; exact s_astore k hs (fun x => by obtain ⟨p, l, e, R, s, mi, args, below, meth, c, Q, b, base, L, xs, D, cI, cII⟩ := X; intro H locs cells slots A rest nL lv hl hn q; exact lv_astore G.1 G.2.1 hd hl hn rfl q)
    | iinc i n => obtain ⟨rfl, hs⟩ := gd_some hs; exact s_iinc G hd hs k
    | iadd => obtain ⟨rfl, hs⟩ := gd_some hs; exact s_bin k hs (fun x y => by obtain ⟨p, l, e, R, s, mi, args, below, meth, c, Q, b, base, L, xs, D, cI, cII⟩ := X; intro H locs cells slots A rest q; exact lv_iadd G.1 G.2.1 hd q)
    | isub => obtain ⟨rfl, hs⟩ := gd_some hs; exact s_bin k hs (fun x y => by obtain ⟨p, l, e, R, s, mi, args, below, meth, c, Q, b, base, L, xs, D, cI, cII⟩ := X; intro H locs cells slots A rest q; exact lv_isub G.1 G.2.1 hd q)
    | imul => obtain ⟨rfl, hs⟩ := gd_some hs; exact s_bin k hs (fun x y => by obtain ⟨p, l, e, R, s, mi, args, below, meth, c, Q, b, base, L, xs, D, cI, cII⟩ := X; intro H locs cells slots A rest q; exact lv_imul G.1 G.2.1 hd q)
    | iand => obtain ⟨rfl, hs⟩ := gd_some hs; exact s_bin k hs (fun x y => by obtain ⟨p, l, e, R, s, mi, args, below, meth, c, Q, b, base, L, xs, D, cI, cII⟩ := X; intro H locs cells slots A rest q; exact lv_iand G.1 G.2.1 hd q)
    | ior => obtain ⟨rfl, hs⟩ := gd_some hs; exact s_bin k hs (fun x y => by obtain ⟨p, l, e, R, s, mi, args, below, meth, c, Q, b, base, L, xs, D, cI, cII⟩ := X; intro H locs cells slots A rest q; exact lv_ior G.1 G.2.1 hd q)
    | ixor => obtain ⟨rfl, hs⟩ := gd_some hs; exact s_bin k hs (fun x y => by obtain ⟨p, l, e, R, s, mi, args, below, meth, c, Q, b, base, L, xs, D, cI, cII⟩ := X; intro H locs cells slots A rest q; exact lv_ixor G.1 G.2.1 hd q)
    | ishl => obtain ⟨rfl, hs⟩ := gd_some hs; exact s_bin k hs (fun x y => by obtain ⟨p, l, e, R, s, mi, args, below, meth, c, Q, b, base, L, xs, D, cI, cII⟩ := X; intro H locs cells slots A rest q; exact lv_ishl G.1 G.2.1 hd q)
    | ishr => obtain ⟨rfl, hs⟩ := gd_some hs; exact s_bin k hs (fun x y => by obtain ⟨p, l, e, R, s, mi, args, below, meth, c, Q, b, base, L, xs, D, cI, cII⟩ := X; intro H locs cells slots A rest q; exact lv_ishr G.1 G.2.1 hd q)
    | idiv => obtain ⟨rfl, hs⟩ := gd_some hs; exact s_div k hs (fun x y hy => by obtain ⟨p, l, e, R, s, mi, args, below, meth, c, Q, b, base, L, xs, D, cI, cII⟩ := X; intro H locs cells slots A rest q; exact lv_idiv G.1 G.2.1 hd hy q)
    | irem => obtain ⟨rfl, hs⟩ := gd_some hs; exact s_div k hs (fun x y hy => by obtain ⟨p, l, e, R, s, mi, args, below, meth, c, Q, b, base, L, xs, D, cI, cII⟩ := X; intro H locs cells slots A rest q; exact lv_irem G.1 G.2.1 hd hy q)
    | ladd => obtain ⟨rfl, hs⟩ := gd_some hs; exact s_binL k hs (fun x y => by obtain ⟨p, l, e, R, s, mi, args, below, meth, c, Q, b, base, L, xs, D, cI, cII⟩ := X; intro H locs cells slots A rest q; exact lv_ladd G.1 G.2.1 hd q)
    | lmul => obtain ⟨rfl, hs⟩ := gd_some hs; exact s_binL k hs (fun x y => by obtain ⟨p, l, e, R, s, mi, args, below, meth, c, Q, b, base, L, xs, D, cI, cII⟩ := X; intro H locs cells slots A rest q; exact lv_lmul G.1 G.2.1 hd q)
    | lrem => obtain ⟨rfl, hs⟩ := gd_some hs; exact s_lrem G hd hs k
    | lcmp => obtain ⟨rfl, hs⟩ := gd_some hs; exact s_lcmp G hd hs k
    | i2l => obtain ⟨rfl, hs⟩ := gd_some hs; exact s_i2l G hd hs k
    | l2i => obtain ⟨rfl, hs⟩ := gd_some hs; exact s_l2i G hd hs k
    | dup => obtain ⟨rfl, hs⟩ := gd_some hs; exact s_dup G hd hs k
    | dup2 => obtain ⟨rfl, hs⟩ := gd_some hs; exact s_dup2 G hd hs k
    | pop => obtain ⟨rfl, hs⟩ := gd_some hs; exact s_pop G hd hs k
    | ifCond op off => obtain ⟨rfl, hs⟩ := gd_some hs; exact s_if G hd hs k
    | if_icmp op off => obtain ⟨rfl, hs⟩ := gd_some hs; exact s_ic G hd hs k
    | goto off => obtain ⟨rfl, hs⟩ := gd_some hs; exact s_goto G hd hs k
    | tableswitch d lo hi offs => exact s_sw G hd hs k
    | getfield i => obtain ⟨rfl, hs⟩ := gd_some hs; exact s_get G hd hs k
    | putfield i => obtain ⟨rfl, hs⟩ := gd_some hs; exact s_put G hd hs k
    | iaload => obtain ⟨rfl, hs⟩ := gd_some hs; exact s_ial G hd hs k
    | iastore => obtain ⟨rfl, hs⟩ := gd_some hs; exact s_ias G hd hs k
    | aaload => obtain ⟨rfl, hs⟩ := gd_some hs; exact s_aal G hd hs k
    | arraylength => obtain ⟨rfl, hs⟩ := gd_some hs; exact s_len G hd hs k
    | newarray t =>
      have hs : (if t = .int then gd len 2 (hNwa pc ls st h) else none) = some (.inr (pc', ls', st', h')) := hs
      split at hs
      · rename_i ht; subst ht; obtain ⟨rfl, hs⟩ := gd_some hs; exact s_nwa G hd hs k
      · cases hs
    | multianewarray i d =>
      have hs : (if d = 2 then gd len 4 (hMna m i pc ls st h) else none) = some (.inr (pc', ls', st', h')) := hs
      split at hs
      · rename_i ht; subst ht; obtain ⟨rfl, hs⟩ := gd_some hs; exact HM X m pc pc' i ls st ls' st' h h' G hd hs k
      · cases hs
    | new i => obtain ⟨rfl, hs⟩ := gd_some hs; exact s_new G hd hs k
    | invokevirtual i => obtain ⟨rfl, hs⟩ := gd_some hs; exact s_vir G IH hd hs k
    | invokestatic i => obtain ⟨rfl, hs⟩ := gd_some hs; exact s_sta G IH hd hs k
    | invokespecial i => obtain ⟨rfl, hs⟩ := gd_some hs; exact s_spe G IH hd hs k
    | ireturn =>
      obtain ⟨rfl, hs⟩ := gd_some hs
      have hs : hRetI m st h = some (.inr (pc', ls', st', h')) := hs
      unfold hRetI at hs
      (repeat' split at hs) <;> cases hs
    | return_ =>
      obtain ⟨rfl, hs⟩ := gd_some hs
      have hs : hRetV m st h = some (.inr (pc', ls', st', h')) := hs
      unfold hRetV at hs
      (repeat' split at hs) <;> cases hs
    | _ => cases hs
set_option maxHeartbeats 4000000 in
theorem stI_inl {ins : Instr} {len : Nat} {r : Rs} (hs : stI E m pc ls st h ins len = some (.inl r)) : (ins = .ireturn ∧ len = 1 ∧ hRetI m st h = some (.inl r)) ∨ (ins = .return_ ∧ len = 1 ∧ hRetV m st h = some (.inl r)) := by
  cases ins with
  | ireturn => obtain ⟨rfl, hs⟩ := gd_some hs; exact Or.inl ⟨rfl, rfl, hs⟩
  | return_ => obtain ⟨rfl, hs⟩ := gd_some hs; exact Or.inr ⟨rfl, rfl, hs⟩
  | _ =>
    exfalso
    revert hs
    simp only [stI, gd, hK, hKl, hIld, hLld, hAld, hIst, hAst, hInc, hBin, hDiv, hBinL, hRemL, hCmpL, hI2l, hL2i, hDup, hDup2, hPop, hBr, hIf, hIc, hGo, hSw, hGet, hPut, hIal, hIas, hAal, hLen, hNwa, hMna, hNew, hCall, hVir, hSta, hSpe, nx]
    first
      | (intro hs; cases hs; done)
      | ((repeat' split) <;> intro hs <;> cases hs)
end SNR
end
section
/-! THE SMALL MACHINE IS SOUND: whole methods, and the law's start -/
theorem run_ok {X : Cx} {E : Nat → List Value → Hp → Option Rs} {m : Nat} (HM : MnaOk) (G : Gx X m) (IH : Cs X E m) {r : Option Int32} {h' : Hp} (hr : RetK X m r h') :
    ∀ (n pc : Nat) (ls st : List Value) (h : Hp), rnN E m n (pc, ls, st, h) = some (r, h') → Rn X m pc ls st h := by
  intro n
  induction n with
  | zero => intro pc ls st h hn; cases hn
  | succ n ih =>
    intro pc ls st h hn
    rw [rnN] at hn
    cases hs : stp E m (pc, ls, st, h) with
    | none => rw [hs] at hn; cases hn
    | some x =>
      rw [hs] at hn
      cases x with
      | inr c' =>
        obtain ⟨pc', ls', st', h1⟩ := c'
        exact s_step HM G IH hs (ih pc' ls' st' h1 hn)
      | inl y =>
        have hn : some y = some (r, h') := hn
        cases hn
        have hs' := hs
        unfold stp at hs'
        cases hd : decode (mB m) pc with
        | error q => simp only [hd] at hs'; cases hs'
        | ok x =>
          obtain ⟨ins, len⟩ := x
          simp only [hd] at hs'
          rcases stI_inl hs' with ⟨rfl, rfl, h2⟩ | ⟨rfl, rfl, h2⟩
          · unfold hRetI at h2
            split at h2
            · rename_i v
              split at h2
              · rename_i hv
                cases h2
                obtain ⟨p, l, e, R, s, mi, args, below, meth, c, Q, b, base, L, xs, D, cI, cII⟩ := X
                intro H locs cells slots A w1 w2 w3 w4 w5
                exact hr H locs cells slots pc A w1 w2 (by omega) (by omega) (Or.inl ⟨v, rfl, hd, hv⟩)
              · cases h2
            · cases h2
          · unfold hRetV at h2
            split at h2
            · split at h2
              · rename_i hv
                cases h2
                obtain ⟨p, l, e, R, s, mi, args, below, meth, c, Q, b, base, L, xs, D, cI, cII⟩ := X
                intro H locs cells slots A w1 w2 w3 w4 w5
                exact hr H locs cells slots pc A w1 w2 (by omega) (by omega) (Or.inr ⟨rfl, hd, hv⟩)
              · cases h2
            · cases h2
theorem flt_slots (b base : Nat) : ∀ (as : List Value) (i : Nat) (v : Value), (flt as)[i]? = some v → (∀ r, v ≠ .retAddr r) → (lg_sl (as.map (cv b base)))[i]? = some (.val (cv b base v))
  | [], i, v, h, _ => by simp [flt] at h
  | a :: as, i, v, h, hr => by
    have ih := flt_slots b base as
    have e1 : flt (a :: as) = (if a.category = 2 then [a, .retAddr 0] else [a]) ++ flt as := rfl
    have e2 : lg_sl ((a :: as).map (cv b base)) = (if a.category = 2 then [.val (cv b base a), .second] else [.val (cv b base a)]) ++ lg_sl (as.map (cv b base)) := by
      unfold lg_sl
      rw [List.map_cons, List.flatMap_cons, cv_cat]
    rw [e1] at h
    rw [e2]
    by_cases hc : a.category = 2
    · rw [if_pos hc] at h ⊢
      match i, h with
      | 0, h => simp at h; subst h; rfl
      | 1, h => simp at h; exact absurd h.symm (hr 0)
      | i + 2, h => exact ih i v h hr
    · rw [if_neg hc] at h ⊢
      match i, h with
      | 0, h => simp at h; subst h; rfl
      | i + 1, h => exact ih i v h hr
theorem flt_len (b base : Nat) : ∀ (as : List Value), (lg_sl (as.map (cv b base))).length = (flt as).length
  | [] => rfl
  | a :: as => by
    have ih := flt_len b base as
    have e1 : flt (a :: as) = (if a.category = 2 then [a, .retAddr 0] else [a]) ++ flt as := rfl
    have e2 : lg_sl ((a :: as).map (cv b base)) = (if a.category = 2 then [.val (cv b base a), .second] else [.val (cv b base a)]) ++ lg_sl (as.map (cv b base)) := by
      unfold lg_sl
      rw [List.map_cons, List.flatMap_cons, cv_cat]
    rw [e1, e2, List.length_append, List.length_append, ih]
    by_cases hc : a.category = 2
    · rw [if_pos hc, if_pos hc]; rfl
    · rw [if_neg hc, if_neg hc]; rfl
theorem flt_cat : ∀ (as : List Value), (∀ v ∈ as, v.category = 1) → ∀ v ∈ flt as, v.category = 1
  | [], _, v, h => by simp [flt] at h
  | a :: as, ha, v, h => by
    have e1 : flt (a :: as) = (if a.category = 2 then [a, .retAddr 0] else [a]) ++ flt as := rfl
    have hc : ¬ a.category = 2 := by rw [ha a List.mem_cons_self]; decide
    rw [e1, if_neg hc] at h
    rcases List.mem_append.mp h with h | h
    · rw [List.mem_singleton.mp h]; exact ha a List.mem_cons_self
    · exact flt_cat as (fun v hv => ha v (List.mem_cons_of_mem _ hv)) v h
theorem ent_LH (b base m : Nat) (as : List Value) (hl : (flt as).length ≤ mL m) (hn : noL m = true → ∀ v ∈ as, v.category = 1) :
    LH b base ((lg_sl (as.map (cv b base)) ++ List.replicate (mL m - (lg_sl (as.map (cv b base))).length) Slot.unset).toArray) m (ent as (mL m)) := by
  have h0 := lv_entry (as.map (cv b base)) (n := mL m) (by rw [flt_len]; exact hl)
  refine ⟨h0.1, h0.2.1, ?_, fun i v hv hr => ?_, fun hn' v hv => ?_⟩
  · unfold ent
    rw [List.length_append, List.length_replicate]
    omega
  · unfold ent at hv
    by_cases hi : i < (flt as).length
    · rw [List.getElem?_append_left hi] at hv
      have h1 := flt_slots b base as i v hv hr
      rw [List.getElem?_toArray, List.getElem?_append_left (by rw [flt_len]; exact hi)]
      exact h1
    · rw [List.getElem?_append_right (by omega), List.getElem?_replicate] at hv
      split at hv
      · cases hv; exact absurd rfl (hr 0)
      · cases hv
  · unfold ent at hv
    rcases List.mem_append.mp hv with h | h
    · exact flt_cat as (hn hn') v h
    · rw [(List.mem_replicate.mp h).2]; rfl
theorem den_ok (HM : MnaOk) (l : Launch) (b base L : Nat) (xs : Nat → Int32) (D : va_G) (cI cII : ClassId) :
    ∀ (d y : Nat), ht y < d → y < 199 → ∀ (As : List Value) (h : Hp) (r : Option Int32) (h' : Hp), h.2.1 = mc y → h.2.2.1 = ms y → Den y As h = some (r, h') → CT l b base L xs D cI cII y As h r h' := by
  intro d
  induction d with
  | zero => intro y hy; exact absurd hy (by omega)
  | succ d ih =>
    intro y hd hy As h r h' hbc hbs hden
    rw [Den_eq] at hden
    split at hden
    · rename_i hc
      obtain ⟨n, hn⟩ := rn_iff.mp hden
      refine Met.ofW (ws' := wsAll) (cc := mB y) (maxL := mL y) (ret := mR y) (m_plain y (by omega)) rfl ?_
      intro p e s m args below meth c s₁ B hml hv
      obtain ⟨rfl, w1, hK, hX, hbb, hN⟩ := hv
      have hts : ∀ w ∈ wsAll, w.before (As.map (cv b base)).toArray s = true := fun w hw => atoms_spec (ws := wsm y) B.pre w (List.mem_cons_of_mem _ hw)
      have hown : s.vm.findClass (mN y).cls = some m.cls := findClass_of_methodNamed B.named
      have hnm : meth.name = (mN y).name := (name_of_methodNamed B.named B.method).1
      have hbase : base ≤ s.heap.size := by rw [w1.1]; omega
      have hlocks := B.notSynchronized
      have G : Gx (p, l, e, rm y, s, m, (As.map (cv b base)).toArray, below, meth, c, MQ below (fun _ => Qw b base L xs D cI cII r h') (As.map (cv b base)).toArray s (mc y) (ms y) (Ow base), b, base, L, xs, D, cI, cII) y :=
        ⟨B.exec, B.bytes, hml, hown, hts, hK, hbase, hbb, hX, fun hk => hnm.trans (m_init y (by omega) hk), Nat.le_refl _, Nat.le_refl _, Nat.le_refl _, Nat.le_refl _, by omega, hN, hlocks⟩
      have IH : Cs (p, l, e, rm y, s, m, (As.map (cv b base)).toArray, below, meth, c, MQ below (fun _ => Qw b base L xs D cI cII r h') (As.map (cv b base)).toArray s (mc y) (ms y) (Ow base), b, base, L, xs, D, cI, cII) (EE y) y := by
        intro z As' h1 r1 h2 hz hb1 hb2 hE
        unfold EE at hE
        split at hE
        · rename_i hlt
          exact ⟨hlt, ih z (by omega) hz As' h1 r1 h2 hb1 hb2 hE⟩
        · cases hE
      have RK : RetK (p, l, e, rm y, s, m, (As.map (cv b base)).toArray, below, meth, c, MQ below (fun _ => Qw b base L xs D cI cII r h') (As.map (cv b base)).toArray s (mc y) (ms y) (Ow base), b, base, L, xs, D, cI, cII) y r h' := by
        intro H locs cells slots pc A w1 w2 w3 w4 w5
        have hq : ∀ t : State, t.heap = H → s.WarmedH t.vm → Qw b base L xs D cI cII r h' s (.returned (r.map Value.int)) t := fun t ht _ => ⟨rfl, by rw [ht]; exact w1, w2.F ht⟩
        rcases w5 with ⟨v, rfl, hdec, hret⟩ | ⟨rfl, hdec, hret⟩
        · rcases hret with hret | ⟨hret, hv⟩
          · exact W.widen w3 w4 (W.iret (v := v) B.exec B.bytes (B.returns.trans hret) hq w2.2.2 hdec hlocks)
          · refine W.widen w3 w4 (W.zret (v := v) (ty := .boolean) B.exec B.bytes (B.returns.trans hret) ?_ hq w2.2.2 hdec hlocks)
            rcases hv with rfl | rfl <;> decide
        · exact W.widen w3 w4 (W.vret B.exec B.bytes (B.returns.trans hret) hq w2.2.2 hdec hlocks)
      have k := run_ok HM G IH RK n 0 (ent As (mL y)) [] h hn
      have k2 := k s.heap [] 0 0 _ w1 va_S.rf (by omega) (by omega) (ent_LH b base y As hc.1 hc.2)
      rw [lg_entry_eq]
      exact k2
    · cases hden
end
section
/-! THE LAW'S START: what the small machine says of the law is what the machine does -/
def R_law : String := "StrongCellsLaw"
def lw_P (b : Addr) (xs : List Int32) (args : Array Value) (s : State) : Prop := args = #[.ref b] ∧ s.IntsAt b xs ∧ xs.length ≤ 3072 ∧ (Jvm.Cond.and given_1 narrow_1).before args s = true
def lw_Q (_ : Array Value) (s : State) (o : Outcome) (t : State) : Prop := o = .returned (some (.int 1)) ∧ Framed s o t [] 600000 7302250
def lw_Z (below : List Frame) (a : Array Value) (s : State) : State → Prop := fun t => ∃ o, t.status = .running ∧ Ended t below o ∧ lw_Q a s o t
/-- the law's own end, with 1 on the stack, nothing written that was there before, its room as the claim has it -/
theorem lw_ret {p : Program} {l : Launch} {e : Env} {s : State} {m : MethodId} {below : List Frame} {meth : Method} {c : Code} {b : Nat} (hx : p.tables.exec = Jvm.exec) (hb : c.code = code) (hr : meth.sig.returnType = ret) (hlocks : meth.locks = false) {pc : Nat} {H : Heap} {ls : Array Slot} (hdg : decode code pc = .ok (.ireturn, 1)) : W p l e room_1 s m #[Value.ref b] below meth c H [] 600000 7302250 (lw_Z below #[Value.ref b] s) (F0 m pc ls [.int 1]) := by
  intro T hT X
  obtain ⟨fs, hret, hrun, hended, hW, hframe⟩ := X.leave (v := some (.int 1)) (hlocks := hlocks) (fun h => by rw [hr] at h; cases h)
  have hmeth' : T.vm.method? m = some meth := X.method'
  refine ⟨T.setFrames fs, ?_, .returned (some (.int 1)), hrun, hended, rfl, ⟨_, rfl⟩, hW, hframe⟩
  jvm_step X.here [X.here.top, hx, hb, hdg, hmeth', hr, ret, narrow_b1]
  (try refine ⟨rfl, ?_⟩); (try refine ⟨rfl, ?_⟩)
  first | (intro acts; rw [hret _ acts rfl rfl rfl]) | rw [hret _ _ rfl rfl rfl]
  exact Steps.refl _
/-- what holds at the law's entry: the machine, the code, the tables' words (any of lw_tbl by 'hts w (by decide +kernel)'), the script of L ints xs at the cell b, what the Statement gives of the start (any of its parts by flat_of_before) -/
def lw_At (p : Program) (s : State) (m : MethodId) (meth : Method) (c : Code) (b L : Nat) (xs : Nat → Int32) : Prop :=
  p.tables.exec = Jvm.exec ∧ c.code = code ∧ meth.sig.returnType = ret ∧ c.maxLocals = 4 ∧ s.vm.findClass R_law = some m.cls ∧ (∀ w ∈ lw_tbl, w.before #[Value.ref b] s = true) ∧ va_X b L xs s s.heap ∧ b < s.heap.size ∧ meth.locks = false ∧ (Jvm.Cond.and given_1 narrow_1).before #[Value.ref b] s = true
/-- the small machine's memory at the law's start: the script alone -/
def H00 (L : Nat) (xs : Nat → Int32) : Hp := (0, mc 199, ms 199, fun _ => (0, L, fun _ => none), fun _ => xs)
theorem law_start (HM : MnaOk) {p : Program} {e : Env} {s : State} {m : MethodId} {below : List Frame} {meth : Method} {c : Code} (l : Launch) {b L : Nat} {xs : Nat → Int32} (C0 : lw_At p s m meth c b L xs) {h' : Hp} (hden : Den 199 [.ref 0] (H00 L xs) = some (some 1, h')) :
    W p l e room_1 s m #[Value.ref b] below meth c s.heap [] 0 0 (lw_Z below #[Value.ref b] s) (entryFrame m ([Value.ref b] : List Value).toArray 4) := by
  obtain ⟨hx, hb, hr, hml, hown, hts0, hX, hbl, hlocks, hgv⟩ := C0
  have hts : ∀ w ∈ wsAll, w.before #[Value.ref b] s = true := fun w hw => hts0 w (List.mem_filter.mp hw).1
  have hNW : NW s := by
    refine ⟨fun w hw => ?_, hts0 _ sp_arO⟩
    have h1 := hts0 w (nstW_in w hw)
    obtain ⟨e9, -, rfl⟩ := List.mem_map.mp hw
    exact va_Nw.of rfl h1
  obtain ⟨cI, kI, compI, i1, i2, i3⟩ := Cond.arrayClass_spec (hts _ sp_arI)
  obtain ⟨comp, cII, kII, j1, -, j2, j3, j4⟩ := aoa_spec hNW.2
  have hkn : ∀ k, k < 9 → ∃ (cC : ClassId) (iS : Nat → Nat), u_Kn s (cNm k) (TTT k) (cNf k) cC iS := by
    intro k hk
    obtain ⟨e9, he9, h2⟩ := List.any_eq_true.mp ((by decide +kernel : ∀ k, k < 9 → clT.any (fun e => e.2.2.1 == k) = true) k hk)
    simp only [beq_iff_eq] at h2
    have h3 := List.all_eq_true.mp clT_ok e9 he9
    simp only [Bool.and_eq_true, decide_eq_true_eq] at h3
    rw [h2] at h3
    exact u_known (ws := wsAll) hts (lay_in k hk) (hts _ (wsAll_of h3.1.1.2.1 h3.1.1.2.2))
  obtain ⟨dC, dI, hKc⟩ : ∃ (dC : Nat → ClassId) (dI : Nat → Nat → Nat), ∀ k, k < 9 → u_Kn s (cNm k) (TTT k) (cNf k) (dC k) (dI k) := by
    have h9 : ∀ k, ∃ (z : ClassId × (Nat → Nat)), k < 9 → u_Kn s (cNm k) (TTT k) (cNf k) z.1 z.2 := by
      intro k
      by_cases hk : k < 9
      · obtain ⟨a, q, h⟩ := hkn k hk
        exact ⟨(a, q), fun _ => h⟩
      · exact ⟨(0, fun _ => 0), fun h => absurd h hk⟩
    exact ⟨fun k => (Classical.choose (h9 k)).1, fun k => (Classical.choose (h9 k)).2, fun k hk => Classical.choose_spec (h9 k) hk⟩
  have hK : va_K (dC, dI) clss [(cI, .int), (cII, .array .int)] s := by
    refine ⟨fun k q hq => ?_, fun k q hq => ?_⟩
    · have hk : k < 9 := (List.getElem?_eq_some_iff.mp hq).1
      rw [clss_get k hk] at hq
      cases hq
      exact hKc k hk
    · match k, hq with
      | 0, hq => cases hq; exact ⟨fun n z => ⟨fun k h => (by cases h), kI, i2, compI, i3⟩, i1⟩
      | 1, hq => cases hq; exact ⟨fun n z => ⟨fun k h => (by cases h), kII, j2, comp, j3⟩, j4⟩
      | k + 2, hq => cases hq
  rw [Den_eq] at hden
  split at hden
  · rename_i hc
    obtain ⟨n, hn⟩ := rn_iff.mp hden
    have G : Gx (p, l, e, room_1, s, m, #[Value.ref b], below, meth, c, lw_Z below #[Value.ref b] s, b, s.heap.size, L, xs, (dC, dI), cI, cII) 199 :=
      ⟨hx, hb, hml, hown, hts, hK, Nat.le_refl _, hbl, hX, fun hk => absurd hk (by decide), by decide, by decide, by decide, by decide, by decide, hNW, hlocks⟩
    have IH : Cs (p, l, e, room_1, s, m, #[Value.ref b], below, meth, c, lw_Z below #[Value.ref b] s, b, s.heap.size, L, xs, (dC, dI), cI, cII) (EE 199) 199 := by
      intro z As' h1 r1 h2 hz hb1 hb2 hE
      unfold EE at hE
      split at hE
      · rename_i hlt
        exact ⟨hlt, den_ok HM l b s.heap.size L xs (dC, dI) cI cII (ht z + 1) z (by omega) hz As' h1 r1 h2 hb1 hb2 hE⟩
      · cases hE
    have RK : RetK (p, l, e, room_1, s, m, #[Value.ref b], below, meth, c, lw_Z below #[Value.ref b] s, b, s.heap.size, L, xs, (dC, dI), cI, cII) 199 (some 1) h' := by
      intro H locs cells slots pc A w1 w2 w3 w4 w5
      rcases w5 with ⟨v, hv, hdec, -⟩ | ⟨hv, -, -⟩
      · refine va_forget (fun q hq => w2.2.2 q hq) ?_
        refine W.widen (k := 600000) (n := 7302250) (Nat.le_trans w3 (by decide)) (Nat.le_trans w4 (by decide)) ?_
        exact lw_ret hx hb hr hlocks hdec
      · cases hv
    have k := run_ok HM G IH RK n 0 (ent [.ref 0] (mL 199)) [] (H00 L xs) hn
    have hP0 : va_P (dC, dI) clss (wd b s.heap.size cI cII (H00 L xs)) s.heap := fun k q hq => by
      have := (wd_key hq).2
      exact absurd this (Nat.not_lt_zero _)
    have k2 := k s.heap [] 0 0 _ ⟨rfl, hP0, rfl, rfl, rfl⟩ va_S.rf (Nat.zero_add _) (Nat.zero_add _) (ent_LH b s.heap.size 199 [.ref 0] hc.1 hc.2)
    rw [lg_entry_eq]
    have e0 : ([.ref 0] : List Value).map (cv b s.heap.size) = [.ref b] := by show [Value.ref (ad b s.heap.size 0)] = _; rw [ad_zero]
    rw [e0] at k2
    exact k2
  · cases hden
end
section
/-! Int32 arithmetic without wrap (rows of the kit's COUNTS) -/
theorem fb_rng (x : Int32) : -2147483648 ≤ x.toInt ∧ x.toInt < 2147483648 := by
  have h1 := Int32.le_toInt x
  have h2 := Int32.toInt_lt x
  omega
theorem fb_bmod {z : Int} (h1 : -2147483648 ≤ z) (h2 : z < 2147483648) : z.bmod (2 ^ 32) = z := by
  rw [Int.bmod_eq_of_le (by omega) (by omega)]
theorem fb_addI {x y : Int32} (h1 : -2147483648 ≤ x.toInt + y.toInt) (h2 : x.toInt + y.toInt < 2147483648) : (x + y).toInt = x.toInt + y.toInt := by
  rw [Int32.toInt_add, fb_bmod h1 h2]
theorem fb_subI {x y : Int32} (h1 : -2147483648 ≤ x.toInt - y.toInt) (h2 : x.toInt - y.toInt < 2147483648) : (x - y).toInt = x.toInt - y.toInt := by
  rw [Int32.toInt_sub, fb_bmod h1 h2]
theorem fb_mulI {x y : Int32} (h1 : -2147483648 ≤ x.toInt * y.toInt) (h2 : x.toInt * y.toInt < 2147483648) : (x * y).toInt = x.toInt * y.toInt := by
  rw [Int32.toInt_mul, fb_bmod h1 h2]
theorem fb_negI {x : Int32} (h : x.toInt ≠ -2147483648) : (-x).toInt = -x.toInt := by
  have := fb_rng x
  rw [Int32.toInt_neg, fb_bmod (by omega) (by omega)]
theorem fb_ofI {z : Int} (h1 : -2147483648 ≤ z) (h2 : z < 2147483648) : (Int32.ofInt z).toInt = z := by
  rw [Int32.toInt_ofInt, fb_bmod h1 h2]
theorem fb_asI (x : Int32) : Int32.ofInt x.toInt = x := Int32.ofInt_toInt x
end
section
/-! THE SMALL MACHINE, row by row: equations that rewrite -/
noncomputable def Rr (m pc : Nat) (ls st : List Value) (h : Hp) : Option Rs := rn (EE m) m (pc, ls, st, h)
section RRR
variable {m pc pc' : Nat} {ls st ls' st' : List Value} {h h' : Hp} {x : Instr × Nat}
theorem R_eq (hd : decode (mB m) pc = .ok x) : Rr m pc ls st h = (match stI (EE m) m pc ls st h x.1 x.2 with
    | none => none
    | some (.inl r) => some r
    | some (.inr c') => rn (EE m) m c') := by
  unfold Rr
  rw [rn_eq]
  simp only [stp, hd]
  rfl
theorem R_step (hd : decode (mB m) pc = .ok x) (hs : stI (EE m) m pc ls st h x.1 x.2 = some (.inr (pc', ls', st', h'))) : Rr m pc ls st h = Rr m pc' ls' st' h' := by
  rw [R_eq hd, hs]
  rfl
theorem R_ret {r : Rs} (hd : decode (mB m) pc = .ok x) (hs : stI (EE m) m pc ls st h x.1 x.2 = some (.inl r)) : Rr m pc ls st h = some r := by
  rw [R_eq hd, hs]
theorem R_br {q : Prop} {dq : Decidable q} {off : Int} {t : Nat} (hd : decode (mB m) pc = .ok x) (hs : stI (EE m) m pc ls st h x.1 x.2 = hBr pc off q ls st' h) (ho : decide (0 ≤ (pc : Int) + off) = true) (ht : tg pc off = t) : Rr m pc ls st h = if q then Rr m t ls st' h else Rr m (pc + 3) ls st' h := by
  have ho := of_decide_eq_true ho
  by_cases hq : q
  · rw [if_pos hq, R_eq hd, hs, hBr, if_pos ho, if_pos hq, ht]
    rfl
  · rw [if_neg hq, R_eq hd, hs, hBr, if_pos ho, if_neg hq]
    rfl
theorem R_if {q : Prop} {dq : Decidable q} (hd : decode (mB m) pc = .ok x) (hs : stI (EE m) m pc ls st h x.1 x.2 = if q then some (.inr (pc', ls', st', h')) else none) (hq : q) : Rr m pc ls st h = Rr m pc' ls' st' h' := by
  refine R_step hd ?_
  rw [hs, if_pos hq]
theorem R_ifr {q : Prop} {dq : Decidable q} {r : Rs} (hd : decode (mB m) pc = .ok x) (hs : stI (EE m) m pc ls st h x.1 x.2 = if q then some (.inl r) else none) (hq : q) : Rr m pc ls st h = some r := by
  refine R_ret hd ?_
  rw [hs, if_pos hq]
/-- a switch, as a row of questions -/
def swR {α : Type} (f : Int → α) (x : Int32) (d : Int) : Int32 → List Int → α
  | _, [] => f d
  | k, o :: r => if x = k then f o else swR f x d (k + 1) r
theorem swR_eq {α : Type} (f : Int → α) (pc : Nat) (x : Int32) (d : Int) : ∀ (r : List Int) (k : Int32), k.toInt + r.length < 2147483648 → f (tsw pc x.toInt d k.toInt r) = swR f x d k r
  | [], _, _ => rfl
  | o :: r, k, hk => by
    have hb := fb_rng k
    simp only [List.length_cons] at hk
    have e : (k + 1).toInt = k.toInt + 1 := by
      rw [fb_addI] <;> simp <;> omega
    have ih := swR_eq f pc x d r (k + 1) (by rw [e]; omega)
    rw [e] at ih
    by_cases hx : x = k
    · subst hx
      rw [tsw, if_pos rfl, swR, if_pos rfl]
    · rw [tsw, if_neg (fun z => hx (Int32.toInt_inj.mp z)), swR, if_neg hx]
      exact ih
theorem R_sw {y k : Int32} {d lo hi : Int} {offs : Array Int} {n : Nat} (hd : decode (mB m) pc = .ok (.tableswitch d lo hi offs, n)) (hk : k.toInt = lo) (hc : decide (lo + offs.size = hi + 1 ∧ 0 ≤ (pc : Int) + d ∧ (∀ o ∈ offs.toList, 0 ≤ (pc : Int) + o) ∧ lo + offs.toList.length < 2147483648) = true) :
    Rr m pc ls (.int y :: st) h = swR (fun o => Rr m (tg pc o) ls st h) y d k offs.toList := by
  have hc := of_decide_eq_true hc
  subst hk
  rw [← swR_eq (fun o => Rr m (tg pc o) ls st h) pc y d offs.toList k hc.2.2.2]
  refine R_step hd ?_
  show hSw d k.toInt hi offs pc ls (.int y :: st) h = _
  exact if_pos ⟨hc.1, hc.2.1, hc.2.2.1⟩
def psh (r : Option Int32) (st : List Value) : List Value := (r.map Value.int).toList ++ st
theorem psh_i (v : Int32) (st : List Value) : psh (some v) st = .int v :: st := rfl
theorem psh_n (st : List Value) : psh none st = st := rfl
def Ins (a : Nat) (h : Hp) (ci : Nat) : Prop := inst a h ci
def Arr (a : Nat) (h : Hp) : Prop := a ≤ h.1 ∧ (hS h a).1 = 0
def ArW (a : Nat) (h : Hp) : Prop := a ≠ 0 ∧ a ≤ h.1 ∧ (hS h a).1 = 0
def Rws (a : Nat) (h : Hp) : Prop := a ≠ 0 ∧ a ≤ h.1 ∧ (hS h a).1 = 1
def ArL (a : Nat) (h : Hp) : Prop := a ≤ h.1 ∧ ((hS h a).1 = 0 ∨ (hS h a).1 = 1 ∧ a ≠ 0)
def Lng (h : Hp) (a : Nat) : Nat := (hS h a).2.1
def Gt (h : Hp) (a : Nat) : Nat → Int32 := h.2.2.2.2 a
def Rf (h : Hp) (a k : Nat) : Value := rv ((hS h a).2.2 k)
theorem R_go {q : So} (hd : decode (mB m) pc = .ok x) (hs : stI (EE m) m pc ls st h x.1 x.2 = q) (hq : q = some (.inr (pc', ls', st', h'))) : Rr m pc ls st h = Rr m pc' ls' st' h' := R_step hd (hs.trans hq)
theorem R_ldc {i : Nat} {v : Int32} (hd : decode (mB m) pc = .ok (.ldc i, 2)) (hk : kik m i = some v) : Rr m pc ls st h = Rr m (pc + 2) ls (.int v :: st) h := by
  refine R_go hd rfl ?_
  show hK (kik m i) 2 pc ls st h = _
  rw [hk]
  rfl
theorem R_ldcw {i : Nat} {v : Int32} (hd : decode (mB m) pc = .ok (.ldc_w i, 3)) (hk : kik m i = some v) : Rr m pc ls st h = Rr m (pc + 3) ls (.int v :: st) h := by
  refine R_go hd rfl ?_
  show hK (kik m i) 3 pc ls st h = _
  rw [hk]
  rfl
theorem R_ldc2 {i : Nat} {v : Int64} (hd : decode (mB m) pc = .ok (.ldc2_w i, 3)) (hk : klk m i = some v) : Rr m pc ls st h = Rr m (pc + 3) ls (.long v :: st) h := by
  refine R_go hd rfl ?_
  show hKl (klk m i) 3 pc ls st h = _
  rw [hk]
  rfl
theorem R_div {a b : Int32} (hd : decode (mB m) pc = .ok (.idiv, 1)) (c : ¬ b = 0) : Rr m pc ls (.int b :: .int a :: st) h = Rr m (pc + 1) ls (.int (a / b) :: st) h := R_go hd rfl (if_neg c)
theorem R_rem {a b : Int32} (hd : decode (mB m) pc = .ok (.irem, 1)) (c : ¬ b = 0) : Rr m pc ls (.int b :: .int a :: st) h = Rr m (pc + 1) ls (.int (a - a / b * b) :: st) h := R_go hd rfl (if_neg c)
theorem R_lrem {a b : Int64} (hd : decode (mB m) pc = .ok (.lrem, 1)) (c : ¬ b = 0) : Rr m pc ls (.long b :: .long a :: st) h = Rr m (pc + 1) ls (.long (a - a / b * b) :: st) h := R_go hd rfl (if_neg c)
theorem R_getI {a i ci k : Nat} (hd : decode (mB m) pc = .ok (.getfield i, 3)) (hf : flk m i = some (ci, k)) (hI : isI ci k = true) (c : Ins a h ci) : Rr m pc ls (.ref a :: st) h = Rr m (pc + 3) ls (.int (Gt h a k) :: st) h := by
  refine R_go hd rfl ?_
  show hGet m i pc ls (.ref a :: st) h = _
  unfold hGet
  rw [hf]
  show (if inst a h ci then _ else none) = _
  exact (if_pos c).trans (by rw [if_pos hI]; rfl)
theorem R_getR {a i ci k : Nat} (hd : decode (mB m) pc = .ok (.getfield i, 3)) (hf : flk m i = some (ci, k)) (hI : isI ci k = false) (c : Ins a h ci) : Rr m pc ls (.ref a :: st) h = Rr m (pc + 3) ls (Rf h a k :: st) h := by
  refine R_go hd rfl ?_
  show hGet m i pc ls (.ref a :: st) h = _
  unfold hGet
  rw [hf]
  show (if inst a h ci then _ else none) = _
  exact (if_pos c).trans (by rw [if_neg (by rw [hI]; decide)]; rfl)
theorem R_putI {a i ci k : Nat} {v : Int32} (hd : decode (mB m) pc = .ok (.putfield i, 3)) (hf : flk m i = some (ci, k)) (hI : isI ci k = true ∧ (TTT ci k).2.2.2 = false ∧ isZ ci k = false) (c : Ins a h ci) : Rr m pc ls (.int v :: .ref a :: st) h = Rr m (pc + 3) ls st (setG h a (upd (Gt h a) k v)) := by
  refine R_go hd rfl ?_
  show hPut m i pc ls (.int v :: .ref a :: st) h = _
  unfold hPut
  rw [hf]
  exact if_pos ⟨c, hI.1, hI.2.1, fun q => absurd (hI.2.2.symm.trans q) (by decide)⟩
theorem R_putZ {a i ci k : Nat} {v : Int32} (hd : decode (mB m) pc = .ok (.putfield i, 3)) (hf : flk m i = some (ci, k)) (hI : isI ci k = true ∧ (TTT ci k).2.2.2 = false) (c : Ins a h ci) (c2 : v = 0 ∨ v = 1) : Rr m pc ls (.int v :: .ref a :: st) h = Rr m (pc + 3) ls st (setG h a (upd (Gt h a) k v)) := by
  refine R_go hd rfl ?_
  show hPut m i pc ls (.int v :: .ref a :: st) h = _
  unfold hPut
  rw [hf]
  exact if_pos ⟨c, hI.1, hI.2, fun _ => c2⟩
theorem R_putR {a i ci k q : Nat} (hd : decode (mB m) pc = .ok (.putfield i, 3)) (hf : flk m i = some (ci, k)) (hI : isI ci k = false ∧ (TTT ci k).2.2.2 = true ∧ kd m = 2 ∧ mK m = ci) (c : Ins a h ci) : Rr m pc ls (.ref q :: .ref a :: st) h = Rr m (pc + 3) ls st (setS h a ((hS h a).1, (hS h a).2.1, upf (hS h a).2.2 k (some q))) := by
  refine R_go hd rfl ?_
  show hPut m i pc ls (.ref q :: .ref a :: st) h = _
  unfold hPut
  rw [hf]
  exact if_pos ⟨c, hI⟩
theorem R_ial {a : Nat} {i : Int32} (hd : decode (mB m) pc = .ok (.iaload, 1)) (c : Arr a h) (d : ¬ (i < 0 ∨ Lng h a ≤ i.toNatClampNeg)) : Rr m pc ls (.int i :: .ref a :: st) h = Rr m (pc + 1) ls (.int (Gt h a i.toNatClampNeg) :: st) h := R_go hd rfl (if_pos ⟨c.1, c.2, d⟩)
theorem R_aal {a : Nat} {i : Int32} (hd : decode (mB m) pc = .ok (.aaload, 1)) (c : Rws a h) (d : ¬ (i < 0 ∨ Lng h a ≤ i.toNatClampNeg)) : Rr m pc ls (.int i :: .ref a :: st) h = Rr m (pc + 1) ls (Rf h a i.toNatClampNeg :: st) h := R_go hd rfl (if_pos ⟨c.1, c.2.1, c.2.2, d⟩)
theorem R_ias {a : Nat} {i v : Int32} (hd : decode (mB m) pc = .ok (.iastore, 1)) (c : ArW a h) (d : ¬ (i < 0 ∨ Lng h a ≤ i.toNatClampNeg)) : Rr m pc ls (.int v :: .int i :: .ref a :: st) h = Rr m (pc + 1) ls st (setG h a (upd (Gt h a) i.toNatClampNeg v)) := R_go hd rfl (if_pos ⟨c.1, c.2.1, c.2.2, d⟩)
theorem R_len {a : Nat} (hd : decode (mB m) pc = .ok (.arraylength, 1)) (c : ArL a h) : Rr m pc ls (.ref a :: st) h = Rr m (pc + 1) ls (.int (nI (Lng h a)) :: st) h := R_go hd rfl (if_pos c)
theorem R_nwa {k : Int32} (hd : decode (mB m) pc = .ok (.newarray .int, 2)) (c : ¬ k < 0 ∧ 1 ≤ h.2.1 ∧ k.toNatClampNeg ≤ h.2.2.1 ∧ k.toNatClampNeg ≤ 100000) : Rr m pc ls (.int k :: st) h = Rr m (pc + 2) ls (.ref (h.1 + 1) :: st) (h.1 + 1, h.2.1 - 1, h.2.2.1 - k.toNatClampNeg, upf h.2.2.2.1 (h.1 + 1) (0, k.toNatClampNeg, fun _ => none), upf h.2.2.2.2 (h.1 + 1) (fun _ => 0)) := R_go hd rfl (if_pos c)
theorem R_new {i ci n : Nat} (hd : decode (mB m) pc = .ok (.new i, 3)) (hf : clk m i = some ci) (hn : cNf ci = n) (c : 1 ≤ h.2.1 ∧ n ≤ h.2.2.1) : Rr m pc ls st h = Rr m (pc + 3) ls (.ref (h.1 + 1) :: st) (h.1 + 1, h.2.1 - 1, h.2.2.1 - n, upf h.2.2.2.1 (h.1 + 1) (ci + 2, 0, fun _ => none), upf h.2.2.2.2 (h.1 + 1) (fun _ => 0)) := by
  subst hn
  refine R_go hd rfl ?_
  show hNew m i pc ls st h = _
  unfold hNew
  rw [hf]
  exact if_pos c
theorem R_retI {v : Int32} (hd : decode (mB m) pc = .ok (.ireturn, 1)) (c : mR m = some .int) : Rr m pc ls [.int v] h = some (some v, h) := R_ret hd ((rfl : _ = hRetI m [.int v] h).trans (if_pos (Or.inl c)))
theorem R_retZ {v : Int32} (hd : decode (mB m) pc = .ok (.ireturn, 1)) (c : mR m = some .boolean) (c2 : v = 0 ∨ v = 1) : Rr m pc ls [.int v] h = some (some v, h) := R_ret hd ((rfl : _ = hRetI m [.int v] h).trans (if_pos (Or.inr ⟨c, c2⟩)))
theorem R_retV (hd : decode (mB m) pc = .ok (.return_, 1)) (c : mR m = none) : Rr m pc ls [] h = some (none, h) := R_ret hd ((rfl : _ = hRetV m [] h).trans (if_pos c))
theorem R_call {y : Nat} {As rest : List Value} (hd : decode (mB m) pc = .ok x) (hs : stI (EE m) m pc ls st h x.1 x.2 = hCall (EE m) y As rest pc ls h) (ht9 : ht y < ht m) (hc : (rest.map fun v => v.category).sum ≤ 8 ∧ mc y ≤ h.2.1 ∧ ms y ≤ h.2.2.1) :
    Rr m pc ls st h = (Den y As (enH y h)).bind (fun z => Rr m (pc + 3) ls (psh z.1 rest) (lvH y h z.2)) := by
  rw [R_eq hd, hs, hCall, if_pos hc]
  unfold EE
  rw [if_pos ht9]
  cases Den y As (enH y h) with
  | none => rfl
  | some q => rfl
theorem R_vir {y i a : Nat} {As rest : List Value} (hd : decode (mB m) pc = .ok (.invokevirtual i, 3)) (h1 : mlk m i = some y) (h2 : kd y = 0 ∧ mK y < 9 ∧ ht y < ht m) (h3 : st.drop (mP y) = .ref a :: rest) (h4 : (st.take (mP y)).reverse = As) (h5 : Ins a h (mK y)) (hc : (rest.map fun v => v.category).sum ≤ 8 ∧ mc y ≤ h.2.1 ∧ ms y ≤ h.2.2.1) :
    Rr m pc ls st h = (Den y (.ref a :: As) (enH y h)).bind (fun z => Rr m (pc + 3) ls (psh z.1 rest) (lvH y h z.2)) := by
  refine R_call hd ?_ h2.2.2 hc
  show hVir (EE m) m i pc ls st h = _
  unfold hVir
  rw [h1]
  show (if kd y = 0 then _ else none) = _
  rw [if_pos h2.1, h3]
  show (if _ then _ else none) = _
  rw [if_pos ⟨h2.2.1, h5⟩, h4]
theorem R_sta {y i : Nat} {As rest : List Value} (hd : decode (mB m) pc = .ok (.invokestatic i, 3)) (h1 : mlk m i = some y) (h2 : kd y = 1 ∧ ht y < ht m) (h3 : st.drop (mP y) = rest) (h4 : (st.take (mP y)).reverse = As) (h5 : (st.take (mP y)).length = mP y) (hc : (rest.map fun v => v.category).sum ≤ 8 ∧ mc y ≤ h.2.1 ∧ ms y ≤ h.2.2.1) :
    Rr m pc ls st h = (Den y As (enH y h)).bind (fun z => Rr m (pc + 3) ls (psh z.1 rest) (lvH y h z.2)) := by
  refine R_call hd ?_ h2.2 hc
  show hSta (EE m) m i pc ls st h = _
  unfold hSta
  rw [h1]
  show (if _ then _ else none) = _
  rw [if_pos ⟨h2.1, h5⟩, h3, h4]
theorem R_spe {y i a : Nat} {As rest : List Value} (hd : decode (mB m) pc = .ok (.invokespecial i, 3)) (h1 : mlk m i = some y ∨ (mlk m i = none ∧ ∃ hst, nsk m i = some (y, hst))) (h2 : kd y = 2 ∧ ht y < ht m) (h3 : st.drop (mP y) = .ref a :: rest) (h4 : (st.take (mP y)).reverse = As) (h5 : (st.take (mP y)).length = mP y) (hc : (rest.map fun v => v.category).sum ≤ 8 ∧ mc y ≤ h.2.1 ∧ ms y ≤ h.2.2.1) :
    Rr m pc ls st h = (Den y (.ref a :: As) (enH y h)).bind (fun z => Rr m (pc + 3) ls (psh z.1 rest) (lvH y h z.2)) := by
  refine R_call hd ?_ h2.2 hc
  show hSpe (EE m) m i pc ls st h = _
  unfold hSpe
  rcases h1 with h1 | ⟨h1, hst, h6⟩
  · rw [h1]
    show (if kd y = 2 then _ else none) = _
    rw [if_pos h2.1, h3]
    show (if _ then _ else none) = _
    rw [if_pos h5, h4]
  · rw [h1, h6]
    show (if kd y = 2 then _ else none) = _
    rw [if_pos h2.1, h3]
    show (if _ then _ else none) = _
    rw [if_pos h5, h4]
theorem R_obj {i a : Nat} (hd : decode (mB m) pc = .ok (.invokespecial i, 3)) (h1 : mlk m i = none ∧ nsk m i = none ∧ spk m i = some 0) (hc : (st.map fun v => v.category).sum ≤ 8) : Rr m pc ls (.ref a :: st) h = Rr m (pc + 3) ls st h := by
  refine R_go hd rfl ?_
  show hSpe (EE m) m i pc ls (.ref a :: st) h = _
  unfold hSpe
  rw [h1.1, h1.2.1, h1.2.2]
  exact if_pos hc
theorem R_max {i : Nat} {a b : Int32} (hd : decode (mB m) pc = .ok (.invokestatic i, 3)) (h1 : mlk m i = none ∧ spk m i = some 1) (hc : (st.map fun v => v.category).sum ≤ 8) : Rr m pc ls (.int b :: .int a :: st) h = Rr m (pc + 3) ls (.int (if a < b then b else a) :: st) h := by
  refine R_go hd rfl ?_
  show hSta (EE m) m i pc ls _ h = _
  unfold hSta
  rw [h1.1, h1.2]
  exact if_pos hc
theorem R_min {i : Nat} {a b : Int32} (hd : decode (mB m) pc = .ok (.invokestatic i, 3)) (h1 : mlk m i = none ∧ spk m i = some 2) (hc : (st.map fun v => v.category).sum ≤ 8) : Rr m pc ls (.int b :: .int a :: st) h = Rr m (pc + 3) ls (.int (if b < a then b else a) :: st) h := by
  refine R_go hd rfl ?_
  show hSta (EE m) m i pc ls _ h = _
  unfold hSta
  rw [h1.1, h1.2]
  exact if_pos hc
theorem R_copy {i a0 a1 : Nat} {n dp sp : Int32} (hd : decode (mB m) pc = .ok (.invokestatic i, 3)) (h1 : mlk m i = none ∧ spk m i = some 3) (hc : (st.map fun v => v.category).sum ≤ 8) (c : ArW a0 h ∧ ArW a1 h) (d : ¬ sp < 0 ∧ ¬ dp < 0 ∧ ¬ n < 0 ∧ sp.toNatClampNeg + n.toNatClampNeg ≤ Lng h a0 ∧ dp.toNatClampNeg + n.toNatClampNeg ≤ Lng h a1) :
    Rr m pc ls (.int n :: .int dp :: .ref a1 :: .int sp :: .ref a0 :: st) h = Rr m (pc + 3) ls st (setG h a1 (va_cpy (Gt h a0) (Gt h a1) sp.toNatClampNeg dp.toNatClampNeg n.toNatClampNeg)) := by
  refine R_go hd rfl ?_
  show hSta (EE m) m i pc ls _ h = _
  unfold hSta
  rw [h1.1, h1.2]
  exact if_pos ⟨hc, c.1.1, c.1.2.1, c.2.1, c.2.2.1, c.1.2.2, c.2.2.2, d⟩
theorem R_mna {i : Nat} {k n : Int32} (hd : decode (mB m) pc = .ok (.multianewarray i 2, 4)) (h1 : m = mnaM ∧ i = mnaI) (c : ¬ n < 0 ∧ ¬ k < 0 ∧ 1 + n.toNatClampNeg ≤ h.2.1 ∧ n.toNatClampNeg + n.toNatClampNeg * k.toNatClampNeg ≤ h.2.2.1 ∧ n.toNatClampNeg ≤ 100000 ∧ k.toNatClampNeg ≤ 100000) :
    Rr m pc ls (.int k :: .int n :: st) h = Rr m (pc + 4) ls (.ref (h.1 + 1) :: st) (h.1 + 1 + n.toNatClampNeg, h.2.1 - (1 + n.toNatClampNeg), h.2.2.1 - (n.toNatClampNeg + n.toNatClampNeg * k.toNatClampNeg),
        (fun j => if j = h.1 + 1 then (1, n.toNatClampNeg, fun i => if i < n.toNatClampNeg then some (h.1 + 2 + i) else none) else if h.1 + 2 ≤ j ∧ j < h.1 + 2 + n.toNatClampNeg then (0, k.toNatClampNeg, fun _ => none) else h.2.2.2.1 j),
        (fun j => if h.1 + 1 ≤ j ∧ j < h.1 + 2 + n.toNatClampNeg then fun _ => 0 else h.2.2.2.2 j)) := R_go hd rfl (if_pos ⟨h1.1, h1.2, c⟩)
theorem Den_start {as : List Value} (hc : (flt as).length ≤ mL m ∧ (noL m = true → ∀ v ∈ as, v.category = 1)) (he : ent as (mL m) = ls) : Den m as h = Rr m 0 ls [] h := by
  rw [Den_eq, if_pos hc, he]
  rfl
end RRR
end
section
/-! rows of java/util/Arrays, StrongCells$Shelf, StrongCells$Book, StrongCells$Deeds, StrongCells$Images, StrongCells$State, StrongCells$Plan -/
theorem e0_0 {h : Hp} {v0 : Value} {v1 : Value} {v2 : Value} {v3 : Value} : Rr 0 0 [v0, v1, v2, v3] [] h = Rr 0 1 [v0, v1, v2, v3] [.int (nI 0)] h := R_step (x := (.iconst 0, 1)) (by decide +kernel) rfl
theorem e0_1 {h : Hp} {v0 : Value} {v1 : Value} {v2 : Value} {v3 : Value} {y0 : Int32} : Rr 0 1 [v0, v1, v2, v3] [.int y0] h = Rr 0 2 [v0, v1, .int y0, v3] [] h := R_step (x := (.istore_n 2, 1)) (by decide +kernel) rfl
theorem e0_2 {h : Hp} {v1 : Value} {v2 : Value} {v3 : Value} {r0 : Nat} : Rr 0 2 [.ref r0, v1, v2, v3] [] h = Rr 0 3 [.ref r0, v1, v2, v3] [.ref r0] h := R_step (x := (.aload_n 0, 1)) (by decide +kernel) rfl
theorem e0_3 {h : Hp} {v0 : Value} {v1 : Value} {v2 : Value} {v3 : Value} {a0 : Nat} (c : ArL a0 h) : Rr 0 3 [v0, v1, v2, v3] [.ref a0] h = Rr 0 4 [v0, v1, v2, v3] [.int (nI (Lng h a0))] h := R_len (by decide +kernel) c
theorem e0_4 {h : Hp} {v0 : Value} {v1 : Value} {v2 : Value} {v3 : Value} {y0 : Int32} : Rr 0 4 [v0, v1, v2, v3] [.int y0] h = Rr 0 5 [v0, v1, v2, .int y0] [] h := R_step (x := (.istore_n 3, 1)) (by decide +kernel) rfl
theorem e0_5 {h : Hp} {v0 : Value} {v1 : Value} {v3 : Value} {x2 : Int32} : Rr 0 5 [v0, v1, .int x2, v3] [] h = Rr 0 6 [v0, v1, .int x2, v3] [.int x2] h := R_step (x := (.iload_n 2, 1)) (by decide +kernel) rfl
theorem e0_6 {h : Hp} {v0 : Value} {v1 : Value} {v2 : Value} {y0 : Int32} {x3 : Int32} : Rr 0 6 [v0, v1, v2, .int x3] [.int y0] h = Rr 0 7 [v0, v1, v2, .int x3] [.int x3, .int y0] h := R_step (x := (.iload_n 3, 1)) (by decide +kernel) rfl
theorem e0_7 {h : Hp} {v0 : Value} {v1 : Value} {v2 : Value} {v3 : Value} {y0 : Int32} {y1 : Int32} : Rr 0 7 [v0, v1, v2, v3] [.int y0, .int y1] h = if y0 ≤ y1 then Rr 0 20 [v0, v1, v2, v3] [] h else Rr 0 10 [v0, v1, v2, v3] [] h := R_br (off := 13) (x := (.if_icmp .ge 13, 3)) (by decide +kernel) rfl (by decide) rfl
theorem e0_10 {h : Hp} {v1 : Value} {v2 : Value} {v3 : Value} {r0 : Nat} : Rr 0 10 [.ref r0, v1, v2, v3] [] h = Rr 0 11 [.ref r0, v1, v2, v3] [.ref r0] h := R_step (x := (.aload_n 0, 1)) (by decide +kernel) rfl
theorem e0_11 {h : Hp} {v0 : Value} {v1 : Value} {v3 : Value} {a0 : Nat} {x2 : Int32} : Rr 0 11 [v0, v1, .int x2, v3] [.ref a0] h = Rr 0 12 [v0, v1, .int x2, v3] [.int x2, .ref a0] h := R_step (x := (.iload_n 2, 1)) (by decide +kernel) rfl
theorem e0_12 {h : Hp} {v0 : Value} {v2 : Value} {v3 : Value} {y0 : Int32} {a1 : Nat} {x1 : Int32} : Rr 0 12 [v0, .int x1, v2, v3] [.int y0, .ref a1] h = Rr 0 13 [v0, .int x1, v2, v3] [.int x1, .int y0, .ref a1] h := R_step (x := (.iload_n 1, 1)) (by decide +kernel) rfl
theorem e0_13 {h : Hp} {v0 : Value} {v1 : Value} {v2 : Value} {v3 : Value} {y0 : Int32} {y1 : Int32} {a2 : Nat} (c : ArW a2 h) (d : ¬ (y1 < 0 ∨ Lng h a2 ≤ y1.toNatClampNeg)) : Rr 0 13 [v0, v1, v2, v3] [.int y0, .int y1, .ref a2] h = Rr 0 14 [v0, v1, v2, v3] [] (setG h a2 (upd (Gt h a2) y1.toNatClampNeg y0)) := R_ias (by decide +kernel) c d
theorem e0_14 {h : Hp} {v0 : Value} {v1 : Value} {v3 : Value} {x2 : Int32} : Rr 0 14 [v0, v1, .int x2, v3] [] h = Rr 0 17 [v0, v1, .int (x2 + nI 1), v3] [] h := R_step (x := (.iinc 2 1, 3)) (by decide +kernel) rfl
theorem e0_17 {h : Hp} {v0 : Value} {v1 : Value} {v2 : Value} {v3 : Value} : Rr 0 17 [v0, v1, v2, v3] [] h = Rr 0 5 [v0, v1, v2, v3] [] h := R_step (x := (.goto (-12), 3)) (by decide +kernel) rfl
theorem e0_20 {h : Hp} {v0 : Value} {v1 : Value} {v2 : Value} {v3 : Value} : Rr 0 20 [v0, v1, v2, v3] [] h = some (none, h) := R_retV (by decide +kernel) (by decide +kernel)
theorem e22_0 {h : Hp} {v1 : Value} {r0 : Nat} : Rr 22 0 [.ref r0, v1] [] h = Rr 22 1 [.ref r0, v1] [.ref r0] h := R_step (x := (.aload_n 0, 1)) (by decide +kernel) rfl
theorem e22_1 {h : Hp} {v0 : Value} {v1 : Value} {a0 : Nat} : Rr 22 1 [v0, v1] [.ref a0] h = Rr 22 4 [v0, v1] [] h := R_obj (i := 1) (by decide +kernel) (by decide +kernel) (Nat.le_of_ble_eq_true rfl)
theorem e22_4 {h : Hp} {v1 : Value} {r0 : Nat} : Rr 22 4 [.ref r0, v1] [] h = Rr 22 5 [.ref r0, v1] [.ref r0] h := R_step (x := (.aload_n 0, 1)) (by decide +kernel) rfl
theorem e22_5 {h : Hp} {v0 : Value} {a0 : Nat} {x1 : Int32} : Rr 22 5 [v0, .int x1] [.ref a0] h = Rr 22 6 [v0, .int x1] [.int x1, .ref a0] h := R_step (x := (.iload_n 1, 1)) (by decide +kernel) rfl
theorem e22_6 {h : Hp} {v0 : Value} {v1 : Value} {y0 : Int32} {a1 : Nat} : Rr 22 6 [v0, v1] [.int y0, .ref a1] h = Rr 22 7 [v0, v1] [.int (nI 0), .int y0, .ref a1] h := R_step (x := (.iconst 0, 1)) (by decide +kernel) rfl
theorem e22_7 {h : Hp} {v0 : Value} {v1 : Value} {y0 : Int32} {y1 : Int32} {a2 : Nat} : Rr 22 7 [v0, v1] [.int y0, .int y1, .ref a2] h = Rr 22 10 [v0, v1] [.int (if y1 < y0 then y0 else y1), .ref a2] h := R_max (i := 7) (by decide +kernel) (by decide +kernel) (Nat.le_of_ble_eq_true rfl)
theorem e22_10 {h : Hp} {v0 : Value} {v1 : Value} {y0 : Int32} {a1 : Nat} : Rr 22 10 [v0, v1] [.int y0, .ref a1] h = Rr 22 13 [v0, v1] [.int (nI 146), .int y0, .ref a1] h := R_step (x := (.sipush 146, 3)) (by decide +kernel) rfl
theorem e22_13 {h : Hp} {v0 : Value} {v1 : Value} {y0 : Int32} {y1 : Int32} {a2 : Nat} (c : ¬ y1 < 0 ∧ ¬ y0 < 0 ∧ 1 + y1.toNatClampNeg ≤ h.2.1 ∧ y1.toNatClampNeg + y1.toNatClampNeg * y0.toNatClampNeg ≤ h.2.2.1 ∧ y1.toNatClampNeg ≤ 100000 ∧ y0.toNatClampNeg ≤ 100000) : Rr 22 13 [v0, v1] [.int y0, .int y1, .ref a2] h = Rr 22 17 [v0, v1] [.ref (h.1 + 1), .ref a2] (h.1 + 1 + y1.toNatClampNeg, h.2.1 - (1 + y1.toNatClampNeg), h.2.2.1 - (y1.toNatClampNeg + y1.toNatClampNeg * y0.toNatClampNeg), (fun j => if j = h.1 + 1 then (1, y1.toNatClampNeg, fun i => if i < y1.toNatClampNeg then some (h.1 + 2 + i) else none) else if h.1 + 2 ≤ j ∧ j < h.1 + 2 + y1.toNatClampNeg then (0, y0.toNatClampNeg, fun _ => none) else h.2.2.2.1 j), (fun j => if h.1 + 1 ≤ j ∧ j < h.1 + 2 + y1.toNatClampNeg then fun _ => 0 else h.2.2.2.2 j)) := R_mna (i := 15) (by decide +kernel) (by decide) c
theorem e22_17 {h : Hp} {v0 : Value} {v1 : Value} {a0 : Nat} {a1 : Nat} (c : Ins a1 h 4) : Rr 22 17 [v0, v1] [.ref a0, .ref a1] h = Rr 22 20 [v0, v1] [] (setS h a1 ((hS h a1).1, (hS h a1).2.1, upf (hS h a1).2.2 0 (some a0))) := R_putR (ci := 4) (k := 0) (i := 17) (by decide +kernel) (by decide +kernel) (by decide) c
theorem e22_20 {h : Hp} {v0 : Value} {v1 : Value} : Rr 22 20 [v0, v1] [] h = some (none, h) := R_retV (by decide +kernel) (by decide +kernel)
theorem e23_0 {h : Hp} {v0 : Value} {v2 : Value} {x1 : Int32} : Rr 23 0 [v0, .int x1, v2] [] h = Rr 23 1 [v0, .int x1, v2] [.int x1] h := R_step (x := (.iload_n 1, 1)) (by decide +kernel) rfl
theorem e23_1 {h : Hp} {v0 : Value} {v1 : Value} {v2 : Value} {y0 : Int32} : Rr 23 1 [v0, v1, v2] [.int y0] h = if y0 < 0 then Rr 23 31 [v0, v1, v2] [] h else Rr 23 4 [v0, v1, v2] [] h := R_br (off := 30) (x := (.ifCond .lt 30, 3)) (by decide +kernel) rfl (by decide) rfl
theorem e23_4 {h : Hp} {v0 : Value} {v2 : Value} {x1 : Int32} : Rr 23 4 [v0, .int x1, v2] [] h = Rr 23 5 [v0, .int x1, v2] [.int x1] h := R_step (x := (.iload_n 1, 1)) (by decide +kernel) rfl
theorem e23_5 {h : Hp} {v1 : Value} {v2 : Value} {y0 : Int32} {r0 : Nat} : Rr 23 5 [.ref r0, v1, v2] [.int y0] h = Rr 23 6 [.ref r0, v1, v2] [.ref r0, .int y0] h := R_step (x := (.aload_n 0, 1)) (by decide +kernel) rfl
theorem e23_6 {h : Hp} {v0 : Value} {v1 : Value} {v2 : Value} {a0 : Nat} {y1 : Int32} (c : Ins a0 h 4) : Rr 23 6 [v0, v1, v2] [.ref a0, .int y1] h = Rr 23 9 [v0, v1, v2] [Rf h a0 0, .int y1] h := R_getR (ci := 4) (k := 0) (i := 17) (by decide +kernel) (by decide +kernel) (by decide) c
theorem e23_9 {h : Hp} {v0 : Value} {v1 : Value} {v2 : Value} {a0 : Nat} {y1 : Int32} (c : ArL a0 h) : Rr 23 9 [v0, v1, v2] [.ref a0, .int y1] h = Rr 23 10 [v0, v1, v2] [.int (nI (Lng h a0)), .int y1] h := R_len (by decide +kernel) c
theorem e23_10 {h : Hp} {v0 : Value} {v1 : Value} {v2 : Value} {y0 : Int32} {y1 : Int32} : Rr 23 10 [v0, v1, v2] [.int y0, .int y1] h = if y0 ≤ y1 then Rr 23 31 [v0, v1, v2] [] h else Rr 23 13 [v0, v1, v2] [] h := R_br (off := 21) (x := (.if_icmp .ge 21, 3)) (by decide +kernel) rfl (by decide) rfl
theorem e23_13 {h : Hp} {v0 : Value} {v1 : Value} {r2 : Nat} : Rr 23 13 [v0, v1, .ref r2] [] h = Rr 23 14 [v0, v1, .ref r2] [.ref r2] h := R_step (x := (.aload_n 2, 1)) (by decide +kernel) rfl
theorem e23_14 {h : Hp} {v0 : Value} {v1 : Value} {v2 : Value} {a0 : Nat} (c : Ins a0 h 5) : Rr 23 14 [v0, v1, v2] [.ref a0] h = Rr 23 17 [v0, v1, v2] [Rf h a0 0] h := R_getR (ci := 5) (k := 0) (i := 22) (by decide +kernel) (by decide +kernel) (by decide) c
theorem e23_17 {h : Hp} {v0 : Value} {v1 : Value} {v2 : Value} {a0 : Nat} : Rr 23 17 [v0, v1, v2] [.ref a0] h = Rr 23 18 [v0, v1, v2] [.int (nI 0), .ref a0] h := R_step (x := (.iconst 0, 1)) (by decide +kernel) rfl
theorem e23_18 {h : Hp} {v1 : Value} {v2 : Value} {y0 : Int32} {a1 : Nat} {r0 : Nat} : Rr 23 18 [.ref r0, v1, v2] [.int y0, .ref a1] h = Rr 23 19 [.ref r0, v1, v2] [.ref r0, .int y0, .ref a1] h := R_step (x := (.aload_n 0, 1)) (by decide +kernel) rfl
theorem e23_19 {h : Hp} {v0 : Value} {v1 : Value} {v2 : Value} {a0 : Nat} {y1 : Int32} {a2 : Nat} (c : Ins a0 h 4) : Rr 23 19 [v0, v1, v2] [.ref a0, .int y1, .ref a2] h = Rr 23 22 [v0, v1, v2] [Rf h a0 0, .int y1, .ref a2] h := R_getR (ci := 4) (k := 0) (i := 17) (by decide +kernel) (by decide +kernel) (by decide) c
theorem e23_22 {h : Hp} {v0 : Value} {v2 : Value} {a0 : Nat} {y1 : Int32} {a2 : Nat} {x1 : Int32} : Rr 23 22 [v0, .int x1, v2] [.ref a0, .int y1, .ref a2] h = Rr 23 23 [v0, .int x1, v2] [.int x1, .ref a0, .int y1, .ref a2] h := R_step (x := (.iload_n 1, 1)) (by decide +kernel) rfl
theorem e23_23 {h : Hp} {v0 : Value} {v1 : Value} {v2 : Value} {y0 : Int32} {a1 : Nat} {y2 : Int32} {a3 : Nat} (c : Rws a1 h) (d : ¬ (y0 < 0 ∨ Lng h a1 ≤ y0.toNatClampNeg)) : Rr 23 23 [v0, v1, v2] [.int y0, .ref a1, .int y2, .ref a3] h = Rr 23 24 [v0, v1, v2] [Rf h a1 y0.toNatClampNeg, .int y2, .ref a3] h := R_aal (by decide +kernel) c d
theorem e23_24 {h : Hp} {v0 : Value} {v1 : Value} {v2 : Value} {a0 : Nat} {y1 : Int32} {a2 : Nat} : Rr 23 24 [v0, v1, v2] [.ref a0, .int y1, .ref a2] h = Rr 23 25 [v0, v1, v2] [.int (nI 0), .ref a0, .int y1, .ref a2] h := R_step (x := (.iconst 0, 1)) (by decide +kernel) rfl
theorem e23_25 {h : Hp} {v0 : Value} {v1 : Value} {v2 : Value} {y0 : Int32} {a1 : Nat} {y2 : Int32} {a3 : Nat} : Rr 23 25 [v0, v1, v2] [.int y0, .ref a1, .int y2, .ref a3] h = Rr 23 28 [v0, v1, v2] [.int (nI 146), .int y0, .ref a1, .int y2, .ref a3] h := R_step (x := (.sipush 146, 3)) (by decide +kernel) rfl
theorem e23_28 {h : Hp} {v0 : Value} {v1 : Value} {v2 : Value} {y0 : Int32} {y1 : Int32} {a2 : Nat} {y3 : Int32} {a4 : Nat} (c : ArW a4 h ∧ ArW a2 h) (d : ¬ y3 < 0 ∧ ¬ y1 < 0 ∧ ¬ y0 < 0 ∧ y3.toNatClampNeg + y0.toNatClampNeg ≤ Lng h a4 ∧ y1.toNatClampNeg + y0.toNatClampNeg ≤ Lng h a2) : Rr 23 28 [v0, v1, v2] [.int y0, .int y1, .ref a2, .int y3, .ref a4] h = Rr 23 31 [v0, v1, v2] [] (setG h a2 (va_cpy (Gt h a4) (Gt h a2) y3.toNatClampNeg y1.toNatClampNeg y0.toNatClampNeg)) := R_copy (i := 26) (by decide +kernel) (by decide +kernel) (Nat.le_of_ble_eq_true rfl) c d
theorem e23_31 {h : Hp} {v0 : Value} {v1 : Value} {v2 : Value} : Rr 23 31 [v0, v1, v2] [] h = some (none, h) := R_retV (by decide +kernel) (by decide +kernel)
theorem e24_0 {h : Hp} {v0 : Value} {v2 : Value} {x1 : Int32} : Rr 24 0 [v0, .int x1, v2] [] h = Rr 24 1 [v0, .int x1, v2] [.int x1] h := R_step (x := (.iload_n 1, 1)) (by decide +kernel) rfl
theorem e24_1 {h : Hp} {v0 : Value} {v1 : Value} {v2 : Value} {y0 : Int32} : Rr 24 1 [v0, v1, v2] [.int y0] h = if y0 < 0 then Rr 24 31 [v0, v1, v2] [] h else Rr 24 4 [v0, v1, v2] [] h := R_br (off := 30) (x := (.ifCond .lt 30, 3)) (by decide +kernel) rfl (by decide) rfl
theorem e24_4 {h : Hp} {v0 : Value} {v2 : Value} {x1 : Int32} : Rr 24 4 [v0, .int x1, v2] [] h = Rr 24 5 [v0, .int x1, v2] [.int x1] h := R_step (x := (.iload_n 1, 1)) (by decide +kernel) rfl
theorem e24_5 {h : Hp} {v1 : Value} {v2 : Value} {y0 : Int32} {r0 : Nat} : Rr 24 5 [.ref r0, v1, v2] [.int y0] h = Rr 24 6 [.ref r0, v1, v2] [.ref r0, .int y0] h := R_step (x := (.aload_n 0, 1)) (by decide +kernel) rfl
theorem e24_6 {h : Hp} {v0 : Value} {v1 : Value} {v2 : Value} {a0 : Nat} {y1 : Int32} (c : Ins a0 h 4) : Rr 24 6 [v0, v1, v2] [.ref a0, .int y1] h = Rr 24 9 [v0, v1, v2] [Rf h a0 0, .int y1] h := R_getR (ci := 4) (k := 0) (i := 17) (by decide +kernel) (by decide +kernel) (by decide) c
theorem e24_9 {h : Hp} {v0 : Value} {v1 : Value} {v2 : Value} {a0 : Nat} {y1 : Int32} (c : ArL a0 h) : Rr 24 9 [v0, v1, v2] [.ref a0, .int y1] h = Rr 24 10 [v0, v1, v2] [.int (nI (Lng h a0)), .int y1] h := R_len (by decide +kernel) c
theorem e24_10 {h : Hp} {v0 : Value} {v1 : Value} {v2 : Value} {y0 : Int32} {y1 : Int32} : Rr 24 10 [v0, v1, v2] [.int y0, .int y1] h = if y0 ≤ y1 then Rr 24 31 [v0, v1, v2] [] h else Rr 24 13 [v0, v1, v2] [] h := R_br (off := 21) (x := (.if_icmp .ge 21, 3)) (by decide +kernel) rfl (by decide) rfl
theorem e24_13 {h : Hp} {v1 : Value} {v2 : Value} {r0 : Nat} : Rr 24 13 [.ref r0, v1, v2] [] h = Rr 24 14 [.ref r0, v1, v2] [.ref r0] h := R_step (x := (.aload_n 0, 1)) (by decide +kernel) rfl
theorem e24_14 {h : Hp} {v0 : Value} {v1 : Value} {v2 : Value} {a0 : Nat} (c : Ins a0 h 4) : Rr 24 14 [v0, v1, v2] [.ref a0] h = Rr 24 17 [v0, v1, v2] [Rf h a0 0] h := R_getR (ci := 4) (k := 0) (i := 17) (by decide +kernel) (by decide +kernel) (by decide) c
theorem e24_17 {h : Hp} {v0 : Value} {v2 : Value} {a0 : Nat} {x1 : Int32} : Rr 24 17 [v0, .int x1, v2] [.ref a0] h = Rr 24 18 [v0, .int x1, v2] [.int x1, .ref a0] h := R_step (x := (.iload_n 1, 1)) (by decide +kernel) rfl
theorem e24_18 {h : Hp} {v0 : Value} {v1 : Value} {v2 : Value} {y0 : Int32} {a1 : Nat} (c : Rws a1 h) (d : ¬ (y0 < 0 ∨ Lng h a1 ≤ y0.toNatClampNeg)) : Rr 24 18 [v0, v1, v2] [.int y0, .ref a1] h = Rr 24 19 [v0, v1, v2] [Rf h a1 y0.toNatClampNeg] h := R_aal (by decide +kernel) c d
theorem e24_19 {h : Hp} {v0 : Value} {v1 : Value} {v2 : Value} {a0 : Nat} : Rr 24 19 [v0, v1, v2] [.ref a0] h = Rr 24 20 [v0, v1, v2] [.int (nI 0), .ref a0] h := R_step (x := (.iconst 0, 1)) (by decide +kernel) rfl
theorem e24_20 {h : Hp} {v0 : Value} {v1 : Value} {y0 : Int32} {a1 : Nat} {r2 : Nat} : Rr 24 20 [v0, v1, .ref r2] [.int y0, .ref a1] h = Rr 24 21 [v0, v1, .ref r2] [.ref r2, .int y0, .ref a1] h := R_step (x := (.aload_n 2, 1)) (by decide +kernel) rfl
theorem e24_21 {h : Hp} {v0 : Value} {v1 : Value} {v2 : Value} {a0 : Nat} {y1 : Int32} {a2 : Nat} (c : Ins a0 h 5) : Rr 24 21 [v0, v1, v2] [.ref a0, .int y1, .ref a2] h = Rr 24 24 [v0, v1, v2] [Rf h a0 0, .int y1, .ref a2] h := R_getR (ci := 5) (k := 0) (i := 22) (by decide +kernel) (by decide +kernel) (by decide) c
theorem e24_24 {h : Hp} {v0 : Value} {v1 : Value} {v2 : Value} {a0 : Nat} {y1 : Int32} {a2 : Nat} : Rr 24 24 [v0, v1, v2] [.ref a0, .int y1, .ref a2] h = Rr 24 25 [v0, v1, v2] [.int (nI 0), .ref a0, .int y1, .ref a2] h := R_step (x := (.iconst 0, 1)) (by decide +kernel) rfl
theorem e24_25 {h : Hp} {v0 : Value} {v1 : Value} {v2 : Value} {y0 : Int32} {a1 : Nat} {y2 : Int32} {a3 : Nat} : Rr 24 25 [v0, v1, v2] [.int y0, .ref a1, .int y2, .ref a3] h = Rr 24 28 [v0, v1, v2] [.int (nI 146), .int y0, .ref a1, .int y2, .ref a3] h := R_step (x := (.sipush 146, 3)) (by decide +kernel) rfl
theorem e24_28 {h : Hp} {v0 : Value} {v1 : Value} {v2 : Value} {y0 : Int32} {y1 : Int32} {a2 : Nat} {y3 : Int32} {a4 : Nat} (c : ArW a4 h ∧ ArW a2 h) (d : ¬ y3 < 0 ∧ ¬ y1 < 0 ∧ ¬ y0 < 0 ∧ y3.toNatClampNeg + y0.toNatClampNeg ≤ Lng h a4 ∧ y1.toNatClampNeg + y0.toNatClampNeg ≤ Lng h a2) : Rr 24 28 [v0, v1, v2] [.int y0, .int y1, .ref a2, .int y3, .ref a4] h = Rr 24 31 [v0, v1, v2] [] (setG h a2 (va_cpy (Gt h a4) (Gt h a2) y3.toNatClampNeg y1.toNatClampNeg y0.toNatClampNeg)) := R_copy (i := 26) (by decide +kernel) (by decide +kernel) (Nat.le_of_ble_eq_true rfl) c d
theorem e24_31 {h : Hp} {v0 : Value} {v1 : Value} {v2 : Value} : Rr 24 31 [v0, v1, v2] [] h = some (none, h) := R_retV (by decide +kernel) (by decide +kernel)
theorem e1_0 {h : Hp} {v1 : Value} {v2 : Value} {r0 : Nat} : Rr 1 0 [.ref r0, v1, v2] [] h = Rr 1 1 [.ref r0, v1, v2] [.ref r0] h := R_step (x := (.aload_n 0, 1)) (by decide +kernel) rfl
theorem e1_1 {h : Hp} {v0 : Value} {v1 : Value} {v2 : Value} {a0 : Nat} (c : Ins a0 h 0) : Rr 1 1 [v0, v1, v2] [.ref a0] h = Rr 1 4 [v0, v1, v2] [.int (Gt h a0 2)] h := R_getI (ci := 0) (k := 2) (i := 18) (by decide +kernel) (by decide +kernel) (by decide) c
theorem e1_4 {h : Hp} {v0 : Value} {v1 : Value} {v2 : Value} {y0 : Int32} : Rr 1 4 [v0, v1, v2] [.int y0] h = if y0 < 0 then Rr 1 16 [v0, v1, v2] [] h else Rr 1 7 [v0, v1, v2] [] h := R_br (off := 12) (x := (.ifCond .lt 12, 3)) (by decide +kernel) rfl (by decide) rfl
theorem e1_7 {h : Hp} {v1 : Value} {v2 : Value} {r0 : Nat} : Rr 1 7 [.ref r0, v1, v2] [] h = Rr 1 8 [.ref r0, v1, v2] [.ref r0] h := R_step (x := (.aload_n 0, 1)) (by decide +kernel) rfl
theorem e1_8 {h : Hp} {v0 : Value} {v1 : Value} {v2 : Value} {a0 : Nat} (c : Ins a0 h 0) : Rr 1 8 [v0, v1, v2] [.ref a0] h = Rr 1 11 [v0, v1, v2] [.int (Gt h a0 2)] h := R_getI (ci := 0) (k := 2) (i := 18) (by decide +kernel) (by decide +kernel) (by decide) c
theorem e1_11 {h : Hp} {v0 : Value} {v1 : Value} {v2 : Value} {y0 : Int32} : Rr 1 11 [v0, v1, v2] [.int y0] h = Rr 1 13 [v0, v1, v2] [.int (nI 20), .int y0] h := R_step (x := (.bipush 20, 2)) (by decide +kernel) rfl
theorem e1_13 {h : Hp} {v0 : Value} {v1 : Value} {v2 : Value} {y0 : Int32} {y1 : Int32} : Rr 1 13 [v0, v1, v2] [.int y0, .int y1] h = if y1 < y0 then Rr 1 17 [v0, v1, v2] [] h else Rr 1 16 [v0, v1, v2] [] h := R_br (off := 4) (x := (.if_icmp .lt 4, 3)) (by decide +kernel) rfl (by decide) rfl
theorem e1_16 {h : Hp} {v0 : Value} {v1 : Value} {v2 : Value} : Rr 1 16 [v0, v1, v2] [] h = some (none, h) := R_retV (by decide +kernel) (by decide +kernel)
theorem e1_17 {h : Hp} {v1 : Value} {v2 : Value} {r0 : Nat} : Rr 1 17 [.ref r0, v1, v2] [] h = Rr 1 18 [.ref r0, v1, v2] [.ref r0] h := R_step (x := (.aload_n 0, 1)) (by decide +kernel) rfl
theorem e1_18 {h : Hp} {v0 : Value} {v1 : Value} {v2 : Value} {a0 : Nat} (c : Ins a0 h 0) : Rr 1 18 [v0, v1, v2] [.ref a0] h = Rr 1 21 [v0, v1, v2] [Rf h a0 0] h := R_getR (ci := 0) (k := 0) (i := 11) (by decide +kernel) (by decide +kernel) (by decide) c
theorem e1_21 {h : Hp} {v1 : Value} {v2 : Value} {a0 : Nat} {r0 : Nat} : Rr 1 21 [.ref r0, v1, v2] [.ref a0] h = Rr 1 22 [.ref r0, v1, v2] [.ref r0, .ref a0] h := R_step (x := (.aload_n 0, 1)) (by decide +kernel) rfl
theorem e1_22 {h : Hp} {v0 : Value} {v1 : Value} {v2 : Value} {a0 : Nat} {a1 : Nat} (c : Ins a0 h 0) : Rr 1 22 [v0, v1, v2] [.ref a0, .ref a1] h = Rr 1 25 [v0, v1, v2] [.int (Gt h a0 2), .ref a1] h := R_getI (ci := 0) (k := 2) (i := 18) (by decide +kernel) (by decide +kernel) (by decide) c
theorem e1_25 {h : Hp} {v0 : Value} {v2 : Value} {y0 : Int32} {a1 : Nat} {x1 : Int32} : Rr 1 25 [v0, .int x1, v2] [.int y0, .ref a1] h = Rr 1 26 [v0, .int x1, v2] [.int x1, .int y0, .ref a1] h := R_step (x := (.iload_n 1, 1)) (by decide +kernel) rfl
theorem e1_26 {h : Hp} {v0 : Value} {v1 : Value} {v2 : Value} {y0 : Int32} {y1 : Int32} {a2 : Nat} (c : ArW a2 h) (d : ¬ (y1 < 0 ∨ Lng h a2 ≤ y1.toNatClampNeg)) : Rr 1 26 [v0, v1, v2] [.int y0, .int y1, .ref a2] h = Rr 1 27 [v0, v1, v2] [] (setG h a2 (upd (Gt h a2) y1.toNatClampNeg y0)) := R_ias (by decide +kernel) c d
theorem e1_27 {h : Hp} {v1 : Value} {v2 : Value} {r0 : Nat} : Rr 1 27 [.ref r0, v1, v2] [] h = Rr 1 28 [.ref r0, v1, v2] [.ref r0] h := R_step (x := (.aload_n 0, 1)) (by decide +kernel) rfl
theorem e1_28 {h : Hp} {v0 : Value} {v1 : Value} {v2 : Value} {a0 : Nat} (c : Ins a0 h 0) : Rr 1 28 [v0, v1, v2] [.ref a0] h = Rr 1 31 [v0, v1, v2] [Rf h a0 1] h := R_getR (ci := 0) (k := 1) (i := 15) (by decide +kernel) (by decide +kernel) (by decide) c
theorem e1_31 {h : Hp} {v1 : Value} {v2 : Value} {a0 : Nat} {r0 : Nat} : Rr 1 31 [.ref r0, v1, v2] [.ref a0] h = Rr 1 32 [.ref r0, v1, v2] [.ref r0, .ref a0] h := R_step (x := (.aload_n 0, 1)) (by decide +kernel) rfl
theorem e1_32 {h : Hp} {v0 : Value} {v1 : Value} {v2 : Value} {a0 : Nat} {a1 : Nat} (c : Ins a0 h 0) : Rr 1 32 [v0, v1, v2] [.ref a0, .ref a1] h = Rr 1 35 [v0, v1, v2] [.int (Gt h a0 2), .ref a1] h := R_getI (ci := 0) (k := 2) (i := 18) (by decide +kernel) (by decide +kernel) (by decide) c
theorem e1_35 {h : Hp} {v0 : Value} {v1 : Value} {y0 : Int32} {a1 : Nat} {x2 : Int32} : Rr 1 35 [v0, v1, .int x2] [.int y0, .ref a1] h = Rr 1 36 [v0, v1, .int x2] [.int x2, .int y0, .ref a1] h := R_step (x := (.iload_n 2, 1)) (by decide +kernel) rfl
theorem e1_36 {h : Hp} {v0 : Value} {v1 : Value} {v2 : Value} {y0 : Int32} {y1 : Int32} {a2 : Nat} (c : ArW a2 h) (d : ¬ (y1 < 0 ∨ Lng h a2 ≤ y1.toNatClampNeg)) : Rr 1 36 [v0, v1, v2] [.int y0, .int y1, .ref a2] h = Rr 1 37 [v0, v1, v2] [] (setG h a2 (upd (Gt h a2) y1.toNatClampNeg y0)) := R_ias (by decide +kernel) c d
theorem e1_37 {h : Hp} {v1 : Value} {v2 : Value} {r0 : Nat} : Rr 1 37 [.ref r0, v1, v2] [] h = Rr 1 38 [.ref r0, v1, v2] [.ref r0] h := R_step (x := (.aload_n 0, 1)) (by decide +kernel) rfl
theorem e1_38 {h : Hp} {v0 : Value} {v1 : Value} {v2 : Value} {a0 : Nat} : Rr 1 38 [v0, v1, v2] [.ref a0] h = Rr 1 39 [v0, v1, v2] [.ref a0, .ref a0] h := R_step (x := (.dup, 1)) (by decide +kernel) rfl
theorem e1_39 {h : Hp} {v0 : Value} {v1 : Value} {v2 : Value} {a0 : Nat} {a1 : Nat} (c : Ins a0 h 0) : Rr 1 39 [v0, v1, v2] [.ref a0, .ref a1] h = Rr 1 42 [v0, v1, v2] [.int (Gt h a0 2), .ref a1] h := R_getI (ci := 0) (k := 2) (i := 18) (by decide +kernel) (by decide +kernel) (by decide) c
theorem e1_42 {h : Hp} {v0 : Value} {v1 : Value} {v2 : Value} {y0 : Int32} {a1 : Nat} : Rr 1 42 [v0, v1, v2] [.int y0, .ref a1] h = Rr 1 43 [v0, v1, v2] [.int (nI 1), .int y0, .ref a1] h := R_step (x := (.iconst 1, 1)) (by decide +kernel) rfl
theorem e1_43 {h : Hp} {v0 : Value} {v1 : Value} {v2 : Value} {y0 : Int32} {y1 : Int32} {a2 : Nat} : Rr 1 43 [v0, v1, v2] [.int y0, .int y1, .ref a2] h = Rr 1 44 [v0, v1, v2] [.int (y1 + y0), .ref a2] h := R_step (x := (.iadd, 1)) (by decide +kernel) rfl
theorem e1_44 {h : Hp} {v0 : Value} {v1 : Value} {v2 : Value} {y0 : Int32} {a1 : Nat} (c : Ins a1 h 0) : Rr 1 44 [v0, v1, v2] [.int y0, .ref a1] h = Rr 1 47 [v0, v1, v2] [] (setG h a1 (upd (Gt h a1) 2 y0)) := R_putI (ci := 0) (k := 2) (i := 18) (by decide +kernel) (by decide +kernel) (by decide) c
theorem e1_47 {h : Hp} {v0 : Value} {v1 : Value} {v2 : Value} : Rr 1 47 [v0, v1, v2] [] h = some (none, h) := R_retV (by decide +kernel) (by decide +kernel)
theorem e2_0 {h : Hp} {r0 : Nat} : Rr 2 0 [.ref r0] [] h = Rr 2 1 [.ref r0] [.ref r0] h := R_step (x := (.aload_n 0, 1)) (by decide +kernel) rfl
theorem e2_1 {h : Hp} {v0 : Value} {a0 : Nat} : Rr 2 1 [v0] [.ref a0] h = Rr 2 2 [v0] [.int (nI 0), .ref a0] h := R_step (x := (.iconst 0, 1)) (by decide +kernel) rfl
theorem e2_2 {h : Hp} {v0 : Value} {y0 : Int32} {a1 : Nat} (c : Ins a1 h 0) : Rr 2 2 [v0] [.int y0, .ref a1] h = Rr 2 5 [v0] [] (setG h a1 (upd (Gt h a1) 2 y0)) := R_putI (ci := 0) (k := 2) (i := 18) (by decide +kernel) (by decide +kernel) (by decide) c
theorem e2_5 {h : Hp} {v0 : Value} : Rr 2 5 [v0] [] h = some (none, h) := R_retV (by decide +kernel) (by decide +kernel)
theorem e3_0 {h : Hp} {r0 : Nat} : Rr 3 0 [.ref r0] [] h = Rr 3 1 [.ref r0] [.ref r0] h := R_step (x := (.aload_n 0, 1)) (by decide +kernel) rfl
theorem e3_1 {h : Hp} {v0 : Value} {a0 : Nat} : Rr 3 1 [v0] [.ref a0] h = Rr 3 4 [v0] [] h := R_obj (i := 3) (by decide +kernel) (by decide +kernel) (Nat.le_of_ble_eq_true rfl)
theorem e3_4 {h : Hp} {r0 : Nat} : Rr 3 4 [.ref r0] [] h = Rr 3 5 [.ref r0] [.ref r0] h := R_step (x := (.aload_n 0, 1)) (by decide +kernel) rfl
theorem e3_5 {h : Hp} {v0 : Value} {a0 : Nat} : Rr 3 5 [v0] [.ref a0] h = Rr 3 7 [v0] [.int (nI 20), .ref a0] h := R_step (x := (.bipush 20, 2)) (by decide +kernel) rfl
theorem e3_7 {h : Hp} {v0 : Value} {y0 : Int32} {a1 : Nat} (c : ¬ y0 < 0 ∧ 1 ≤ h.2.1 ∧ y0.toNatClampNeg ≤ h.2.2.1 ∧ y0.toNatClampNeg ≤ 100000) : Rr 3 7 [v0] [.int y0, .ref a1] h = Rr 3 9 [v0] [.ref (h.1 + 1), .ref a1] (h.1 + 1, h.2.1 - 1, h.2.2.1 - y0.toNatClampNeg, upf h.2.2.2.1 (h.1 + 1) (0, y0.toNatClampNeg, fun _ => none), upf h.2.2.2.2 (h.1 + 1) (fun _ => 0)) := R_nwa (by decide +kernel) c
theorem e3_9 {h : Hp} {v0 : Value} {a0 : Nat} {a1 : Nat} (c : Ins a1 h 0) : Rr 3 9 [v0] [.ref a0, .ref a1] h = Rr 3 12 [v0] [] (setS h a1 ((hS h a1).1, (hS h a1).2.1, upf (hS h a1).2.2 0 (some a0))) := R_putR (ci := 0) (k := 0) (i := 11) (by decide +kernel) (by decide +kernel) (by decide) c
theorem e3_12 {h : Hp} {r0 : Nat} : Rr 3 12 [.ref r0] [] h = Rr 3 13 [.ref r0] [.ref r0] h := R_step (x := (.aload_n 0, 1)) (by decide +kernel) rfl
theorem e3_13 {h : Hp} {v0 : Value} {a0 : Nat} : Rr 3 13 [v0] [.ref a0] h = Rr 3 15 [v0] [.int (nI 20), .ref a0] h := R_step (x := (.bipush 20, 2)) (by decide +kernel) rfl
theorem e3_15 {h : Hp} {v0 : Value} {y0 : Int32} {a1 : Nat} (c : ¬ y0 < 0 ∧ 1 ≤ h.2.1 ∧ y0.toNatClampNeg ≤ h.2.2.1 ∧ y0.toNatClampNeg ≤ 100000) : Rr 3 15 [v0] [.int y0, .ref a1] h = Rr 3 17 [v0] [.ref (h.1 + 1), .ref a1] (h.1 + 1, h.2.1 - 1, h.2.2.1 - y0.toNatClampNeg, upf h.2.2.2.1 (h.1 + 1) (0, y0.toNatClampNeg, fun _ => none), upf h.2.2.2.2 (h.1 + 1) (fun _ => 0)) := R_nwa (by decide +kernel) c
theorem e3_17 {h : Hp} {v0 : Value} {a0 : Nat} {a1 : Nat} (c : Ins a1 h 0) : Rr 3 17 [v0] [.ref a0, .ref a1] h = Rr 3 20 [v0] [] (setS h a1 ((hS h a1).1, (hS h a1).2.1, upf (hS h a1).2.2 1 (some a0))) := R_putR (ci := 0) (k := 1) (i := 15) (by decide +kernel) (by decide +kernel) (by decide) c
theorem e3_20 {h : Hp} {v0 : Value} : Rr 3 20 [v0] [] h = some (none, h) := R_retV (by decide +kernel) (by decide +kernel)
theorem e4_0 {h : Hp} {r0 : Nat} : Rr 4 0 [.ref r0] [] h = Rr 4 1 [.ref r0] [.ref r0] h := R_step (x := (.aload_n 0, 1)) (by decide +kernel) rfl
theorem e4_1 {h : Hp} {v0 : Value} {a0 : Nat} (c : Ins a0 h 0) : Rr 4 1 [v0] [.ref a0] h = Rr 4 4 [v0] [.int (Gt h a0 2)] h := R_getI (ci := 0) (k := 2) (i := 18) (by decide +kernel) (by decide +kernel) (by decide) c
theorem e4_4 {h : Hp} {v0 : Value} {y0 : Int32} : Rr 4 4 [v0] [.int y0] h = Rr 4 6 [v0] [.int (nI 20), .int y0] h := R_step (x := (.bipush 20, 2)) (by decide +kernel) rfl
theorem e4_6 {h : Hp} {v0 : Value} {y0 : Int32} {y1 : Int32} : Rr 4 6 [v0] [.int y0, .int y1] h = if y1 < y0 then Rr 4 13 [v0] [] h else Rr 4 9 [v0] [] h := R_br (off := 7) (x := (.if_icmp .lt 7, 3)) (by decide +kernel) rfl (by decide) rfl
theorem e4_9 {h : Hp} {v0 : Value} : Rr 4 9 [v0] [] h = Rr 4 10 [v0] [.int (nI 1)] h := R_step (x := (.iconst 1, 1)) (by decide +kernel) rfl
theorem e4_10 {h : Hp} {v0 : Value} {y0 : Int32} : Rr 4 10 [v0] [.int y0] h = Rr 4 14 [v0] [.int y0] h := R_step (x := (.goto 4, 3)) (by decide +kernel) rfl
theorem e4_13 {h : Hp} {v0 : Value} : Rr 4 13 [v0] [] h = Rr 4 14 [v0] [.int (nI 0)] h := R_step (x := (.iconst 0, 1)) (by decide +kernel) rfl
theorem e4_14 {h : Hp} {v0 : Value} {y0 : Int32} (c : y0 = 0 ∨ y0 = 1) : Rr 4 14 [v0] [.int y0] h = some (some y0, h) := R_retZ (by decide +kernel) (by decide +kernel) c
theorem e5_0 {h : Hp} {r0 : Nat} : Rr 5 0 [.ref r0] [] h = Rr 5 1 [.ref r0] [.ref r0] h := R_step (x := (.aload_n 0, 1)) (by decide +kernel) rfl
theorem e5_1 {h : Hp} {v0 : Value} {a0 : Nat} (c : Ins a0 h 0) : Rr 5 1 [v0] [.ref a0] h = Rr 5 4 [v0] [.int (Gt h a0 2)] h := R_getI (ci := 0) (k := 2) (i := 18) (by decide +kernel) (by decide +kernel) (by decide) c
theorem e5_4 {h : Hp} {v0 : Value} {y0 : Int32} : Rr 5 4 [v0] [.int y0] h = some (some y0, h) := R_retI (by decide +kernel) (by decide +kernel)
theorem e36_0 {h : Hp} {v0 : Value} {v1 : Value} {v2 : Value} : Rr 36 0 [v0, v1, v2] [] h = Rr 36 1 [v0, v1, v2] [.int (nI 0)] h := R_step (x := (.iconst 0, 1)) (by decide +kernel) rfl
theorem e36_1 {h : Hp} {v0 : Value} {v1 : Value} {v2 : Value} {y0 : Int32} : Rr 36 1 [v0, v1, v2] [.int y0] h = Rr 36 2 [v0, v1, .int y0] [] h := R_step (x := (.istore_n 2, 1)) (by decide +kernel) rfl
theorem e36_2 {h : Hp} {v0 : Value} {v1 : Value} {x2 : Int32} : Rr 36 2 [v0, v1, .int x2] [] h = Rr 36 3 [v0, v1, .int x2] [.int x2] h := R_step (x := (.iload_n 2, 1)) (by decide +kernel) rfl
theorem e36_3 {h : Hp} {v1 : Value} {v2 : Value} {y0 : Int32} {r0 : Nat} : Rr 36 3 [.ref r0, v1, v2] [.int y0] h = Rr 36 4 [.ref r0, v1, v2] [.ref r0, .int y0] h := R_step (x := (.aload_n 0, 1)) (by decide +kernel) rfl
theorem e36_4 {h : Hp} {v0 : Value} {v1 : Value} {v2 : Value} {a0 : Nat} {y1 : Int32} (c : Ins a0 h 0) : Rr 36 4 [v0, v1, v2] [.ref a0, .int y1] h = Rr 36 7 [v0, v1, v2] [.int (Gt h a0 2), .int y1] h := R_getI (ci := 0) (k := 2) (i := 18) (by decide +kernel) (by decide +kernel) (by decide) c
theorem e36_7 {h : Hp} {v0 : Value} {v1 : Value} {v2 : Value} {y0 : Int32} {y1 : Int32} : Rr 36 7 [v0, v1, v2] [.int y0, .int y1] h = if y0 ≤ y1 then Rr 36 59 [v0, v1, v2] [] h else Rr 36 10 [v0, v1, v2] [] h := R_br (off := 52) (x := (.if_icmp .ge 52, 3)) (by decide +kernel) rfl (by decide) rfl
theorem e36_10 {h : Hp} {v0 : Value} {v1 : Value} {x2 : Int32} : Rr 36 10 [v0, v1, .int x2] [] h = Rr 36 11 [v0, v1, .int x2] [.int x2] h := R_step (x := (.iload_n 2, 1)) (by decide +kernel) rfl
theorem e36_11 {h : Hp} {v0 : Value} {v1 : Value} {v2 : Value} {y0 : Int32} : Rr 36 11 [v0, v1, v2] [.int y0] h = Rr 36 13 [v0, v1, v2] [.int (nI 20), .int y0] h := R_step (x := (.bipush 20, 2)) (by decide +kernel) rfl
theorem e36_13 {h : Hp} {v0 : Value} {v1 : Value} {v2 : Value} {y0 : Int32} {y1 : Int32} : Rr 36 13 [v0, v1, v2] [.int y0, .int y1] h = if y0 ≤ y1 then Rr 36 59 [v0, v1, v2] [] h else Rr 36 16 [v0, v1, v2] [] h := R_br (off := 46) (x := (.if_icmp .ge 46, 3)) (by decide +kernel) rfl (by decide) rfl
theorem e36_16 {h : Hp} {v1 : Value} {v2 : Value} {r0 : Nat} : Rr 36 16 [.ref r0, v1, v2] [] h = Rr 36 17 [.ref r0, v1, v2] [.ref r0] h := R_step (x := (.aload_n 0, 1)) (by decide +kernel) rfl
theorem e36_17 {h : Hp} {v0 : Value} {v1 : Value} {v2 : Value} {a0 : Nat} (c : Ins a0 h 0) : Rr 36 17 [v0, v1, v2] [.ref a0] h = Rr 36 20 [v0, v1, v2] [Rf h a0 0] h := R_getR (ci := 0) (k := 0) (i := 11) (by decide +kernel) (by decide +kernel) (by decide) c
theorem e36_20 {h : Hp} {v0 : Value} {v1 : Value} {a0 : Nat} {x2 : Int32} : Rr 36 20 [v0, v1, .int x2] [.ref a0] h = Rr 36 21 [v0, v1, .int x2] [.int x2, .ref a0] h := R_step (x := (.iload_n 2, 1)) (by decide +kernel) rfl
theorem e36_21 {h : Hp} {v0 : Value} {v1 : Value} {v2 : Value} {y0 : Int32} {a1 : Nat} (c : Arr a1 h) (d : ¬ (y0 < 0 ∨ Lng h a1 ≤ y0.toNatClampNeg)) : Rr 36 21 [v0, v1, v2] [.int y0, .ref a1] h = Rr 36 22 [v0, v1, v2] [.int (Gt h a1 y0.toNatClampNeg)] h := R_ial (by decide +kernel) c d
theorem e36_22 {h : Hp} {v0 : Value} {v2 : Value} {y0 : Int32} {r1 : Nat} : Rr 36 22 [v0, .ref r1, v2] [.int y0] h = Rr 36 23 [v0, .ref r1, v2] [.ref r1, .int y0] h := R_step (x := (.aload_n 1, 1)) (by decide +kernel) rfl
theorem e36_23 {h : Hp} {v0 : Value} {v1 : Value} {v2 : Value} {a0 : Nat} {y1 : Int32} : Rr 36 23 [v0, v1, v2] [.ref a0, .int y1] h = Rr 36 25 [v0, v1, v2] [.int (nI 6), .ref a0, .int y1] h := R_step (x := (.bipush 6, 2)) (by decide +kernel) rfl
theorem e36_25 {h : Hp} {v0 : Value} {v1 : Value} {v2 : Value} {y0 : Int32} {a1 : Nat} {y2 : Int32} (c : Ins a1 h 5) : Rr 36 25 [v0, v1, v2] [.int y0, .ref a1, .int y2] h = (Den 25 [.ref a1, .int y0] (enH 25 h)).bind (fun z => Rr 36 28 [v0, v1, v2] (psh z.1 [.int y2]) (lvH 25 h z.2)) := R_vir (y := 25) (i := 24) (by decide +kernel) (by decide +kernel) (by decide +kernel) rfl rfl c ⟨Nat.le_of_ble_eq_true rfl, Nat.zero_le _, Nat.zero_le _⟩
theorem e36_28 {h : Hp} {v0 : Value} {v1 : Value} {v2 : Value} {y0 : Int32} {y1 : Int32} : Rr 36 28 [v0, v1, v2] [.int y0, .int y1] h = if y0 ≤ y1 then Rr 36 51 [v0, v1, v2] [] h else Rr 36 31 [v0, v1, v2] [] h := R_br (off := 23) (x := (.if_icmp .ge 23, 3)) (by decide +kernel) rfl (by decide) rfl
theorem e36_31 {h : Hp} {v0 : Value} {v2 : Value} {r1 : Nat} : Rr 36 31 [v0, .ref r1, v2] [] h = Rr 36 32 [v0, .ref r1, v2] [.ref r1] h := R_step (x := (.aload_n 1, 1)) (by decide +kernel) rfl
theorem e36_32 {h : Hp} {v1 : Value} {v2 : Value} {a0 : Nat} {r0 : Nat} : Rr 36 32 [.ref r0, v1, v2] [.ref a0] h = Rr 36 33 [.ref r0, v1, v2] [.ref r0, .ref a0] h := R_step (x := (.aload_n 0, 1)) (by decide +kernel) rfl
theorem e36_33 {h : Hp} {v0 : Value} {v1 : Value} {v2 : Value} {a0 : Nat} {a1 : Nat} (c : Ins a0 h 0) : Rr 36 33 [v0, v1, v2] [.ref a0, .ref a1] h = Rr 36 36 [v0, v1, v2] [Rf h a0 0, .ref a1] h := R_getR (ci := 0) (k := 0) (i := 11) (by decide +kernel) (by decide +kernel) (by decide) c
theorem e36_36 {h : Hp} {v0 : Value} {v1 : Value} {a0 : Nat} {a1 : Nat} {x2 : Int32} : Rr 36 36 [v0, v1, .int x2] [.ref a0, .ref a1] h = Rr 36 37 [v0, v1, .int x2] [.int x2, .ref a0, .ref a1] h := R_step (x := (.iload_n 2, 1)) (by decide +kernel) rfl
theorem e36_37 {h : Hp} {v0 : Value} {v1 : Value} {v2 : Value} {y0 : Int32} {a1 : Nat} {a2 : Nat} (c : Arr a1 h) (d : ¬ (y0 < 0 ∨ Lng h a1 ≤ y0.toNatClampNeg)) : Rr 36 37 [v0, v1, v2] [.int y0, .ref a1, .ref a2] h = Rr 36 38 [v0, v1, v2] [.int (Gt h a1 y0.toNatClampNeg), .ref a2] h := R_ial (by decide +kernel) c d
theorem e36_38 {h : Hp} {v0 : Value} {v1 : Value} {v2 : Value} {y0 : Int32} {a1 : Nat} : Rr 36 38 [v0, v1, v2] [.int y0, .ref a1] h = Rr 36 39 [v0, v1, v2] [.int (nI 2), .int y0, .ref a1] h := R_step (x := (.iconst 2, 1)) (by decide +kernel) rfl
theorem e36_39 {h : Hp} {v0 : Value} {v1 : Value} {v2 : Value} {y0 : Int32} {y1 : Int32} {a2 : Nat} (c : Ins a2 h 5) : Rr 36 39 [v0, v1, v2] [.int y0, .int y1, .ref a2] h = (Den 29 [.ref a2, .int y1, .int y0] (enH 29 h)).bind (fun z => Rr 36 42 [v0, v1, v2] (psh z.1 []) (lvH 29 h z.2)) := R_vir (y := 29) (i := 28) (by decide +kernel) (by decide +kernel) (by decide +kernel) rfl rfl c ⟨Nat.le_of_ble_eq_true rfl, Nat.zero_le _, Nat.zero_le _⟩
theorem e36_42 {h : Hp} {v1 : Value} {v2 : Value} {y0 : Int32} {r0 : Nat} : Rr 36 42 [.ref r0, v1, v2] [.int y0] h = Rr 36 43 [.ref r0, v1, v2] [.ref r0, .int y0] h := R_step (x := (.aload_n 0, 1)) (by decide +kernel) rfl
theorem e36_43 {h : Hp} {v0 : Value} {v1 : Value} {v2 : Value} {a0 : Nat} {y1 : Int32} (c : Ins a0 h 0) : Rr 36 43 [v0, v1, v2] [.ref a0, .int y1] h = Rr 36 46 [v0, v1, v2] [Rf h a0 1, .int y1] h := R_getR (ci := 0) (k := 1) (i := 15) (by decide +kernel) (by decide +kernel) (by decide) c
theorem e36_46 {h : Hp} {v0 : Value} {v1 : Value} {a0 : Nat} {y1 : Int32} {x2 : Int32} : Rr 36 46 [v0, v1, .int x2] [.ref a0, .int y1] h = Rr 36 47 [v0, v1, .int x2] [.int x2, .ref a0, .int y1] h := R_step (x := (.iload_n 2, 1)) (by decide +kernel) rfl
theorem e36_47 {h : Hp} {v0 : Value} {v1 : Value} {v2 : Value} {y0 : Int32} {a1 : Nat} {y2 : Int32} (c : Arr a1 h) (d : ¬ (y0 < 0 ∨ Lng h a1 ≤ y0.toNatClampNeg)) : Rr 36 47 [v0, v1, v2] [.int y0, .ref a1, .int y2] h = Rr 36 48 [v0, v1, v2] [.int (Gt h a1 y0.toNatClampNeg), .int y2] h := R_ial (by decide +kernel) c d
theorem e36_48 {h : Hp} {v0 : Value} {v1 : Value} {v2 : Value} {y0 : Int32} {y1 : Int32} : Rr 36 48 [v0, v1, v2] [.int y0, .int y1] h = if y1 = y0 then Rr 36 53 [v0, v1, v2] [] h else Rr 36 51 [v0, v1, v2] [] h := R_br (off := 5) (x := (.if_icmp .eq 5, 3)) (by decide +kernel) rfl (by decide) rfl
theorem e36_51 {h : Hp} {v0 : Value} {v1 : Value} {x2 : Int32} : Rr 36 51 [v0, v1, .int x2] [] h = Rr 36 52 [v0, v1, .int x2] [.int x2] h := R_step (x := (.iload_n 2, 1)) (by decide +kernel) rfl
theorem e36_52 {h : Hp} {v0 : Value} {v1 : Value} {v2 : Value} {y0 : Int32} : Rr 36 52 [v0, v1, v2] [.int y0] h = some (some y0, h) := R_retI (by decide +kernel) (by decide +kernel)
theorem e36_53 {h : Hp} {v0 : Value} {v1 : Value} {x2 : Int32} : Rr 36 53 [v0, v1, .int x2] [] h = Rr 36 56 [v0, v1, .int (x2 + nI 1)] [] h := R_step (x := (.iinc 2 1, 3)) (by decide +kernel) rfl
theorem e36_56 {h : Hp} {v0 : Value} {v1 : Value} {v2 : Value} : Rr 36 56 [v0, v1, v2] [] h = Rr 36 2 [v0, v1, v2] [] h := R_step (x := (.goto (-54), 3)) (by decide +kernel) rfl
theorem e36_59 {h : Hp} {v0 : Value} {v1 : Value} {v2 : Value} : Rr 36 59 [v0, v1, v2] [] h = Rr 36 60 [v0, v1, v2] [.int ((-1))] h := R_step (x := (.iconst (-1), 1)) (by decide +kernel) rfl
theorem e36_60 {h : Hp} {v0 : Value} {v1 : Value} {v2 : Value} {y0 : Int32} : Rr 36 60 [v0, v1, v2] [.int y0] h = some (some y0, h) := R_retI (by decide +kernel) (by decide +kernel)
theorem e16_0 {h : Hp} {r0 : Nat} : Rr 16 0 [.ref r0] [] h = Rr 16 1 [.ref r0] [.ref r0] h := R_step (x := (.aload_n 0, 1)) (by decide +kernel) rfl
theorem e16_1 {h : Hp} {v0 : Value} {a0 : Nat} : Rr 16 1 [v0] [.ref a0] h = Rr 16 2 [v0] [.int (nI 0), .ref a0] h := R_step (x := (.iconst 0, 1)) (by decide +kernel) rfl
theorem e16_2 {h : Hp} {v0 : Value} {y0 : Int32} {a1 : Nat} (c : Ins a1 h 1) : Rr 16 2 [v0] [.int y0, .ref a1] h = Rr 16 5 [v0] [] (setG h a1 (upd (Gt h a1) 2 y0)) := R_putI (ci := 1) (k := 2) (i := 18) (by decide +kernel) (by decide +kernel) (by decide) c
theorem e16_5 {h : Hp} {v0 : Value} : Rr 16 5 [v0] [] h = some (none, h) := R_retV (by decide +kernel) (by decide +kernel)
theorem e17_0 {h : Hp} {r0 : Nat} : Rr 17 0 [.ref r0] [] h = Rr 17 1 [.ref r0] [.ref r0] h := R_step (x := (.aload_n 0, 1)) (by decide +kernel) rfl
theorem e17_1 {h : Hp} {v0 : Value} {a0 : Nat} (c : Ins a0 h 1) : Rr 17 1 [v0] [.ref a0] h = Rr 17 4 [v0] [.int (Gt h a0 2)] h := R_getI (ci := 1) (k := 2) (i := 18) (by decide +kernel) (by decide +kernel) (by decide) c
theorem e17_4 {h : Hp} {v0 : Value} {y0 : Int32} : Rr 17 4 [v0] [.int y0] h = some (some y0, h) := R_retI (by decide +kernel) (by decide +kernel)
theorem e50_0 {h : Hp} {v1 : Value} {r0 : Nat} : Rr 50 0 [.ref r0, v1] [] h = Rr 50 1 [.ref r0, v1] [.ref r0] h := R_step (x := (.aload_n 0, 1)) (by decide +kernel) rfl
theorem e50_1 {h : Hp} {v0 : Value} {v1 : Value} {a0 : Nat} (c : Ins a0 h 1) : Rr 50 1 [v0, v1] [.ref a0] h = Rr 50 4 [v0, v1] [Rf h a0 0] h := R_getR (ci := 1) (k := 0) (i := 14) (by decide +kernel) (by decide +kernel) (by decide) c
theorem e50_4 {h : Hp} {v1 : Value} {a0 : Nat} {r0 : Nat} : Rr 50 4 [.ref r0, v1] [.ref a0] h = Rr 50 5 [.ref r0, v1] [.ref r0, .ref a0] h := R_step (x := (.aload_n 0, 1)) (by decide +kernel) rfl
theorem e50_5 {h : Hp} {v0 : Value} {v1 : Value} {a0 : Nat} {a1 : Nat} (c : Ins a0 h 1) : Rr 50 5 [v0, v1] [.ref a0, .ref a1] h = Rr 50 8 [v0, v1] [.int (Gt h a0 1), .ref a1] h := R_getI (ci := 1) (k := 1) (i := 22) (by decide +kernel) (by decide +kernel) (by decide) c
theorem e50_8 {h : Hp} {v1 : Value} {y0 : Int32} {a1 : Nat} {r0 : Nat} : Rr 50 8 [.ref r0, v1] [.int y0, .ref a1] h = Rr 50 9 [.ref r0, v1] [.ref r0, .int y0, .ref a1] h := R_step (x := (.aload_n 0, 1)) (by decide +kernel) rfl
theorem e50_9 {h : Hp} {v0 : Value} {v1 : Value} {a0 : Nat} {y1 : Int32} {a2 : Nat} (c : Ins a0 h 1) : Rr 50 9 [v0, v1] [.ref a0, .int y1, .ref a2] h = Rr 50 12 [v0, v1] [.int (Gt h a0 2), .int y1, .ref a2] h := R_getI (ci := 1) (k := 2) (i := 18) (by decide +kernel) (by decide +kernel) (by decide) c
theorem e50_12 {h : Hp} {v0 : Value} {v1 : Value} {y0 : Int32} {y1 : Int32} {a2 : Nat} : Rr 50 12 [v0, v1] [.int y0, .int y1, .ref a2] h = Rr 50 13 [v0, v1] [.int (y1 + y0), .ref a2] h := R_step (x := (.iadd, 1)) (by decide +kernel) rfl
theorem e50_13 {h : Hp} {v0 : Value} {v1 : Value} {y0 : Int32} {a1 : Nat} : Rr 50 13 [v0, v1] [.int y0, .ref a1] h = Rr 50 15 [v0, v1] [.int (nI 16), .int y0, .ref a1] h := R_step (x := (.bipush 16, 2)) (by decide +kernel) rfl
theorem e50_15 {h : Hp} {v0 : Value} {v1 : Value} {y0 : Int32} {y1 : Int32} {a2 : Nat} (c : ¬ y0 = 0) : Rr 50 15 [v0, v1] [.int y0, .int y1, .ref a2] h = Rr 50 16 [v0, v1] [.int (y1 - y1 / y0 * y0), .ref a2] h := R_rem (by decide +kernel) c
theorem e50_16 {h : Hp} {v0 : Value} {y0 : Int32} {a1 : Nat} {r1 : Nat} : Rr 50 16 [v0, .ref r1] [.int y0, .ref a1] h = Rr 50 17 [v0, .ref r1] [.ref r1, .int y0, .ref a1] h := R_step (x := (.aload_n 1, 1)) (by decide +kernel) rfl
theorem e50_17 {h : Hp} {v0 : Value} {v1 : Value} {a0 : Nat} {y1 : Int32} {a2 : Nat} (c : Ins a2 h 4) : Rr 50 17 [v0, v1] [.ref a0, .int y1, .ref a2] h = (Den 23 [.ref a2, .int y1, .ref a0] (enH 23 h)).bind (fun z => Rr 50 20 [v0, v1] (psh z.1 []) (lvH 23 h z.2)) := R_vir (y := 23) (i := 25) (by decide +kernel) (by decide +kernel) (by decide +kernel) rfl rfl c ⟨Nat.le_of_ble_eq_true rfl, Nat.zero_le _, Nat.zero_le _⟩
theorem e50_20 {h : Hp} {v1 : Value} {r0 : Nat} : Rr 50 20 [.ref r0, v1] [] h = Rr 50 21 [.ref r0, v1] [.ref r0] h := R_step (x := (.aload_n 0, 1)) (by decide +kernel) rfl
theorem e50_21 {h : Hp} {v0 : Value} {v1 : Value} {a0 : Nat} (c : Ins a0 h 1) : Rr 50 21 [v0, v1] [.ref a0] h = Rr 50 24 [v0, v1] [.int (Gt h a0 2)] h := R_getI (ci := 1) (k := 2) (i := 18) (by decide +kernel) (by decide +kernel) (by decide) c
theorem e50_24 {h : Hp} {v0 : Value} {v1 : Value} {y0 : Int32} : Rr 50 24 [v0, v1] [.int y0] h = Rr 50 26 [v0, v1] [.int (nI 16), .int y0] h := R_step (x := (.bipush 16, 2)) (by decide +kernel) rfl
theorem e50_26 {h : Hp} {v0 : Value} {v1 : Value} {y0 : Int32} {y1 : Int32} : Rr 50 26 [v0, v1] [.int y0, .int y1] h = if y0 ≤ y1 then Rr 50 42 [v0, v1] [] h else Rr 50 29 [v0, v1] [] h := R_br (off := 16) (x := (.if_icmp .ge 16, 3)) (by decide +kernel) rfl (by decide) rfl
theorem e50_29 {h : Hp} {v1 : Value} {r0 : Nat} : Rr 50 29 [.ref r0, v1] [] h = Rr 50 30 [.ref r0, v1] [.ref r0] h := R_step (x := (.aload_n 0, 1)) (by decide +kernel) rfl
theorem e50_30 {h : Hp} {v0 : Value} {v1 : Value} {a0 : Nat} : Rr 50 30 [v0, v1] [.ref a0] h = Rr 50 31 [v0, v1] [.ref a0, .ref a0] h := R_step (x := (.dup, 1)) (by decide +kernel) rfl
theorem e50_31 {h : Hp} {v0 : Value} {v1 : Value} {a0 : Nat} {a1 : Nat} (c : Ins a0 h 1) : Rr 50 31 [v0, v1] [.ref a0, .ref a1] h = Rr 50 34 [v0, v1] [.int (Gt h a0 2), .ref a1] h := R_getI (ci := 1) (k := 2) (i := 18) (by decide +kernel) (by decide +kernel) (by decide) c
theorem e50_34 {h : Hp} {v0 : Value} {v1 : Value} {y0 : Int32} {a1 : Nat} : Rr 50 34 [v0, v1] [.int y0, .ref a1] h = Rr 50 35 [v0, v1] [.int (nI 1), .int y0, .ref a1] h := R_step (x := (.iconst 1, 1)) (by decide +kernel) rfl
theorem e50_35 {h : Hp} {v0 : Value} {v1 : Value} {y0 : Int32} {y1 : Int32} {a2 : Nat} : Rr 50 35 [v0, v1] [.int y0, .int y1, .ref a2] h = Rr 50 36 [v0, v1] [.int (y1 + y0), .ref a2] h := R_step (x := (.iadd, 1)) (by decide +kernel) rfl
theorem e50_36 {h : Hp} {v0 : Value} {v1 : Value} {y0 : Int32} {a1 : Nat} (c : Ins a1 h 1) : Rr 50 36 [v0, v1] [.int y0, .ref a1] h = Rr 50 39 [v0, v1] [] (setG h a1 (upd (Gt h a1) 2 y0)) := R_putI (ci := 1) (k := 2) (i := 18) (by decide +kernel) (by decide +kernel) (by decide) c
theorem e50_39 {h : Hp} {v0 : Value} {v1 : Value} : Rr 50 39 [v0, v1] [] h = Rr 50 55 [v0, v1] [] h := R_step (x := (.goto 16, 3)) (by decide +kernel) rfl
theorem e50_42 {h : Hp} {v1 : Value} {r0 : Nat} : Rr 50 42 [.ref r0, v1] [] h = Rr 50 43 [.ref r0, v1] [.ref r0] h := R_step (x := (.aload_n 0, 1)) (by decide +kernel) rfl
theorem e50_43 {h : Hp} {v1 : Value} {a0 : Nat} {r0 : Nat} : Rr 50 43 [.ref r0, v1] [.ref a0] h = Rr 50 44 [.ref r0, v1] [.ref r0, .ref a0] h := R_step (x := (.aload_n 0, 1)) (by decide +kernel) rfl
theorem e50_44 {h : Hp} {v0 : Value} {v1 : Value} {a0 : Nat} {a1 : Nat} (c : Ins a0 h 1) : Rr 50 44 [v0, v1] [.ref a0, .ref a1] h = Rr 50 47 [v0, v1] [.int (Gt h a0 1), .ref a1] h := R_getI (ci := 1) (k := 1) (i := 22) (by decide +kernel) (by decide +kernel) (by decide) c
theorem e50_47 {h : Hp} {v0 : Value} {v1 : Value} {y0 : Int32} {a1 : Nat} : Rr 50 47 [v0, v1] [.int y0, .ref a1] h = Rr 50 48 [v0, v1] [.int (nI 1), .int y0, .ref a1] h := R_step (x := (.iconst 1, 1)) (by decide +kernel) rfl
theorem e50_48 {h : Hp} {v0 : Value} {v1 : Value} {y0 : Int32} {y1 : Int32} {a2 : Nat} : Rr 50 48 [v0, v1] [.int y0, .int y1, .ref a2] h = Rr 50 49 [v0, v1] [.int (y1 + y0), .ref a2] h := R_step (x := (.iadd, 1)) (by decide +kernel) rfl
theorem e50_49 {h : Hp} {v0 : Value} {v1 : Value} {y0 : Int32} {a1 : Nat} : Rr 50 49 [v0, v1] [.int y0, .ref a1] h = Rr 50 51 [v0, v1] [.int (nI 16), .int y0, .ref a1] h := R_step (x := (.bipush 16, 2)) (by decide +kernel) rfl
theorem e50_51 {h : Hp} {v0 : Value} {v1 : Value} {y0 : Int32} {y1 : Int32} {a2 : Nat} (c : ¬ y0 = 0) : Rr 50 51 [v0, v1] [.int y0, .int y1, .ref a2] h = Rr 50 52 [v0, v1] [.int (y1 - y1 / y0 * y0), .ref a2] h := R_rem (by decide +kernel) c
theorem e50_52 {h : Hp} {v0 : Value} {v1 : Value} {y0 : Int32} {a1 : Nat} (c : Ins a1 h 1) : Rr 50 52 [v0, v1] [.int y0, .ref a1] h = Rr 50 55 [v0, v1] [] (setG h a1 (upd (Gt h a1) 1 y0)) := R_putI (ci := 1) (k := 1) (i := 22) (by decide +kernel) (by decide +kernel) (by decide) c
theorem e50_55 {h : Hp} {v0 : Value} {v1 : Value} : Rr 50 55 [v0, v1] [] h = some (none, h) := R_retV (by decide +kernel) (by decide +kernel)
theorem e51_0 {h : Hp} {r0 : Nat} : Rr 51 0 [.ref r0] [] h = Rr 51 1 [.ref r0] [.ref r0] h := R_step (x := (.aload_n 0, 1)) (by decide +kernel) rfl
theorem e51_1 {h : Hp} {v0 : Value} {a0 : Nat} : Rr 51 1 [v0] [.ref a0] h = Rr 51 4 [v0] [] h := R_obj (i := 1) (by decide +kernel) (by decide +kernel) (Nat.le_of_ble_eq_true rfl)
theorem e51_4 {h : Hp} {r0 : Nat} : Rr 51 4 [.ref r0] [] h = Rr 51 5 [.ref r0] [.ref r0] h := R_step (x := (.aload_n 0, 1)) (by decide +kernel) rfl
theorem e51_5 {h : Hp} {v0 : Value} {a0 : Nat} (c : 1 ≤ h.2.1 ∧ 1 ≤ h.2.2.1) : Rr 51 5 [v0] [.ref a0] h = Rr 51 8 [v0] [.ref (h.1 + 1), .ref a0] (h.1 + 1, h.2.1 - 1, h.2.2.1 - 1, upf h.2.2.2.1 (h.1 + 1) (6, 0, fun _ => none), upf h.2.2.2.2 (h.1 + 1) (fun _ => 0)) := R_new (ci := 4) (i := 7) (by decide +kernel) (by decide +kernel) (by decide +kernel) c
theorem e51_8 {h : Hp} {v0 : Value} {a0 : Nat} {a1 : Nat} : Rr 51 8 [v0] [.ref a0, .ref a1] h = Rr 51 9 [v0] [.ref a0, .ref a0, .ref a1] h := R_step (x := (.dup, 1)) (by decide +kernel) rfl
theorem e51_9 {h : Hp} {v0 : Value} {a0 : Nat} {a1 : Nat} {a2 : Nat} : Rr 51 9 [v0] [.ref a0, .ref a1, .ref a2] h = Rr 51 11 [v0] [.int (nI 16), .ref a0, .ref a1, .ref a2] h := R_step (x := (.bipush 16, 2)) (by decide +kernel) rfl
theorem e51_11 {h : Hp} {v0 : Value} {y0 : Int32} {a1 : Nat} {a2 : Nat} {a3 : Nat} (c8 : 42 ≤ h.2.1 ∧ 6027 ≤ h.2.2.1) : Rr 51 11 [v0] [.int y0, .ref a1, .ref a2, .ref a3] h = (Den 22 [.ref a1, .int y0] (enH 22 h)).bind (fun z => Rr 51 14 [v0] (psh z.1 [.ref a2, .ref a3]) (lvH 22 h z.2)) := R_spe (y := 22) (i := 11) (by decide +kernel) (Or.inl (by decide +kernel)) (by decide +kernel) rfl rfl rfl ⟨Nat.le_of_ble_eq_true rfl, c8⟩
theorem e51_14 {h : Hp} {v0 : Value} {a0 : Nat} {a1 : Nat} (c : Ins a1 h 1) : Rr 51 14 [v0] [.ref a0, .ref a1] h = Rr 51 17 [v0] [] (setS h a1 ((hS h a1).1, (hS h a1).2.1, upf (hS h a1).2.2 0 (some a0))) := R_putR (ci := 1) (k := 0) (i := 14) (by decide +kernel) (by decide +kernel) (by decide) c
theorem e51_17 {h : Hp} {v0 : Value} : Rr 51 17 [v0] [] h = some (none, h) := R_retV (by decide +kernel) (by decide +kernel)
theorem e52_0 {h : Hp} {v1 : Value} {v2 : Value} {r0 : Nat} : Rr 52 0 [.ref r0, v1, v2] [] h = Rr 52 1 [.ref r0, v1, v2] [.ref r0] h := R_step (x := (.aload_n 0, 1)) (by decide +kernel) rfl
theorem e52_1 {h : Hp} {v0 : Value} {v1 : Value} {v2 : Value} {a0 : Nat} : Rr 52 1 [v0, v1, v2] [.ref a0] h = Rr 52 2 [v0, v1, v2] [.ref a0, .ref a0] h := R_step (x := (.dup, 1)) (by decide +kernel) rfl
theorem e52_2 {h : Hp} {v0 : Value} {v1 : Value} {v2 : Value} {a0 : Nat} {a1 : Nat} (c : Ins a0 h 1) : Rr 52 2 [v0, v1, v2] [.ref a0, .ref a1] h = Rr 52 5 [v0, v1, v2] [.int (Gt h a0 2), .ref a1] h := R_getI (ci := 1) (k := 2) (i := 18) (by decide +kernel) (by decide +kernel) (by decide) c
theorem e52_5 {h : Hp} {v0 : Value} {v2 : Value} {y0 : Int32} {a1 : Nat} {x1 : Int32} : Rr 52 5 [v0, .int x1, v2] [.int y0, .ref a1] h = Rr 52 6 [v0, .int x1, v2] [.int x1, .int y0, .ref a1] h := R_step (x := (.iload_n 1, 1)) (by decide +kernel) rfl
theorem e52_6 {h : Hp} {v0 : Value} {v1 : Value} {v2 : Value} {y0 : Int32} {y1 : Int32} {a2 : Nat} : Rr 52 6 [v0, v1, v2] [.int y0, .int y1, .ref a2] h = Rr 52 7 [v0, v1, v2] [.int (y1 - y0), .ref a2] h := R_step (x := (.isub, 1)) (by decide +kernel) rfl
theorem e52_7 {h : Hp} {v0 : Value} {v1 : Value} {v2 : Value} {y0 : Int32} {a1 : Nat} (c : Ins a1 h 1) : Rr 52 7 [v0, v1, v2] [.int y0, .ref a1] h = Rr 52 10 [v0, v1, v2] [] (setG h a1 (upd (Gt h a1) 2 y0)) := R_putI (ci := 1) (k := 2) (i := 18) (by decide +kernel) (by decide +kernel) (by decide) c
theorem e52_10 {h : Hp} {v1 : Value} {v2 : Value} {r0 : Nat} : Rr 52 10 [.ref r0, v1, v2] [] h = Rr 52 11 [.ref r0, v1, v2] [.ref r0] h := R_step (x := (.aload_n 0, 1)) (by decide +kernel) rfl
theorem e52_11 {h : Hp} {v0 : Value} {v1 : Value} {v2 : Value} {a0 : Nat} (c : Ins a0 h 1) : Rr 52 11 [v0, v1, v2] [.ref a0] h = Rr 52 14 [v0, v1, v2] [Rf h a0 0] h := R_getR (ci := 1) (k := 0) (i := 14) (by decide +kernel) (by decide +kernel) (by decide) c
theorem e52_14 {h : Hp} {v1 : Value} {v2 : Value} {a0 : Nat} {r0 : Nat} : Rr 52 14 [.ref r0, v1, v2] [.ref a0] h = Rr 52 15 [.ref r0, v1, v2] [.ref r0, .ref a0] h := R_step (x := (.aload_n 0, 1)) (by decide +kernel) rfl
theorem e52_15 {h : Hp} {v0 : Value} {v1 : Value} {v2 : Value} {a0 : Nat} {a1 : Nat} (c : Ins a0 h 1) : Rr 52 15 [v0, v1, v2] [.ref a0, .ref a1] h = Rr 52 18 [v0, v1, v2] [.int (Gt h a0 1), .ref a1] h := R_getI (ci := 1) (k := 1) (i := 22) (by decide +kernel) (by decide +kernel) (by decide) c
theorem e52_18 {h : Hp} {v1 : Value} {v2 : Value} {y0 : Int32} {a1 : Nat} {r0 : Nat} : Rr 52 18 [.ref r0, v1, v2] [.int y0, .ref a1] h = Rr 52 19 [.ref r0, v1, v2] [.ref r0, .int y0, .ref a1] h := R_step (x := (.aload_n 0, 1)) (by decide +kernel) rfl
theorem e52_19 {h : Hp} {v0 : Value} {v1 : Value} {v2 : Value} {a0 : Nat} {y1 : Int32} {a2 : Nat} (c : Ins a0 h 1) : Rr 52 19 [v0, v1, v2] [.ref a0, .int y1, .ref a2] h = Rr 52 22 [v0, v1, v2] [.int (Gt h a0 2), .int y1, .ref a2] h := R_getI (ci := 1) (k := 2) (i := 18) (by decide +kernel) (by decide +kernel) (by decide) c
theorem e52_22 {h : Hp} {v0 : Value} {v1 : Value} {v2 : Value} {y0 : Int32} {y1 : Int32} {a2 : Nat} : Rr 52 22 [v0, v1, v2] [.int y0, .int y1, .ref a2] h = Rr 52 23 [v0, v1, v2] [.int (y1 + y0), .ref a2] h := R_step (x := (.iadd, 1)) (by decide +kernel) rfl
theorem e52_23 {h : Hp} {v0 : Value} {v1 : Value} {v2 : Value} {y0 : Int32} {a1 : Nat} : Rr 52 23 [v0, v1, v2] [.int y0, .ref a1] h = Rr 52 25 [v0, v1, v2] [.int (nI 16), .int y0, .ref a1] h := R_step (x := (.bipush 16, 2)) (by decide +kernel) rfl
theorem e52_25 {h : Hp} {v0 : Value} {v1 : Value} {v2 : Value} {y0 : Int32} {y1 : Int32} {a2 : Nat} (c : ¬ y0 = 0) : Rr 52 25 [v0, v1, v2] [.int y0, .int y1, .ref a2] h = Rr 52 26 [v0, v1, v2] [.int (y1 - y1 / y0 * y0), .ref a2] h := R_rem (by decide +kernel) c
theorem e52_26 {h : Hp} {v0 : Value} {v1 : Value} {y0 : Int32} {a1 : Nat} {r2 : Nat} : Rr 52 26 [v0, v1, .ref r2] [.int y0, .ref a1] h = Rr 52 27 [v0, v1, .ref r2] [.ref r2, .int y0, .ref a1] h := R_step (x := (.aload_n 2, 1)) (by decide +kernel) rfl
theorem e52_27 {h : Hp} {v0 : Value} {v1 : Value} {v2 : Value} {a0 : Nat} {y1 : Int32} {a2 : Nat} (c : Ins a2 h 4) : Rr 52 27 [v0, v1, v2] [.ref a0, .int y1, .ref a2] h = (Den 24 [.ref a2, .int y1, .ref a0] (enH 24 h)).bind (fun z => Rr 52 30 [v0, v1, v2] (psh z.1 []) (lvH 24 h z.2)) := R_vir (y := 24) (i := 29) (by decide +kernel) (by decide +kernel) (by decide +kernel) rfl rfl c ⟨Nat.le_of_ble_eq_true rfl, Nat.zero_le _, Nat.zero_le _⟩
theorem e52_30 {h : Hp} {v0 : Value} {v1 : Value} {v2 : Value} : Rr 52 30 [v0, v1, v2] [] h = some (none, h) := R_retV (by decide +kernel) (by decide +kernel)
theorem e18_0 {h : Hp} {v0 : Value} {x1 : Int32} : Rr 18 0 [v0, .int x1] [] h = Rr 18 1 [v0, .int x1] [.int x1] h := R_step (x := (.iload_n 1, 1)) (by decide +kernel) rfl
theorem e18_1 {h : Hp} {v0 : Value} {v1 : Value} {y0 : Int32} : Rr 18 1 [v0, v1] [.int y0] h = if y0 < 0 then Rr 18 17 [v0, v1] [] h else Rr 18 4 [v0, v1] [] h := R_br (off := 16) (x := (.ifCond .lt 16, 3)) (by decide +kernel) rfl (by decide) rfl
theorem e18_4 {h : Hp} {v0 : Value} {x1 : Int32} : Rr 18 4 [v0, .int x1] [] h = Rr 18 5 [v0, .int x1] [.int x1] h := R_step (x := (.iload_n 1, 1)) (by decide +kernel) rfl
theorem e18_5 {h : Hp} {v1 : Value} {y0 : Int32} {r0 : Nat} : Rr 18 5 [.ref r0, v1] [.int y0] h = Rr 18 6 [.ref r0, v1] [.ref r0, .int y0] h := R_step (x := (.aload_n 0, 1)) (by decide +kernel) rfl
theorem e18_6 {h : Hp} {v0 : Value} {v1 : Value} {a0 : Nat} {y1 : Int32} (c : Ins a0 h 2) : Rr 18 6 [v0, v1] [.ref a0, .int y1] h = Rr 18 9 [v0, v1] [Rf h a0 1, .int y1] h := R_getR (ci := 2) (k := 1) (i := 20) (by decide +kernel) (by decide +kernel) (by decide) c
theorem e18_9 {h : Hp} {v0 : Value} {v1 : Value} {a0 : Nat} {y1 : Int32} (c : ArL a0 h) : Rr 18 9 [v0, v1] [.ref a0, .int y1] h = Rr 18 10 [v0, v1] [.int (nI (Lng h a0)), .int y1] h := R_len (by decide +kernel) c
theorem e18_10 {h : Hp} {v0 : Value} {v1 : Value} {y0 : Int32} {y1 : Int32} : Rr 18 10 [v0, v1] [.int y0, .int y1] h = if y0 ≤ y1 then Rr 18 17 [v0, v1] [] h else Rr 18 13 [v0, v1] [] h := R_br (off := 7) (x := (.if_icmp .ge 7, 3)) (by decide +kernel) rfl (by decide) rfl
theorem e18_13 {h : Hp} {v0 : Value} {v1 : Value} : Rr 18 13 [v0, v1] [] h = Rr 18 14 [v0, v1] [.int (nI 1)] h := R_step (x := (.iconst 1, 1)) (by decide +kernel) rfl
theorem e18_14 {h : Hp} {v0 : Value} {v1 : Value} {y0 : Int32} : Rr 18 14 [v0, v1] [.int y0] h = Rr 18 18 [v0, v1] [.int y0] h := R_step (x := (.goto 4, 3)) (by decide +kernel) rfl
theorem e18_17 {h : Hp} {v0 : Value} {v1 : Value} : Rr 18 17 [v0, v1] [] h = Rr 18 18 [v0, v1] [.int (nI 0)] h := R_step (x := (.iconst 0, 1)) (by decide +kernel) rfl
theorem e18_18 {h : Hp} {v0 : Value} {v1 : Value} {y0 : Int32} (c : y0 = 0 ∨ y0 = 1) : Rr 18 18 [v0, v1] [.int y0] h = some (some y0, h) := R_retZ (by decide +kernel) (by decide +kernel) c
theorem e53_0 {h : Hp} {r0 : Nat} : Rr 53 0 [.ref r0] [] h = Rr 53 1 [.ref r0] [.ref r0] h := R_step (x := (.aload_n 0, 1)) (by decide +kernel) rfl
theorem e53_1 {h : Hp} {v0 : Value} {a0 : Nat} : Rr 53 1 [v0] [.ref a0] h = Rr 53 4 [v0] [] h := R_obj (i := 3) (by decide +kernel) (by decide +kernel) (Nat.le_of_ble_eq_true rfl)
theorem e53_4 {h : Hp} {r0 : Nat} : Rr 53 4 [.ref r0] [] h = Rr 53 5 [.ref r0] [.ref r0] h := R_step (x := (.aload_n 0, 1)) (by decide +kernel) rfl
theorem e53_5 {h : Hp} {v0 : Value} {a0 : Nat} (c : 1 ≤ h.2.1 ∧ 1 ≤ h.2.2.1) : Rr 53 5 [v0] [.ref a0] h = Rr 53 8 [v0] [.ref (h.1 + 1), .ref a0] (h.1 + 1, h.2.1 - 1, h.2.2.1 - 1, upf h.2.2.2.1 (h.1 + 1) (6, 0, fun _ => none), upf h.2.2.2.2 (h.1 + 1) (fun _ => 0)) := R_new (ci := 4) (i := 9) (by decide +kernel) (by decide +kernel) (by decide +kernel) c
theorem e53_8 {h : Hp} {v0 : Value} {a0 : Nat} {a1 : Nat} : Rr 53 8 [v0] [.ref a0, .ref a1] h = Rr 53 9 [v0] [.ref a0, .ref a0, .ref a1] h := R_step (x := (.dup, 1)) (by decide +kernel) rfl
theorem e53_9 {h : Hp} {v0 : Value} {a0 : Nat} {a1 : Nat} {a2 : Nat} : Rr 53 9 [v0] [.ref a0, .ref a1, .ref a2] h = Rr 53 10 [v0] [.int (nI 2), .ref a0, .ref a1, .ref a2] h := R_step (x := (.iconst 2, 1)) (by decide +kernel) rfl
theorem e53_10 {h : Hp} {v0 : Value} {y0 : Int32} {a1 : Nat} {a2 : Nat} {a3 : Nat} (c8 : 42 ≤ h.2.1 ∧ 6027 ≤ h.2.2.1) : Rr 53 10 [v0] [.int y0, .ref a1, .ref a2, .ref a3] h = (Den 22 [.ref a1, .int y0] (enH 22 h)).bind (fun z => Rr 53 13 [v0] (psh z.1 [.ref a2, .ref a3]) (lvH 22 h z.2)) := R_spe (y := 22) (i := 11) (by decide +kernel) (Or.inl (by decide +kernel)) (by decide +kernel) rfl rfl rfl ⟨Nat.le_of_ble_eq_true rfl, c8⟩
theorem e53_13 {h : Hp} {v0 : Value} {a0 : Nat} {a1 : Nat} (c : Ins a1 h 2) : Rr 53 13 [v0] [.ref a0, .ref a1] h = Rr 53 16 [v0] [] (setS h a1 ((hS h a1).1, (hS h a1).2.1, upf (hS h a1).2.2 0 (some a0))) := R_putR (ci := 2) (k := 0) (i := 14) (by decide +kernel) (by decide +kernel) (by decide) c
theorem e53_16 {h : Hp} {r0 : Nat} : Rr 53 16 [.ref r0] [] h = Rr 53 17 [.ref r0] [.ref r0] h := R_step (x := (.aload_n 0, 1)) (by decide +kernel) rfl
theorem e53_17 {h : Hp} {v0 : Value} {a0 : Nat} : Rr 53 17 [v0] [.ref a0] h = Rr 53 18 [v0] [.int (nI 2), .ref a0] h := R_step (x := (.iconst 2, 1)) (by decide +kernel) rfl
theorem e53_18 {h : Hp} {v0 : Value} {y0 : Int32} {a1 : Nat} (c : ¬ y0 < 0 ∧ 1 ≤ h.2.1 ∧ y0.toNatClampNeg ≤ h.2.2.1 ∧ y0.toNatClampNeg ≤ 100000) : Rr 53 18 [v0] [.int y0, .ref a1] h = Rr 53 20 [v0] [.ref (h.1 + 1), .ref a1] (h.1 + 1, h.2.1 - 1, h.2.2.1 - y0.toNatClampNeg, upf h.2.2.2.1 (h.1 + 1) (0, y0.toNatClampNeg, fun _ => none), upf h.2.2.2.2 (h.1 + 1) (fun _ => 0)) := R_nwa (by decide +kernel) c
theorem e53_20 {h : Hp} {v0 : Value} {a0 : Nat} {a1 : Nat} : Rr 53 20 [v0] [.ref a0, .ref a1] h = Rr 53 21 [v0] [.ref a0, .ref a0, .ref a1] h := R_step (x := (.dup, 1)) (by decide +kernel) rfl
theorem e53_21 {h : Hp} {v0 : Value} {a0 : Nat} {a1 : Nat} {a2 : Nat} : Rr 53 21 [v0] [.ref a0, .ref a1, .ref a2] h = Rr 53 22 [v0] [.int (nI 0), .ref a0, .ref a1, .ref a2] h := R_step (x := (.iconst 0, 1)) (by decide +kernel) rfl
theorem e53_22 {h : Hp} {v0 : Value} {y0 : Int32} {a1 : Nat} {a2 : Nat} {a3 : Nat} : Rr 53 22 [v0] [.int y0, .ref a1, .ref a2, .ref a3] h = Rr 53 23 [v0] [.int ((-1)), .int y0, .ref a1, .ref a2, .ref a3] h := R_step (x := (.iconst (-1), 1)) (by decide +kernel) rfl
theorem e53_23 {h : Hp} {v0 : Value} {y0 : Int32} {y1 : Int32} {a2 : Nat} {a3 : Nat} {a4 : Nat} (c : ArW a2 h) (d : ¬ (y1 < 0 ∨ Lng h a2 ≤ y1.toNatClampNeg)) : Rr 53 23 [v0] [.int y0, .int y1, .ref a2, .ref a3, .ref a4] h = Rr 53 24 [v0] [.ref a3, .ref a4] (setG h a2 (upd (Gt h a2) y1.toNatClampNeg y0)) := R_ias (by decide +kernel) c d
theorem e53_24 {h : Hp} {v0 : Value} {a0 : Nat} {a1 : Nat} : Rr 53 24 [v0] [.ref a0, .ref a1] h = Rr 53 25 [v0] [.ref a0, .ref a0, .ref a1] h := R_step (x := (.dup, 1)) (by decide +kernel) rfl
theorem e53_25 {h : Hp} {v0 : Value} {a0 : Nat} {a1 : Nat} {a2 : Nat} : Rr 53 25 [v0] [.ref a0, .ref a1, .ref a2] h = Rr 53 26 [v0] [.int (nI 1), .ref a0, .ref a1, .ref a2] h := R_step (x := (.iconst 1, 1)) (by decide +kernel) rfl
theorem e53_26 {h : Hp} {v0 : Value} {y0 : Int32} {a1 : Nat} {a2 : Nat} {a3 : Nat} : Rr 53 26 [v0] [.int y0, .ref a1, .ref a2, .ref a3] h = Rr 53 27 [v0] [.int ((-1)), .int y0, .ref a1, .ref a2, .ref a3] h := R_step (x := (.iconst (-1), 1)) (by decide +kernel) rfl
theorem e53_27 {h : Hp} {v0 : Value} {y0 : Int32} {y1 : Int32} {a2 : Nat} {a3 : Nat} {a4 : Nat} (c : ArW a2 h) (d : ¬ (y1 < 0 ∨ Lng h a2 ≤ y1.toNatClampNeg)) : Rr 53 27 [v0] [.int y0, .int y1, .ref a2, .ref a3, .ref a4] h = Rr 53 28 [v0] [.ref a3, .ref a4] (setG h a2 (upd (Gt h a2) y1.toNatClampNeg y0)) := R_ias (by decide +kernel) c d
theorem e53_28 {h : Hp} {v0 : Value} {a0 : Nat} {a1 : Nat} (c : Ins a1 h 2) : Rr 53 28 [v0] [.ref a0, .ref a1] h = Rr 53 31 [v0] [] (setS h a1 ((hS h a1).1, (hS h a1).2.1, upf (hS h a1).2.2 1 (some a0))) := R_putR (ci := 2) (k := 1) (i := 20) (by decide +kernel) (by decide +kernel) (by decide) c
theorem e53_31 {h : Hp} {v0 : Value} : Rr 53 31 [v0] [] h = some (none, h) := R_retV (by decide +kernel) (by decide +kernel)
theorem e54_0 {h : Hp} {v1 : Value} {v2 : Value} {r0 : Nat} : Rr 54 0 [.ref r0, v1, v2] [] h = Rr 54 1 [.ref r0, v1, v2] [.ref r0] h := R_step (x := (.aload_n 0, 1)) (by decide +kernel) rfl
theorem e54_1 {h : Hp} {v0 : Value} {v1 : Value} {v2 : Value} {a0 : Nat} (c : Ins a0 h 2) : Rr 54 1 [v0, v1, v2] [.ref a0] h = Rr 54 4 [v0, v1, v2] [Rf h a0 0] h := R_getR (ci := 2) (k := 0) (i := 14) (by decide +kernel) (by decide +kernel) (by decide) c
theorem e54_4 {h : Hp} {v0 : Value} {v2 : Value} {a0 : Nat} {x1 : Int32} : Rr 54 4 [v0, .int x1, v2] [.ref a0] h = Rr 54 5 [v0, .int x1, v2] [.int x1, .ref a0] h := R_step (x := (.iload_n 1, 1)) (by decide +kernel) rfl
theorem e54_5 {h : Hp} {v0 : Value} {v1 : Value} {y0 : Int32} {a1 : Nat} {r2 : Nat} : Rr 54 5 [v0, v1, .ref r2] [.int y0, .ref a1] h = Rr 54 6 [v0, v1, .ref r2] [.ref r2, .int y0, .ref a1] h := R_step (x := (.aload_n 2, 1)) (by decide +kernel) rfl
theorem e54_6 {h : Hp} {v0 : Value} {v1 : Value} {v2 : Value} {a0 : Nat} {y1 : Int32} {a2 : Nat} (c : Ins a2 h 4) : Rr 54 6 [v0, v1, v2] [.ref a0, .int y1, .ref a2] h = (Den 24 [.ref a2, .int y1, .ref a0] (enH 24 h)).bind (fun z => Rr 54 9 [v0, v1, v2] (psh z.1 []) (lvH 24 h z.2)) := R_vir (y := 24) (i := 36) (by decide +kernel) (by decide +kernel) (by decide +kernel) rfl rfl c ⟨Nat.le_of_ble_eq_true rfl, Nat.zero_le _, Nat.zero_le _⟩
theorem e54_9 {h : Hp} {v0 : Value} {v1 : Value} {v2 : Value} : Rr 54 9 [v0, v1, v2] [] h = some (none, h) := R_retV (by decide +kernel) (by decide +kernel)
theorem e55_0 {h : Hp} {v1 : Value} {r0 : Nat} : Rr 55 0 [.ref r0, v1] [] h = Rr 55 1 [.ref r0, v1] [.ref r0] h := R_step (x := (.aload_n 0, 1)) (by decide +kernel) rfl
theorem e55_1 {h : Hp} {v0 : Value} {a0 : Nat} {x1 : Int32} : Rr 55 1 [v0, .int x1] [.ref a0] h = Rr 55 2 [v0, .int x1] [.int x1, .ref a0] h := R_step (x := (.iload_n 1, 1)) (by decide +kernel) rfl
theorem e55_2 {h : Hp} {v0 : Value} {v1 : Value} {y0 : Int32} {a1 : Nat} (c : Ins a1 h 2) : Rr 55 2 [v0, v1] [.int y0, .ref a1] h = (Den 18 [.ref a1, .int y0] (enH 18 h)).bind (fun z => Rr 55 5 [v0, v1] (psh z.1 []) (lvH 18 h z.2)) := R_vir (y := 18) (i := 28) (by decide +kernel) (by decide +kernel) (by decide +kernel) rfl rfl c ⟨Nat.le_of_ble_eq_true rfl, Nat.zero_le _, Nat.zero_le _⟩
theorem e55_5 {h : Hp} {v0 : Value} {v1 : Value} {y0 : Int32} : Rr 55 5 [v0, v1] [.int y0] h = if y0 = 0 then Rr 55 17 [v0, v1] [] h else Rr 55 8 [v0, v1] [] h := R_br (off := 12) (x := (.ifCond .eq 12, 3)) (by decide +kernel) rfl (by decide) rfl
theorem e55_8 {h : Hp} {v1 : Value} {r0 : Nat} : Rr 55 8 [.ref r0, v1] [] h = Rr 55 9 [.ref r0, v1] [.ref r0] h := R_step (x := (.aload_n 0, 1)) (by decide +kernel) rfl
theorem e55_9 {h : Hp} {v0 : Value} {v1 : Value} {a0 : Nat} (c : Ins a0 h 2) : Rr 55 9 [v0, v1] [.ref a0] h = Rr 55 12 [v0, v1] [Rf h a0 1] h := R_getR (ci := 2) (k := 1) (i := 20) (by decide +kernel) (by decide +kernel) (by decide) c
theorem e55_12 {h : Hp} {v0 : Value} {a0 : Nat} {x1 : Int32} : Rr 55 12 [v0, .int x1] [.ref a0] h = Rr 55 13 [v0, .int x1] [.int x1, .ref a0] h := R_step (x := (.iload_n 1, 1)) (by decide +kernel) rfl
theorem e55_13 {h : Hp} {v0 : Value} {v1 : Value} {y0 : Int32} {a1 : Nat} (c : Arr a1 h) (d : ¬ (y0 < 0 ∨ Lng h a1 ≤ y0.toNatClampNeg)) : Rr 55 13 [v0, v1] [.int y0, .ref a1] h = Rr 55 14 [v0, v1] [.int (Gt h a1 y0.toNatClampNeg)] h := R_ial (by decide +kernel) c d
theorem e55_14 {h : Hp} {v0 : Value} {v1 : Value} {y0 : Int32} : Rr 55 14 [v0, v1] [.int y0] h = Rr 55 18 [v0, v1] [.int y0] h := R_step (x := (.goto 4, 3)) (by decide +kernel) rfl
theorem e55_17 {h : Hp} {v0 : Value} {v1 : Value} : Rr 55 17 [v0, v1] [] h = Rr 55 18 [v0, v1] [.int ((-1))] h := R_step (x := (.iconst (-1), 1)) (by decide +kernel) rfl
theorem e55_18 {h : Hp} {v0 : Value} {v1 : Value} {y0 : Int32} : Rr 55 18 [v0, v1] [.int y0] h = some (some y0, h) := R_retI (by decide +kernel) (by decide +kernel)
theorem e56_0 {h : Hp} {v1 : Value} {v2 : Value} {v3 : Value} {r0 : Nat} : Rr 56 0 [.ref r0, v1, v2, v3] [] h = Rr 56 1 [.ref r0, v1, v2, v3] [.ref r0] h := R_step (x := (.aload_n 0, 1)) (by decide +kernel) rfl
theorem e56_1 {h : Hp} {v0 : Value} {v2 : Value} {v3 : Value} {a0 : Nat} {x1 : Int32} : Rr 56 1 [v0, .int x1, v2, v3] [.ref a0] h = Rr 56 2 [v0, .int x1, v2, v3] [.int x1, .ref a0] h := R_step (x := (.iload_n 1, 1)) (by decide +kernel) rfl
theorem e56_2 {h : Hp} {v0 : Value} {v1 : Value} {v2 : Value} {v3 : Value} {y0 : Int32} {a1 : Nat} (c : Ins a1 h 2) : Rr 56 2 [v0, v1, v2, v3] [.int y0, .ref a1] h = (Den 18 [.ref a1, .int y0] (enH 18 h)).bind (fun z => Rr 56 5 [v0, v1, v2, v3] (psh z.1 []) (lvH 18 h z.2)) := R_vir (y := 18) (i := 28) (by decide +kernel) (by decide +kernel) (by decide +kernel) rfl rfl c ⟨Nat.le_of_ble_eq_true rfl, Nat.zero_le _, Nat.zero_le _⟩
theorem e56_5 {h : Hp} {v0 : Value} {v1 : Value} {v2 : Value} {v3 : Value} {y0 : Int32} : Rr 56 5 [v0, v1, v2, v3] [.int y0] h = if ¬ y0 = 0 then Rr 56 9 [v0, v1, v2, v3] [] h else Rr 56 8 [v0, v1, v2, v3] [] h := R_br (off := 4) (x := (.ifCond .ne 4, 3)) (by decide +kernel) rfl (by decide) rfl
theorem e56_8 {h : Hp} {v0 : Value} {v1 : Value} {v2 : Value} {v3 : Value} : Rr 56 8 [v0, v1, v2, v3] [] h = some (none, h) := R_retV (by decide +kernel) (by decide +kernel)
theorem e56_9 {h : Hp} {v1 : Value} {v2 : Value} {v3 : Value} {r0 : Nat} : Rr 56 9 [.ref r0, v1, v2, v3] [] h = Rr 56 10 [.ref r0, v1, v2, v3] [.ref r0] h := R_step (x := (.aload_n 0, 1)) (by decide +kernel) rfl
theorem e56_10 {h : Hp} {v0 : Value} {v1 : Value} {v2 : Value} {v3 : Value} {a0 : Nat} (c : Ins a0 h 2) : Rr 56 10 [v0, v1, v2, v3] [.ref a0] h = Rr 56 13 [v0, v1, v2, v3] [Rf h a0 0] h := R_getR (ci := 2) (k := 0) (i := 14) (by decide +kernel) (by decide +kernel) (by decide) c
theorem e56_13 {h : Hp} {v0 : Value} {v2 : Value} {v3 : Value} {a0 : Nat} {x1 : Int32} : Rr 56 13 [v0, .int x1, v2, v3] [.ref a0] h = Rr 56 14 [v0, .int x1, v2, v3] [.int x1, .ref a0] h := R_step (x := (.iload_n 1, 1)) (by decide +kernel) rfl
theorem e56_14 {h : Hp} {v0 : Value} {v1 : Value} {v3 : Value} {y0 : Int32} {a1 : Nat} {r2 : Nat} : Rr 56 14 [v0, v1, .ref r2, v3] [.int y0, .ref a1] h = Rr 56 15 [v0, v1, .ref r2, v3] [.ref r2, .int y0, .ref a1] h := R_step (x := (.aload_n 2, 1)) (by decide +kernel) rfl
theorem e56_15 {h : Hp} {v0 : Value} {v1 : Value} {v2 : Value} {v3 : Value} {a0 : Nat} {y1 : Int32} {a2 : Nat} (c : Ins a2 h 4) : Rr 56 15 [v0, v1, v2, v3] [.ref a0, .int y1, .ref a2] h = (Den 23 [.ref a2, .int y1, .ref a0] (enH 23 h)).bind (fun z => Rr 56 18 [v0, v1, v2, v3] (psh z.1 []) (lvH 23 h z.2)) := R_vir (y := 23) (i := 32) (by decide +kernel) (by decide +kernel) (by decide +kernel) rfl rfl c ⟨Nat.le_of_ble_eq_true rfl, Nat.zero_le _, Nat.zero_le _⟩
theorem e56_18 {h : Hp} {v1 : Value} {v2 : Value} {v3 : Value} {r0 : Nat} : Rr 56 18 [.ref r0, v1, v2, v3] [] h = Rr 56 19 [.ref r0, v1, v2, v3] [.ref r0] h := R_step (x := (.aload_n 0, 1)) (by decide +kernel) rfl
theorem e56_19 {h : Hp} {v0 : Value} {v1 : Value} {v2 : Value} {v3 : Value} {a0 : Nat} (c : Ins a0 h 2) : Rr 56 19 [v0, v1, v2, v3] [.ref a0] h = Rr 56 22 [v0, v1, v2, v3] [Rf h a0 1] h := R_getR (ci := 2) (k := 1) (i := 20) (by decide +kernel) (by decide +kernel) (by decide) c
theorem e56_22 {h : Hp} {v0 : Value} {v2 : Value} {v3 : Value} {a0 : Nat} {x1 : Int32} : Rr 56 22 [v0, .int x1, v2, v3] [.ref a0] h = Rr 56 23 [v0, .int x1, v2, v3] [.int x1, .ref a0] h := R_step (x := (.iload_n 1, 1)) (by decide +kernel) rfl
theorem e56_23 {h : Hp} {v0 : Value} {v1 : Value} {v2 : Value} {y0 : Int32} {a1 : Nat} {x3 : Int32} : Rr 56 23 [v0, v1, v2, .int x3] [.int y0, .ref a1] h = Rr 56 24 [v0, v1, v2, .int x3] [.int x3, .int y0, .ref a1] h := R_step (x := (.iload_n 3, 1)) (by decide +kernel) rfl
theorem e56_24 {h : Hp} {v0 : Value} {v1 : Value} {v2 : Value} {v3 : Value} {y0 : Int32} {y1 : Int32} {a2 : Nat} (c : ArW a2 h) (d : ¬ (y1 < 0 ∨ Lng h a2 ≤ y1.toNatClampNeg)) : Rr 56 24 [v0, v1, v2, v3] [.int y0, .int y1, .ref a2] h = Rr 56 25 [v0, v1, v2, v3] [] (setG h a2 (upd (Gt h a2) y1.toNatClampNeg y0)) := R_ias (by decide +kernel) c d
theorem e56_25 {h : Hp} {v0 : Value} {v1 : Value} {v2 : Value} {v3 : Value} : Rr 56 25 [v0, v1, v2, v3] [] h = some (none, h) := R_retV (by decide +kernel) (by decide +kernel)
theorem e96_0 {h : Hp} {v1 : Value} {r0 : Nat} : Rr 96 0 [.ref r0, v1] [] h = Rr 96 1 [.ref r0, v1] [.ref r0] h := R_step (x := (.aload_n 0, 1)) (by decide +kernel) rfl
theorem e96_1 {h : Hp} {v0 : Value} {a0 : Nat} {x1 : Int32} : Rr 96 1 [v0, .int x1] [.ref a0] h = Rr 96 2 [v0, .int x1] [.int x1, .ref a0] h := R_step (x := (.iload_n 1, 1)) (by decide +kernel) rfl
theorem e96_2 {h : Hp} {v0 : Value} {v1 : Value} {y0 : Int32} {a1 : Nat} (c : Ins a1 h 2) : Rr 96 2 [v0, v1] [.int y0, .ref a1] h = (Den 55 [.ref a1, .int y0] (enH 55 h)).bind (fun z => Rr 96 5 [v0, v1] (psh z.1 []) (lvH 55 h z.2)) := R_vir (y := 55) (i := 24) (by decide +kernel) (by decide +kernel) (by decide +kernel) rfl rfl c ⟨Nat.le_of_ble_eq_true rfl, Nat.zero_le _, Nat.zero_le _⟩
theorem e96_5 {h : Hp} {v0 : Value} {v1 : Value} {y0 : Int32} : Rr 96 5 [v0, v1] [.int y0] h = Rr 96 6 [v0, v1] [.int ((-1)), .int y0] h := R_step (x := (.iconst (-1), 1)) (by decide +kernel) rfl
theorem e96_6 {h : Hp} {v0 : Value} {v1 : Value} {y0 : Int32} {y1 : Int32} : Rr 96 6 [v0, v1] [.int y0, .int y1] h = if y1 = y0 then Rr 96 13 [v0, v1] [] h else Rr 96 9 [v0, v1] [] h := R_br (off := 7) (x := (.if_icmp .eq 7, 3)) (by decide +kernel) rfl (by decide) rfl
theorem e96_9 {h : Hp} {v0 : Value} {v1 : Value} : Rr 96 9 [v0, v1] [] h = Rr 96 10 [v0, v1] [.int (nI 1)] h := R_step (x := (.iconst 1, 1)) (by decide +kernel) rfl
theorem e96_10 {h : Hp} {v0 : Value} {v1 : Value} {y0 : Int32} : Rr 96 10 [v0, v1] [.int y0] h = Rr 96 14 [v0, v1] [.int y0] h := R_step (x := (.goto 4, 3)) (by decide +kernel) rfl
theorem e96_13 {h : Hp} {v0 : Value} {v1 : Value} : Rr 96 13 [v0, v1] [] h = Rr 96 14 [v0, v1] [.int (nI 0)] h := R_step (x := (.iconst 0, 1)) (by decide +kernel) rfl
theorem e96_14 {h : Hp} {v0 : Value} {v1 : Value} {y0 : Int32} (c : y0 = 0 ∨ y0 = 1) : Rr 96 14 [v0, v1] [.int y0] h = some (some y0, h) := R_retZ (by decide +kernel) (by decide +kernel) c
theorem e25_0 {h : Hp} {v0 : Value} {x1 : Int32} : Rr 25 0 [v0, .int x1] [] h = Rr 25 1 [v0, .int x1] [.int x1] h := R_step (x := (.iload_n 1, 1)) (by decide +kernel) rfl
theorem e25_1 {h : Hp} {v0 : Value} {v1 : Value} {y0 : Int32} : Rr 25 1 [v0, v1] [.int y0] h = if y0 < 0 then Rr 25 22 [v0, v1] [] h else Rr 25 4 [v0, v1] [] h := R_br (off := 21) (x := (.ifCond .lt 21, 3)) (by decide +kernel) rfl (by decide) rfl
theorem e25_4 {h : Hp} {v0 : Value} {x1 : Int32} : Rr 25 4 [v0, .int x1] [] h = Rr 25 5 [v0, .int x1] [.int x1] h := R_step (x := (.iload_n 1, 1)) (by decide +kernel) rfl
theorem e25_5 {h : Hp} {v1 : Value} {y0 : Int32} {r0 : Nat} : Rr 25 5 [.ref r0, v1] [.int y0] h = Rr 25 6 [.ref r0, v1] [.ref r0, .int y0] h := R_step (x := (.aload_n 0, 1)) (by decide +kernel) rfl
theorem e25_6 {h : Hp} {v0 : Value} {v1 : Value} {a0 : Nat} {y1 : Int32} (c : Ins a0 h 5) : Rr 25 6 [v0, v1] [.ref a0, .int y1] h = Rr 25 9 [v0, v1] [Rf h a0 0, .int y1] h := R_getR (ci := 5) (k := 0) (i := 11) (by decide +kernel) (by decide +kernel) (by decide) c
theorem e25_9 {h : Hp} {v0 : Value} {v1 : Value} {a0 : Nat} {y1 : Int32} (c : ArL a0 h) : Rr 25 9 [v0, v1] [.ref a0, .int y1] h = Rr 25 10 [v0, v1] [.int (nI (Lng h a0)), .int y1] h := R_len (by decide +kernel) c
theorem e25_10 {h : Hp} {v0 : Value} {v1 : Value} {y0 : Int32} {y1 : Int32} : Rr 25 10 [v0, v1] [.int y0, .int y1] h = if y0 ≤ y1 then Rr 25 22 [v0, v1] [] h else Rr 25 13 [v0, v1] [] h := R_br (off := 12) (x := (.if_icmp .ge 12, 3)) (by decide +kernel) rfl (by decide) rfl
theorem e25_13 {h : Hp} {v1 : Value} {r0 : Nat} : Rr 25 13 [.ref r0, v1] [] h = Rr 25 14 [.ref r0, v1] [.ref r0] h := R_step (x := (.aload_n 0, 1)) (by decide +kernel) rfl
theorem e25_14 {h : Hp} {v0 : Value} {v1 : Value} {a0 : Nat} (c : Ins a0 h 5) : Rr 25 14 [v0, v1] [.ref a0] h = Rr 25 17 [v0, v1] [Rf h a0 0] h := R_getR (ci := 5) (k := 0) (i := 11) (by decide +kernel) (by decide +kernel) (by decide) c
theorem e25_17 {h : Hp} {v0 : Value} {a0 : Nat} {x1 : Int32} : Rr 25 17 [v0, .int x1] [.ref a0] h = Rr 25 18 [v0, .int x1] [.int x1, .ref a0] h := R_step (x := (.iload_n 1, 1)) (by decide +kernel) rfl
theorem e25_18 {h : Hp} {v0 : Value} {v1 : Value} {y0 : Int32} {a1 : Nat} (c : Arr a1 h) (d : ¬ (y0 < 0 ∨ Lng h a1 ≤ y0.toNatClampNeg)) : Rr 25 18 [v0, v1] [.int y0, .ref a1] h = Rr 25 19 [v0, v1] [.int (Gt h a1 y0.toNatClampNeg)] h := R_ial (by decide +kernel) c d
theorem e25_19 {h : Hp} {v0 : Value} {v1 : Value} {y0 : Int32} : Rr 25 19 [v0, v1] [.int y0] h = Rr 25 23 [v0, v1] [.int y0] h := R_step (x := (.goto 4, 3)) (by decide +kernel) rfl
theorem e25_22 {h : Hp} {v0 : Value} {v1 : Value} : Rr 25 22 [v0, v1] [] h = Rr 25 23 [v0, v1] [.int (nI 0)] h := R_step (x := (.iconst 0, 1)) (by decide +kernel) rfl
theorem e25_23 {h : Hp} {v0 : Value} {v1 : Value} {y0 : Int32} : Rr 25 23 [v0, v1] [.int y0] h = some (some y0, h) := R_retI (by decide +kernel) (by decide +kernel)
theorem e26_0 {h : Hp} {v0 : Value} {v1 : Value} {v2 : Value} : Rr 26 0 [v0, v1, v2] [] h = Rr 26 2 [v0, v1, v2] [.int (nI 7)] h := R_step (x := (.bipush 7, 2)) (by decide +kernel) rfl
theorem e26_2 {h : Hp} {v0 : Value} {v2 : Value} {y0 : Int32} {x1 : Int32} : Rr 26 2 [v0, .int x1, v2] [.int y0] h = Rr 26 3 [v0, .int x1, v2] [.int x1, .int y0] h := R_step (x := (.iload_n 1, 1)) (by decide +kernel) rfl
theorem e26_3 {h : Hp} {v0 : Value} {v1 : Value} {v2 : Value} {y0 : Int32} {y1 : Int32} : Rr 26 3 [v0, v1, v2] [.int y0, .int y1] h = Rr 26 4 [v0, v1, v2] [.int (y1 + y0)] h := R_step (x := (.iadd, 1)) (by decide +kernel) rfl
theorem e26_4 {h : Hp} {v0 : Value} {v1 : Value} {v2 : Value} {y0 : Int32} : Rr 26 4 [v0, v1, v2] [.int y0] h = Rr 26 5 [v0, v1, .int y0] [] h := R_step (x := (.istore_n 2, 1)) (by decide +kernel) rfl
theorem e26_5 {h : Hp} {v0 : Value} {v1 : Value} {x2 : Int32} : Rr 26 5 [v0, v1, .int x2] [] h = Rr 26 6 [v0, v1, .int x2] [.int x2] h := R_step (x := (.iload_n 2, 1)) (by decide +kernel) rfl
theorem e26_6 {h : Hp} {v0 : Value} {v1 : Value} {v2 : Value} {y0 : Int32} : Rr 26 6 [v0, v1, v2] [.int y0] h = if y0 < 0 then Rr 26 27 [v0, v1, v2] [] h else Rr 26 9 [v0, v1, v2] [] h := R_br (off := 21) (x := (.ifCond .lt 21, 3)) (by decide +kernel) rfl (by decide) rfl
theorem e26_9 {h : Hp} {v0 : Value} {v1 : Value} {x2 : Int32} : Rr 26 9 [v0, v1, .int x2] [] h = Rr 26 10 [v0, v1, .int x2] [.int x2] h := R_step (x := (.iload_n 2, 1)) (by decide +kernel) rfl
theorem e26_10 {h : Hp} {v1 : Value} {v2 : Value} {y0 : Int32} {r0 : Nat} : Rr 26 10 [.ref r0, v1, v2] [.int y0] h = Rr 26 11 [.ref r0, v1, v2] [.ref r0, .int y0] h := R_step (x := (.aload_n 0, 1)) (by decide +kernel) rfl
theorem e26_11 {h : Hp} {v0 : Value} {v1 : Value} {v2 : Value} {a0 : Nat} {y1 : Int32} (c : Ins a0 h 5) : Rr 26 11 [v0, v1, v2] [.ref a0, .int y1] h = Rr 26 14 [v0, v1, v2] [Rf h a0 0, .int y1] h := R_getR (ci := 5) (k := 0) (i := 11) (by decide +kernel) (by decide +kernel) (by decide) c
theorem e26_14 {h : Hp} {v0 : Value} {v1 : Value} {v2 : Value} {a0 : Nat} {y1 : Int32} (c : ArL a0 h) : Rr 26 14 [v0, v1, v2] [.ref a0, .int y1] h = Rr 26 15 [v0, v1, v2] [.int (nI (Lng h a0)), .int y1] h := R_len (by decide +kernel) c
theorem e26_15 {h : Hp} {v0 : Value} {v1 : Value} {v2 : Value} {y0 : Int32} {y1 : Int32} : Rr 26 15 [v0, v1, v2] [.int y0, .int y1] h = if y0 ≤ y1 then Rr 26 27 [v0, v1, v2] [] h else Rr 26 18 [v0, v1, v2] [] h := R_br (off := 12) (x := (.if_icmp .ge 12, 3)) (by decide +kernel) rfl (by decide) rfl
theorem e26_18 {h : Hp} {v1 : Value} {v2 : Value} {r0 : Nat} : Rr 26 18 [.ref r0, v1, v2] [] h = Rr 26 19 [.ref r0, v1, v2] [.ref r0] h := R_step (x := (.aload_n 0, 1)) (by decide +kernel) rfl
theorem e26_19 {h : Hp} {v0 : Value} {v1 : Value} {v2 : Value} {a0 : Nat} (c : Ins a0 h 5) : Rr 26 19 [v0, v1, v2] [.ref a0] h = Rr 26 22 [v0, v1, v2] [Rf h a0 0] h := R_getR (ci := 5) (k := 0) (i := 11) (by decide +kernel) (by decide +kernel) (by decide) c
theorem e26_22 {h : Hp} {v0 : Value} {v1 : Value} {a0 : Nat} {x2 : Int32} : Rr 26 22 [v0, v1, .int x2] [.ref a0] h = Rr 26 23 [v0, v1, .int x2] [.int x2, .ref a0] h := R_step (x := (.iload_n 2, 1)) (by decide +kernel) rfl
theorem e26_23 {h : Hp} {v0 : Value} {v1 : Value} {v2 : Value} {y0 : Int32} {a1 : Nat} (c : Arr a1 h) (d : ¬ (y0 < 0 ∨ Lng h a1 ≤ y0.toNatClampNeg)) : Rr 26 23 [v0, v1, v2] [.int y0, .ref a1] h = Rr 26 24 [v0, v1, v2] [.int (Gt h a1 y0.toNatClampNeg)] h := R_ial (by decide +kernel) c d
theorem e26_24 {h : Hp} {v0 : Value} {v1 : Value} {v2 : Value} {y0 : Int32} : Rr 26 24 [v0, v1, v2] [.int y0] h = Rr 26 28 [v0, v1, v2] [.int y0] h := R_step (x := (.goto 4, 3)) (by decide +kernel) rfl
theorem e26_27 {h : Hp} {v0 : Value} {v1 : Value} {v2 : Value} : Rr 26 27 [v0, v1, v2] [] h = Rr 26 28 [v0, v1, v2] [.int (nI 0)] h := R_step (x := (.iconst 0, 1)) (by decide +kernel) rfl
theorem e26_28 {h : Hp} {v0 : Value} {v1 : Value} {v2 : Value} {y0 : Int32} : Rr 26 28 [v0, v1, v2] [.int y0] h = some (some y0, h) := R_retI (by decide +kernel) (by decide +kernel)
theorem e27_0 {h : Hp} {r0 : Nat} : Rr 27 0 [.ref r0] [] h = Rr 27 1 [.ref r0] [.ref r0] h := R_step (x := (.aload_n 0, 1)) (by decide +kernel) rfl
theorem e27_1 {h : Hp} {v0 : Value} {a0 : Nat} : Rr 27 1 [v0] [.ref a0] h = Rr 27 4 [v0] [] h := R_obj (i := 5) (by decide +kernel) (by decide +kernel) (Nat.le_of_ble_eq_true rfl)
theorem e27_4 {h : Hp} {r0 : Nat} : Rr 27 4 [.ref r0] [] h = Rr 27 5 [.ref r0] [.ref r0] h := R_step (x := (.aload_n 0, 1)) (by decide +kernel) rfl
theorem e27_5 {h : Hp} {v0 : Value} {a0 : Nat} : Rr 27 5 [v0] [.ref a0] h = Rr 27 8 [v0] [.int (nI 146), .ref a0] h := R_step (x := (.sipush 146, 3)) (by decide +kernel) rfl
theorem e27_8 {h : Hp} {v0 : Value} {y0 : Int32} {a1 : Nat} (c : ¬ y0 < 0 ∧ 1 ≤ h.2.1 ∧ y0.toNatClampNeg ≤ h.2.2.1 ∧ y0.toNatClampNeg ≤ 100000) : Rr 27 8 [v0] [.int y0, .ref a1] h = Rr 27 10 [v0] [.ref (h.1 + 1), .ref a1] (h.1 + 1, h.2.1 - 1, h.2.2.1 - y0.toNatClampNeg, upf h.2.2.2.1 (h.1 + 1) (0, y0.toNatClampNeg, fun _ => none), upf h.2.2.2.2 (h.1 + 1) (fun _ => 0)) := R_nwa (by decide +kernel) c
theorem e27_10 {h : Hp} {v0 : Value} {a0 : Nat} {a1 : Nat} (c : Ins a1 h 5) : Rr 27 10 [v0] [.ref a0, .ref a1] h = Rr 27 13 [v0] [] (setS h a1 ((hS h a1).1, (hS h a1).2.1, upf (hS h a1).2.2 0 (some a0))) := R_putR (ci := 5) (k := 0) (i := 11) (by decide +kernel) (by decide +kernel) (by decide) c
theorem e27_13 {h : Hp} {v0 : Value} : Rr 27 13 [v0] [] h = some (none, h) := R_retV (by decide +kernel) (by decide +kernel)
theorem e28_0 {h : Hp} {v0 : Value} {v1 : Value} {v2 : Value} {v3 : Value} : Rr 28 0 [v0, v1, v2, v3] [] h = Rr 28 2 [v0, v1, v2, v3] [.int (nI 51)] h := R_step (x := (.bipush 51, 2)) (by decide +kernel) rfl
theorem e28_2 {h : Hp} {v0 : Value} {v2 : Value} {v3 : Value} {y0 : Int32} {x1 : Int32} : Rr 28 2 [v0, .int x1, v2, v3] [.int y0] h = Rr 28 3 [v0, .int x1, v2, v3] [.int x1, .int y0] h := R_step (x := (.iload_n 1, 1)) (by decide +kernel) rfl
theorem e28_3 {h : Hp} {v0 : Value} {v1 : Value} {v2 : Value} {v3 : Value} {y0 : Int32} {y1 : Int32} : Rr 28 3 [v0, v1, v2, v3] [.int y0, .int y1] h = Rr 28 5 [v0, v1, v2, v3] [.int (nI 19), .int y0, .int y1] h := R_step (x := (.bipush 19, 2)) (by decide +kernel) rfl
theorem e28_5 {h : Hp} {v0 : Value} {v1 : Value} {v2 : Value} {v3 : Value} {y0 : Int32} {y1 : Int32} {y2 : Int32} : Rr 28 5 [v0, v1, v2, v3] [.int y0, .int y1, .int y2] h = Rr 28 6 [v0, v1, v2, v3] [.int (y1 * y0), .int y2] h := R_step (x := (.imul, 1)) (by decide +kernel) rfl
theorem e28_6 {h : Hp} {v0 : Value} {v1 : Value} {v2 : Value} {v3 : Value} {y0 : Int32} {y1 : Int32} : Rr 28 6 [v0, v1, v2, v3] [.int y0, .int y1] h = Rr 28 7 [v0, v1, v2, v3] [.int (y1 + y0)] h := R_step (x := (.iadd, 1)) (by decide +kernel) rfl
theorem e28_7 {h : Hp} {v0 : Value} {v1 : Value} {v3 : Value} {y0 : Int32} {x2 : Int32} : Rr 28 7 [v0, v1, .int x2, v3] [.int y0] h = Rr 28 8 [v0, v1, .int x2, v3] [.int x2, .int y0] h := R_step (x := (.iload_n 2, 1)) (by decide +kernel) rfl
theorem e28_8 {h : Hp} {v0 : Value} {v1 : Value} {v2 : Value} {v3 : Value} {y0 : Int32} {y1 : Int32} : Rr 28 8 [v0, v1, v2, v3] [.int y0, .int y1] h = Rr 28 9 [v0, v1, v2, v3] [.int (y1 + y0)] h := R_step (x := (.iadd, 1)) (by decide +kernel) rfl
theorem e28_9 {h : Hp} {v0 : Value} {v1 : Value} {v2 : Value} {v3 : Value} {y0 : Int32} : Rr 28 9 [v0, v1, v2, v3] [.int y0] h = Rr 28 10 [v0, v1, v2, .int y0] [] h := R_step (x := (.istore_n 3, 1)) (by decide +kernel) rfl
theorem e28_10 {h : Hp} {v0 : Value} {v1 : Value} {v2 : Value} {x3 : Int32} : Rr 28 10 [v0, v1, v2, .int x3] [] h = Rr 28 11 [v0, v1, v2, .int x3] [.int x3] h := R_step (x := (.iload_n 3, 1)) (by decide +kernel) rfl
theorem e28_11 {h : Hp} {v0 : Value} {v1 : Value} {v2 : Value} {v3 : Value} {y0 : Int32} : Rr 28 11 [v0, v1, v2, v3] [.int y0] h = if y0 < 0 then Rr 28 32 [v0, v1, v2, v3] [] h else Rr 28 14 [v0, v1, v2, v3] [] h := R_br (off := 21) (x := (.ifCond .lt 21, 3)) (by decide +kernel) rfl (by decide) rfl
theorem e28_14 {h : Hp} {v0 : Value} {v1 : Value} {v2 : Value} {x3 : Int32} : Rr 28 14 [v0, v1, v2, .int x3] [] h = Rr 28 15 [v0, v1, v2, .int x3] [.int x3] h := R_step (x := (.iload_n 3, 1)) (by decide +kernel) rfl
theorem e28_15 {h : Hp} {v1 : Value} {v2 : Value} {v3 : Value} {y0 : Int32} {r0 : Nat} : Rr 28 15 [.ref r0, v1, v2, v3] [.int y0] h = Rr 28 16 [.ref r0, v1, v2, v3] [.ref r0, .int y0] h := R_step (x := (.aload_n 0, 1)) (by decide +kernel) rfl
theorem e28_16 {h : Hp} {v0 : Value} {v1 : Value} {v2 : Value} {v3 : Value} {a0 : Nat} {y1 : Int32} (c : Ins a0 h 5) : Rr 28 16 [v0, v1, v2, v3] [.ref a0, .int y1] h = Rr 28 19 [v0, v1, v2, v3] [Rf h a0 0, .int y1] h := R_getR (ci := 5) (k := 0) (i := 11) (by decide +kernel) (by decide +kernel) (by decide) c
theorem e28_19 {h : Hp} {v0 : Value} {v1 : Value} {v2 : Value} {v3 : Value} {a0 : Nat} {y1 : Int32} (c : ArL a0 h) : Rr 28 19 [v0, v1, v2, v3] [.ref a0, .int y1] h = Rr 28 20 [v0, v1, v2, v3] [.int (nI (Lng h a0)), .int y1] h := R_len (by decide +kernel) c
theorem e28_20 {h : Hp} {v0 : Value} {v1 : Value} {v2 : Value} {v3 : Value} {y0 : Int32} {y1 : Int32} : Rr 28 20 [v0, v1, v2, v3] [.int y0, .int y1] h = if y0 ≤ y1 then Rr 28 32 [v0, v1, v2, v3] [] h else Rr 28 23 [v0, v1, v2, v3] [] h := R_br (off := 12) (x := (.if_icmp .ge 12, 3)) (by decide +kernel) rfl (by decide) rfl
theorem e28_23 {h : Hp} {v1 : Value} {v2 : Value} {v3 : Value} {r0 : Nat} : Rr 28 23 [.ref r0, v1, v2, v3] [] h = Rr 28 24 [.ref r0, v1, v2, v3] [.ref r0] h := R_step (x := (.aload_n 0, 1)) (by decide +kernel) rfl
theorem e28_24 {h : Hp} {v0 : Value} {v1 : Value} {v2 : Value} {v3 : Value} {a0 : Nat} (c : Ins a0 h 5) : Rr 28 24 [v0, v1, v2, v3] [.ref a0] h = Rr 28 27 [v0, v1, v2, v3] [Rf h a0 0] h := R_getR (ci := 5) (k := 0) (i := 11) (by decide +kernel) (by decide +kernel) (by decide) c
theorem e28_27 {h : Hp} {v0 : Value} {v1 : Value} {v2 : Value} {a0 : Nat} {x3 : Int32} : Rr 28 27 [v0, v1, v2, .int x3] [.ref a0] h = Rr 28 28 [v0, v1, v2, .int x3] [.int x3, .ref a0] h := R_step (x := (.iload_n 3, 1)) (by decide +kernel) rfl
theorem e28_28 {h : Hp} {v0 : Value} {v1 : Value} {v2 : Value} {v3 : Value} {y0 : Int32} {a1 : Nat} (c : Arr a1 h) (d : ¬ (y0 < 0 ∨ Lng h a1 ≤ y0.toNatClampNeg)) : Rr 28 28 [v0, v1, v2, v3] [.int y0, .ref a1] h = Rr 28 29 [v0, v1, v2, v3] [.int (Gt h a1 y0.toNatClampNeg)] h := R_ial (by decide +kernel) c d
theorem e28_29 {h : Hp} {v0 : Value} {v1 : Value} {v2 : Value} {v3 : Value} {y0 : Int32} : Rr 28 29 [v0, v1, v2, v3] [.int y0] h = Rr 28 33 [v0, v1, v2, v3] [.int y0] h := R_step (x := (.goto 4, 3)) (by decide +kernel) rfl
theorem e28_32 {h : Hp} {v0 : Value} {v1 : Value} {v2 : Value} {v3 : Value} : Rr 28 32 [v0, v1, v2, v3] [] h = Rr 28 33 [v0, v1, v2, v3] [.int (nI 0)] h := R_step (x := (.iconst 0, 1)) (by decide +kernel) rfl
theorem e28_33 {h : Hp} {v0 : Value} {v1 : Value} {v2 : Value} {v3 : Value} {y0 : Int32} : Rr 28 33 [v0, v1, v2, v3] [.int y0] h = some (some y0, h) := R_retI (by decide +kernel) (by decide +kernel)
theorem e29_0 {h : Hp} {v0 : Value} {v1 : Value} {v2 : Value} {v3 : Value} : Rr 29 0 [v0, v1, v2, v3] [] h = Rr 29 2 [v0, v1, v2, v3] [.int (nI 16)] h := R_step (x := (.bipush 16, 2)) (by decide +kernel) rfl
theorem e29_2 {h : Hp} {v0 : Value} {v2 : Value} {v3 : Value} {y0 : Int32} {x1 : Int32} : Rr 29 2 [v0, .int x1, v2, v3] [.int y0] h = Rr 29 3 [v0, .int x1, v2, v3] [.int x1, .int y0] h := R_step (x := (.iload_n 1, 1)) (by decide +kernel) rfl
theorem e29_3 {h : Hp} {v0 : Value} {v1 : Value} {v2 : Value} {v3 : Value} {y0 : Int32} {y1 : Int32} : Rr 29 3 [v0, v1, v2, v3] [.int y0, .int y1] h = Rr 29 4 [v0, v1, v2, v3] [.int (nI 5), .int y0, .int y1] h := R_step (x := (.iconst 5, 1)) (by decide +kernel) rfl
theorem e29_4 {h : Hp} {v0 : Value} {v1 : Value} {v2 : Value} {v3 : Value} {y0 : Int32} {y1 : Int32} {y2 : Int32} : Rr 29 4 [v0, v1, v2, v3] [.int y0, .int y1, .int y2] h = Rr 29 5 [v0, v1, v2, v3] [.int (y1 * y0), .int y2] h := R_step (x := (.imul, 1)) (by decide +kernel) rfl
theorem e29_5 {h : Hp} {v0 : Value} {v1 : Value} {v2 : Value} {v3 : Value} {y0 : Int32} {y1 : Int32} : Rr 29 5 [v0, v1, v2, v3] [.int y0, .int y1] h = Rr 29 6 [v0, v1, v2, v3] [.int (y1 + y0)] h := R_step (x := (.iadd, 1)) (by decide +kernel) rfl
theorem e29_6 {h : Hp} {v0 : Value} {v1 : Value} {v3 : Value} {y0 : Int32} {x2 : Int32} : Rr 29 6 [v0, v1, .int x2, v3] [.int y0] h = Rr 29 7 [v0, v1, .int x2, v3] [.int x2, .int y0] h := R_step (x := (.iload_n 2, 1)) (by decide +kernel) rfl
theorem e29_7 {h : Hp} {v0 : Value} {v1 : Value} {v2 : Value} {v3 : Value} {y0 : Int32} {y1 : Int32} : Rr 29 7 [v0, v1, v2, v3] [.int y0, .int y1] h = Rr 29 8 [v0, v1, v2, v3] [.int (y1 + y0)] h := R_step (x := (.iadd, 1)) (by decide +kernel) rfl
theorem e29_8 {h : Hp} {v0 : Value} {v1 : Value} {v2 : Value} {v3 : Value} {y0 : Int32} : Rr 29 8 [v0, v1, v2, v3] [.int y0] h = Rr 29 9 [v0, v1, v2, .int y0] [] h := R_step (x := (.istore_n 3, 1)) (by decide +kernel) rfl
theorem e29_9 {h : Hp} {v0 : Value} {v1 : Value} {v2 : Value} {x3 : Int32} : Rr 29 9 [v0, v1, v2, .int x3] [] h = Rr 29 10 [v0, v1, v2, .int x3] [.int x3] h := R_step (x := (.iload_n 3, 1)) (by decide +kernel) rfl
theorem e29_10 {h : Hp} {v0 : Value} {v1 : Value} {v2 : Value} {v3 : Value} {y0 : Int32} : Rr 29 10 [v0, v1, v2, v3] [.int y0] h = if y0 < 0 then Rr 29 31 [v0, v1, v2, v3] [] h else Rr 29 13 [v0, v1, v2, v3] [] h := R_br (off := 21) (x := (.ifCond .lt 21, 3)) (by decide +kernel) rfl (by decide) rfl
theorem e29_13 {h : Hp} {v0 : Value} {v1 : Value} {v2 : Value} {x3 : Int32} : Rr 29 13 [v0, v1, v2, .int x3] [] h = Rr 29 14 [v0, v1, v2, .int x3] [.int x3] h := R_step (x := (.iload_n 3, 1)) (by decide +kernel) rfl
theorem e29_14 {h : Hp} {v1 : Value} {v2 : Value} {v3 : Value} {y0 : Int32} {r0 : Nat} : Rr 29 14 [.ref r0, v1, v2, v3] [.int y0] h = Rr 29 15 [.ref r0, v1, v2, v3] [.ref r0, .int y0] h := R_step (x := (.aload_n 0, 1)) (by decide +kernel) rfl
theorem e29_15 {h : Hp} {v0 : Value} {v1 : Value} {v2 : Value} {v3 : Value} {a0 : Nat} {y1 : Int32} (c : Ins a0 h 5) : Rr 29 15 [v0, v1, v2, v3] [.ref a0, .int y1] h = Rr 29 18 [v0, v1, v2, v3] [Rf h a0 0, .int y1] h := R_getR (ci := 5) (k := 0) (i := 11) (by decide +kernel) (by decide +kernel) (by decide) c
theorem e29_18 {h : Hp} {v0 : Value} {v1 : Value} {v2 : Value} {v3 : Value} {a0 : Nat} {y1 : Int32} (c : ArL a0 h) : Rr 29 18 [v0, v1, v2, v3] [.ref a0, .int y1] h = Rr 29 19 [v0, v1, v2, v3] [.int (nI (Lng h a0)), .int y1] h := R_len (by decide +kernel) c
theorem e29_19 {h : Hp} {v0 : Value} {v1 : Value} {v2 : Value} {v3 : Value} {y0 : Int32} {y1 : Int32} : Rr 29 19 [v0, v1, v2, v3] [.int y0, .int y1] h = if y0 ≤ y1 then Rr 29 31 [v0, v1, v2, v3] [] h else Rr 29 22 [v0, v1, v2, v3] [] h := R_br (off := 12) (x := (.if_icmp .ge 12, 3)) (by decide +kernel) rfl (by decide) rfl
theorem e29_22 {h : Hp} {v1 : Value} {v2 : Value} {v3 : Value} {r0 : Nat} : Rr 29 22 [.ref r0, v1, v2, v3] [] h = Rr 29 23 [.ref r0, v1, v2, v3] [.ref r0] h := R_step (x := (.aload_n 0, 1)) (by decide +kernel) rfl
theorem e29_23 {h : Hp} {v0 : Value} {v1 : Value} {v2 : Value} {v3 : Value} {a0 : Nat} (c : Ins a0 h 5) : Rr 29 23 [v0, v1, v2, v3] [.ref a0] h = Rr 29 26 [v0, v1, v2, v3] [Rf h a0 0] h := R_getR (ci := 5) (k := 0) (i := 11) (by decide +kernel) (by decide +kernel) (by decide) c
theorem e29_26 {h : Hp} {v0 : Value} {v1 : Value} {v2 : Value} {a0 : Nat} {x3 : Int32} : Rr 29 26 [v0, v1, v2, .int x3] [.ref a0] h = Rr 29 27 [v0, v1, v2, .int x3] [.int x3, .ref a0] h := R_step (x := (.iload_n 3, 1)) (by decide +kernel) rfl
theorem e29_27 {h : Hp} {v0 : Value} {v1 : Value} {v2 : Value} {v3 : Value} {y0 : Int32} {a1 : Nat} (c : Arr a1 h) (d : ¬ (y0 < 0 ∨ Lng h a1 ≤ y0.toNatClampNeg)) : Rr 29 27 [v0, v1, v2, v3] [.int y0, .ref a1] h = Rr 29 28 [v0, v1, v2, v3] [.int (Gt h a1 y0.toNatClampNeg)] h := R_ial (by decide +kernel) c d
theorem e29_28 {h : Hp} {v0 : Value} {v1 : Value} {v2 : Value} {v3 : Value} {y0 : Int32} : Rr 29 28 [v0, v1, v2, v3] [.int y0] h = Rr 29 32 [v0, v1, v2, v3] [.int y0] h := R_step (x := (.goto 4, 3)) (by decide +kernel) rfl
theorem e29_31 {h : Hp} {v0 : Value} {v1 : Value} {v2 : Value} {v3 : Value} : Rr 29 31 [v0, v1, v2, v3] [] h = Rr 29 32 [v0, v1, v2, v3] [.int (nI 0)] h := R_step (x := (.iconst 0, 1)) (by decide +kernel) rfl
theorem e29_32 {h : Hp} {v0 : Value} {v1 : Value} {v2 : Value} {v3 : Value} {y0 : Int32} : Rr 29 32 [v0, v1, v2, v3] [.int y0] h = some (some y0, h) := R_retI (by decide +kernel) (by decide +kernel)
theorem e30_0 {h : Hp} {v0 : Value} {v2 : Value} {x1 : Int32} : Rr 30 0 [v0, .int x1, v2] [] h = Rr 30 1 [v0, .int x1, v2] [.int x1] h := R_step (x := (.iload_n 1, 1)) (by decide +kernel) rfl
theorem e30_1 {h : Hp} {v0 : Value} {v1 : Value} {v2 : Value} {y0 : Int32} : Rr 30 1 [v0, v1, v2] [.int y0] h = if y0 < 0 then Rr 30 20 [v0, v1, v2] [] h else Rr 30 4 [v0, v1, v2] [] h := R_br (off := 19) (x := (.ifCond .lt 19, 3)) (by decide +kernel) rfl (by decide) rfl
theorem e30_4 {h : Hp} {v0 : Value} {v2 : Value} {x1 : Int32} : Rr 30 4 [v0, .int x1, v2] [] h = Rr 30 5 [v0, .int x1, v2] [.int x1] h := R_step (x := (.iload_n 1, 1)) (by decide +kernel) rfl
theorem e30_5 {h : Hp} {v1 : Value} {v2 : Value} {y0 : Int32} {r0 : Nat} : Rr 30 5 [.ref r0, v1, v2] [.int y0] h = Rr 30 6 [.ref r0, v1, v2] [.ref r0, .int y0] h := R_step (x := (.aload_n 0, 1)) (by decide +kernel) rfl
theorem e30_6 {h : Hp} {v0 : Value} {v1 : Value} {v2 : Value} {a0 : Nat} {y1 : Int32} (c : Ins a0 h 5) : Rr 30 6 [v0, v1, v2] [.ref a0, .int y1] h = Rr 30 9 [v0, v1, v2] [Rf h a0 0, .int y1] h := R_getR (ci := 5) (k := 0) (i := 11) (by decide +kernel) (by decide +kernel) (by decide) c
theorem e30_9 {h : Hp} {v0 : Value} {v1 : Value} {v2 : Value} {a0 : Nat} {y1 : Int32} (c : ArL a0 h) : Rr 30 9 [v0, v1, v2] [.ref a0, .int y1] h = Rr 30 10 [v0, v1, v2] [.int (nI (Lng h a0)), .int y1] h := R_len (by decide +kernel) c
theorem e30_10 {h : Hp} {v0 : Value} {v1 : Value} {v2 : Value} {y0 : Int32} {y1 : Int32} : Rr 30 10 [v0, v1, v2] [.int y0, .int y1] h = if y0 ≤ y1 then Rr 30 20 [v0, v1, v2] [] h else Rr 30 13 [v0, v1, v2] [] h := R_br (off := 10) (x := (.if_icmp .ge 10, 3)) (by decide +kernel) rfl (by decide) rfl
theorem e30_13 {h : Hp} {v1 : Value} {v2 : Value} {r0 : Nat} : Rr 30 13 [.ref r0, v1, v2] [] h = Rr 30 14 [.ref r0, v1, v2] [.ref r0] h := R_step (x := (.aload_n 0, 1)) (by decide +kernel) rfl
theorem e30_14 {h : Hp} {v0 : Value} {v1 : Value} {v2 : Value} {a0 : Nat} (c : Ins a0 h 5) : Rr 30 14 [v0, v1, v2] [.ref a0] h = Rr 30 17 [v0, v1, v2] [Rf h a0 0] h := R_getR (ci := 5) (k := 0) (i := 11) (by decide +kernel) (by decide +kernel) (by decide) c
theorem e30_17 {h : Hp} {v0 : Value} {v2 : Value} {a0 : Nat} {x1 : Int32} : Rr 30 17 [v0, .int x1, v2] [.ref a0] h = Rr 30 18 [v0, .int x1, v2] [.int x1, .ref a0] h := R_step (x := (.iload_n 1, 1)) (by decide +kernel) rfl
theorem e30_18 {h : Hp} {v0 : Value} {v1 : Value} {y0 : Int32} {a1 : Nat} {x2 : Int32} : Rr 30 18 [v0, v1, .int x2] [.int y0, .ref a1] h = Rr 30 19 [v0, v1, .int x2] [.int x2, .int y0, .ref a1] h := R_step (x := (.iload_n 2, 1)) (by decide +kernel) rfl
theorem e30_19 {h : Hp} {v0 : Value} {v1 : Value} {v2 : Value} {y0 : Int32} {y1 : Int32} {a2 : Nat} (c : ArW a2 h) (d : ¬ (y1 < 0 ∨ Lng h a2 ≤ y1.toNatClampNeg)) : Rr 30 19 [v0, v1, v2] [.int y0, .int y1, .ref a2] h = Rr 30 20 [v0, v1, v2] [] (setG h a2 (upd (Gt h a2) y1.toNatClampNeg y0)) := R_ias (by decide +kernel) c d
theorem e30_20 {h : Hp} {v0 : Value} {v1 : Value} {v2 : Value} : Rr 30 20 [v0, v1, v2] [] h = some (none, h) := R_retV (by decide +kernel) (by decide +kernel)
theorem e63_0 {h : Hp} {r0 : Nat} : Rr 63 0 [.ref r0] [] h = Rr 63 1 [.ref r0] [.ref r0] h := R_step (x := (.aload_n 0, 1)) (by decide +kernel) rfl
theorem e63_1 {h : Hp} {v0 : Value} {a0 : Nat} : Rr 63 1 [v0] [.ref a0] h = Rr 63 3 [v0] [.int (nI 6), .ref a0] h := R_step (x := (.bipush 6, 2)) (by decide +kernel) rfl
theorem e63_3 {h : Hp} {v0 : Value} {y0 : Int32} {a1 : Nat} (c : Ins a1 h 5) : Rr 63 3 [v0] [.int y0, .ref a1] h = (Den 25 [.ref a1, .int y0] (enH 25 h)).bind (fun z => Rr 63 6 [v0] (psh z.1 []) (lvH 25 h z.2)) := R_vir (y := 25) (i := 23) (by decide +kernel) (by decide +kernel) (by decide +kernel) rfl rfl c ⟨Nat.le_of_ble_eq_true rfl, Nat.zero_le _, Nat.zero_le _⟩
theorem e63_6 {h : Hp} {v0 : Value} {y0 : Int32} : Rr 63 6 [v0] [.int y0] h = Rr 63 8 [v0] [.int (nI 7), .int y0] h := R_step (x := (.bipush 7, 2)) (by decide +kernel) rfl
theorem e63_8 {h : Hp} {v0 : Value} {y0 : Int32} {y1 : Int32} : Rr 63 8 [v0] [.int y0, .int y1] h = if y0 ≤ y1 then Rr 63 15 [v0] [] h else Rr 63 11 [v0] [] h := R_br (off := 7) (x := (.if_icmp .ge 7, 3)) (by decide +kernel) rfl (by decide) rfl
theorem e63_11 {h : Hp} {v0 : Value} : Rr 63 11 [v0] [] h = Rr 63 12 [v0] [.int (nI 1)] h := R_step (x := (.iconst 1, 1)) (by decide +kernel) rfl
theorem e63_12 {h : Hp} {v0 : Value} {y0 : Int32} : Rr 63 12 [v0] [.int y0] h = Rr 63 16 [v0] [.int y0] h := R_step (x := (.goto 4, 3)) (by decide +kernel) rfl
theorem e63_15 {h : Hp} {v0 : Value} : Rr 63 15 [v0] [] h = Rr 63 16 [v0] [.int (nI 0)] h := R_step (x := (.iconst 0, 1)) (by decide +kernel) rfl
theorem e63_16 {h : Hp} {v0 : Value} {y0 : Int32} (c : y0 = 0 ∨ y0 = 1) : Rr 63 16 [v0] [.int y0] h = some (some y0, h) := R_retZ (by decide +kernel) (by decide +kernel) c
theorem e64_0 {h : Hp} {v1 : Value} {v2 : Value} {r0 : Nat} : Rr 64 0 [.ref r0, v1, v2] [] h = Rr 64 1 [.ref r0, v1, v2] [.ref r0] h := R_step (x := (.aload_n 0, 1)) (by decide +kernel) rfl
theorem e64_1 {h : Hp} {v0 : Value} {v1 : Value} {v2 : Value} {a0 : Nat} : Rr 64 1 [v0, v1, v2] [.ref a0] h = Rr 64 3 [v0, v1, v2] [.int (nI 7), .ref a0] h := R_step (x := (.bipush 7, 2)) (by decide +kernel) rfl
theorem e64_3 {h : Hp} {v0 : Value} {v2 : Value} {y0 : Int32} {a1 : Nat} {x1 : Int32} : Rr 64 3 [v0, .int x1, v2] [.int y0, .ref a1] h = Rr 64 4 [v0, .int x1, v2] [.int x1, .int y0, .ref a1] h := R_step (x := (.iload_n 1, 1)) (by decide +kernel) rfl
theorem e64_4 {h : Hp} {v0 : Value} {v1 : Value} {v2 : Value} {y0 : Int32} {y1 : Int32} {a2 : Nat} : Rr 64 4 [v0, v1, v2] [.int y0, .int y1, .ref a2] h = Rr 64 5 [v0, v1, v2] [.int (y1 + y0), .ref a2] h := R_step (x := (.iadd, 1)) (by decide +kernel) rfl
theorem e64_5 {h : Hp} {v0 : Value} {v1 : Value} {y0 : Int32} {a1 : Nat} {x2 : Int32} : Rr 64 5 [v0, v1, .int x2] [.int y0, .ref a1] h = Rr 64 6 [v0, v1, .int x2] [.int x2, .int y0, .ref a1] h := R_step (x := (.iload_n 2, 1)) (by decide +kernel) rfl
theorem e64_6 {h : Hp} {v0 : Value} {v1 : Value} {v2 : Value} {y0 : Int32} {y1 : Int32} {a2 : Nat} (c : Ins a2 h 5) : Rr 64 6 [v0, v1, v2] [.int y0, .int y1, .ref a2] h = (Den 30 [.ref a2, .int y1, .int y0] (enH 30 h)).bind (fun z => Rr 64 9 [v0, v1, v2] (psh z.1 []) (lvH 30 h z.2)) := R_vir (y := 30) (i := 15) (by decide +kernel) (by decide +kernel) (by decide +kernel) rfl rfl c ⟨Nat.le_of_ble_eq_true rfl, Nat.zero_le _, Nat.zero_le _⟩
theorem e64_9 {h : Hp} {v0 : Value} {v1 : Value} {v2 : Value} : Rr 64 9 [v0, v1, v2] [] h = some (none, h) := R_retV (by decide +kernel) (by decide +kernel)
theorem e65_0 {h : Hp} {r0 : Nat} : Rr 65 0 [.ref r0] [] h = Rr 65 1 [.ref r0] [.ref r0] h := R_step (x := (.aload_n 0, 1)) (by decide +kernel) rfl
theorem e65_1 {h : Hp} {v0 : Value} {a0 : Nat} : Rr 65 1 [v0] [.ref a0] h = Rr 65 2 [v0] [.int (nI 1), .ref a0] h := R_step (x := (.iconst 1, 1)) (by decide +kernel) rfl
theorem e65_2 {h : Hp} {v0 : Value} {y0 : Int32} {a1 : Nat} (c : Ins a1 h 5) : Rr 65 2 [v0] [.int y0, .ref a1] h = (Den 25 [.ref a1, .int y0] (enH 25 h)).bind (fun z => Rr 65 5 [v0] (psh z.1 []) (lvH 25 h z.2)) := R_vir (y := 25) (i := 23) (by decide +kernel) (by decide +kernel) (by decide +kernel) rfl rfl c ⟨Nat.le_of_ble_eq_true rfl, Nat.zero_le _, Nat.zero_le _⟩
theorem e65_5 {h : Hp} {v0 : Value} {y0 : Int32} : Rr 65 5 [v0] [.int y0] h = Rr 65 6 [v0] [.int (nI 1), .int y0] h := R_step (x := (.iconst 1, 1)) (by decide +kernel) rfl
theorem e65_6 {h : Hp} {v0 : Value} {y0 : Int32} {y1 : Int32} : Rr 65 6 [v0] [.int y0, .int y1] h = if ¬ y1 = y0 then Rr 65 13 [v0] [] h else Rr 65 9 [v0] [] h := R_br (off := 7) (x := (.if_icmp .ne 7, 3)) (by decide +kernel) rfl (by decide) rfl
theorem e65_9 {h : Hp} {v0 : Value} : Rr 65 9 [v0] [] h = Rr 65 10 [v0] [.int (nI 1)] h := R_step (x := (.iconst 1, 1)) (by decide +kernel) rfl
theorem e65_10 {h : Hp} {v0 : Value} {y0 : Int32} : Rr 65 10 [v0] [.int y0] h = Rr 65 14 [v0] [.int y0] h := R_step (x := (.goto 4, 3)) (by decide +kernel) rfl
theorem e65_13 {h : Hp} {v0 : Value} : Rr 65 13 [v0] [] h = Rr 65 14 [v0] [.int (nI 0)] h := R_step (x := (.iconst 0, 1)) (by decide +kernel) rfl
theorem e65_14 {h : Hp} {v0 : Value} {y0 : Int32} (c : y0 = 0 ∨ y0 = 1) : Rr 65 14 [v0] [.int y0] h = some (some y0, h) := R_retZ (by decide +kernel) (by decide +kernel) c
theorem e66_0 {h : Hp} {v1 : Value} {r0 : Nat} : Rr 66 0 [.ref r0, v1] [] h = Rr 66 1 [.ref r0, v1] [.ref r0] h := R_step (x := (.aload_n 0, 1)) (by decide +kernel) rfl
theorem e66_1 {h : Hp} {v0 : Value} {a0 : Nat} {x1 : Int32} : Rr 66 1 [v0, .int x1] [.ref a0] h = Rr 66 2 [v0, .int x1] [.int x1, .ref a0] h := R_step (x := (.iload_n 1, 1)) (by decide +kernel) rfl
theorem e66_2 {h : Hp} {v0 : Value} {v1 : Value} {y0 : Int32} {a1 : Nat} : Rr 66 2 [v0, v1] [.int y0, .ref a1] h = Rr 66 3 [v0, v1] [.int (nI 0), .int y0, .ref a1] h := R_step (x := (.iconst 0, 1)) (by decide +kernel) rfl
theorem e66_3 {h : Hp} {v0 : Value} {v1 : Value} {y0 : Int32} {y1 : Int32} {a2 : Nat} (c : Ins a2 h 5) : Rr 66 3 [v0, v1] [.int y0, .int y1, .ref a2] h = (Den 28 [.ref a2, .int y1, .int y0] (enH 28 h)).bind (fun z => Rr 66 6 [v0, v1] (psh z.1 []) (lvH 28 h z.2)) := R_vir (y := 28) (i := 34) (by decide +kernel) (by decide +kernel) (by decide +kernel) rfl rfl c ⟨Nat.le_of_ble_eq_true rfl, Nat.zero_le _, Nat.zero_le _⟩
theorem e66_6 {h : Hp} {v0 : Value} {v1 : Value} {y0 : Int32} : Rr 66 6 [v0, v1] [.int y0] h = Rr 66 7 [v0, v1] [.int ((-1)), .int y0] h := R_step (x := (.iconst (-1), 1)) (by decide +kernel) rfl
theorem e66_7 {h : Hp} {v0 : Value} {v1 : Value} {y0 : Int32} {y1 : Int32} : Rr 66 7 [v0, v1] [.int y0, .int y1] h = if y1 = y0 then Rr 66 14 [v0, v1] [] h else Rr 66 10 [v0, v1] [] h := R_br (off := 7) (x := (.if_icmp .eq 7, 3)) (by decide +kernel) rfl (by decide) rfl
theorem e66_10 {h : Hp} {v0 : Value} {v1 : Value} : Rr 66 10 [v0, v1] [] h = Rr 66 11 [v0, v1] [.int (nI 1)] h := R_step (x := (.iconst 1, 1)) (by decide +kernel) rfl
theorem e66_11 {h : Hp} {v0 : Value} {v1 : Value} {y0 : Int32} : Rr 66 11 [v0, v1] [.int y0] h = Rr 66 15 [v0, v1] [.int y0] h := R_step (x := (.goto 4, 3)) (by decide +kernel) rfl
theorem e66_14 {h : Hp} {v0 : Value} {v1 : Value} : Rr 66 14 [v0, v1] [] h = Rr 66 15 [v0, v1] [.int (nI 0)] h := R_step (x := (.iconst 0, 1)) (by decide +kernel) rfl
theorem e66_15 {h : Hp} {v0 : Value} {v1 : Value} {y0 : Int32} (c : y0 = 0 ∨ y0 = 1) : Rr 66 15 [v0, v1] [.int y0] h = some (some y0, h) := R_retZ (by decide +kernel) (by decide +kernel) c
theorem e67_0 {h : Hp} {v0 : Value} {x1 : Int32} : Rr 67 0 [v0, .int x1] [] h = Rr 67 1 [v0, .int x1] [.int x1] h := R_step (x := (.iload_n 1, 1)) (by decide +kernel) rfl
theorem e67_1 {h : Hp} {v1 : Value} {y0 : Int32} {r0 : Nat} : Rr 67 1 [.ref r0, v1] [.int y0] h = Rr 67 2 [.ref r0, v1] [.ref r0, .int y0] h := R_step (x := (.aload_n 0, 1)) (by decide +kernel) rfl
theorem e67_2 {h : Hp} {v0 : Value} {v1 : Value} {a0 : Nat} {y1 : Int32} : Rr 67 2 [v0, v1] [.ref a0, .int y1] h = Rr 67 3 [v0, v1] [.int (nI 0), .ref a0, .int y1] h := R_step (x := (.iconst 0, 1)) (by decide +kernel) rfl
theorem e67_3 {h : Hp} {v0 : Value} {v1 : Value} {y0 : Int32} {a1 : Nat} {y2 : Int32} (c : Ins a1 h 5) : Rr 67 3 [v0, v1] [.int y0, .ref a1, .int y2] h = (Den 25 [.ref a1, .int y0] (enH 25 h)).bind (fun z => Rr 67 6 [v0, v1] (psh z.1 [.int y2]) (lvH 25 h z.2)) := R_vir (y := 25) (i := 23) (by decide +kernel) (by decide +kernel) (by decide +kernel) rfl rfl c ⟨Nat.le_of_ble_eq_true rfl, Nat.zero_le _, Nat.zero_le _⟩
theorem e67_6 {h : Hp} {v0 : Value} {v1 : Value} {y0 : Int32} {y1 : Int32} : Rr 67 6 [v0, v1] [.int y0, .int y1] h = Rr 67 7 [v0, v1] [.int (nI 5), .int y0, .int y1] h := R_step (x := (.iconst 5, 1)) (by decide +kernel) rfl
theorem e67_7 {h : Hp} {v0 : Value} {v1 : Value} {y0 : Int32} {y1 : Int32} {y2 : Int32} : Rr 67 7 [v0, v1] [.int y0, .int y1, .int y2] h = if ¬ y1 = y0 then Rr 67 14 [v0, v1] [.int y2] h else Rr 67 10 [v0, v1] [.int y2] h := R_br (off := 7) (x := (.if_icmp .ne 7, 3)) (by decide +kernel) rfl (by decide) rfl
theorem e67_10 {h : Hp} {v0 : Value} {v1 : Value} {y0 : Int32} : Rr 67 10 [v0, v1] [.int y0] h = Rr 67 11 [v0, v1] [.int (nI 2), .int y0] h := R_step (x := (.iconst 2, 1)) (by decide +kernel) rfl
theorem e67_11 {h : Hp} {v0 : Value} {v1 : Value} {y0 : Int32} {y1 : Int32} : Rr 67 11 [v0, v1] [.int y0, .int y1] h = Rr 67 15 [v0, v1] [.int y0, .int y1] h := R_step (x := (.goto 4, 3)) (by decide +kernel) rfl
theorem e67_14 {h : Hp} {v0 : Value} {v1 : Value} {y0 : Int32} : Rr 67 14 [v0, v1] [.int y0] h = Rr 67 15 [v0, v1] [.int (nI 1), .int y0] h := R_step (x := (.iconst 1, 1)) (by decide +kernel) rfl
theorem e67_15 {h : Hp} {v0 : Value} {v1 : Value} {y0 : Int32} {y1 : Int32} : Rr 67 15 [v0, v1] [.int y0, .int y1] h = if y0 ≤ y1 then Rr 67 22 [v0, v1] [] h else Rr 67 18 [v0, v1] [] h := R_br (off := 7) (x := (.if_icmp .ge 7, 3)) (by decide +kernel) rfl (by decide) rfl
theorem e67_18 {h : Hp} {v0 : Value} {v1 : Value} : Rr 67 18 [v0, v1] [] h = Rr 67 19 [v0, v1] [.int (nI 1)] h := R_step (x := (.iconst 1, 1)) (by decide +kernel) rfl
theorem e67_19 {h : Hp} {v0 : Value} {v1 : Value} {y0 : Int32} : Rr 67 19 [v0, v1] [.int y0] h = Rr 67 23 [v0, v1] [.int y0] h := R_step (x := (.goto 4, 3)) (by decide +kernel) rfl
theorem e67_22 {h : Hp} {v0 : Value} {v1 : Value} : Rr 67 22 [v0, v1] [] h = Rr 67 23 [v0, v1] [.int (nI 0)] h := R_step (x := (.iconst 0, 1)) (by decide +kernel) rfl
theorem e67_23 {h : Hp} {v0 : Value} {v1 : Value} {y0 : Int32} (c : y0 = 0 ∨ y0 = 1) : Rr 67 23 [v0, v1] [.int y0] h = some (some y0, h) := R_retZ (by decide +kernel) (by decide +kernel) c
theorem e68_0 {h : Hp} {v1 : Value} {v2 : Value} {v3 : Value} {r0 : Nat} : Rr 68 0 [.ref r0, v1, v2, v3] [] h = Rr 68 1 [.ref r0, v1, v2, v3] [.ref r0] h := R_step (x := (.aload_n 0, 1)) (by decide +kernel) rfl
theorem e68_1 {h : Hp} {v0 : Value} {v1 : Value} {v2 : Value} {v3 : Value} {a0 : Nat} : Rr 68 1 [v0, v1, v2, v3] [.ref a0] h = Rr 68 3 [v0, v1, v2, v3] [.int (nI 51), .ref a0] h := R_step (x := (.bipush 51, 2)) (by decide +kernel) rfl
theorem e68_3 {h : Hp} {v0 : Value} {v2 : Value} {v3 : Value} {y0 : Int32} {a1 : Nat} {x1 : Int32} : Rr 68 3 [v0, .int x1, v2, v3] [.int y0, .ref a1] h = Rr 68 4 [v0, .int x1, v2, v3] [.int x1, .int y0, .ref a1] h := R_step (x := (.iload_n 1, 1)) (by decide +kernel) rfl
theorem e68_4 {h : Hp} {v0 : Value} {v1 : Value} {v2 : Value} {v3 : Value} {y0 : Int32} {y1 : Int32} {a2 : Nat} : Rr 68 4 [v0, v1, v2, v3] [.int y0, .int y1, .ref a2] h = Rr 68 6 [v0, v1, v2, v3] [.int (nI 19), .int y0, .int y1, .ref a2] h := R_step (x := (.bipush 19, 2)) (by decide +kernel) rfl
theorem e68_6 {h : Hp} {v0 : Value} {v1 : Value} {v2 : Value} {v3 : Value} {y0 : Int32} {y1 : Int32} {y2 : Int32} {a3 : Nat} : Rr 68 6 [v0, v1, v2, v3] [.int y0, .int y1, .int y2, .ref a3] h = Rr 68 7 [v0, v1, v2, v3] [.int (y1 * y0), .int y2, .ref a3] h := R_step (x := (.imul, 1)) (by decide +kernel) rfl
theorem e68_7 {h : Hp} {v0 : Value} {v1 : Value} {v2 : Value} {v3 : Value} {y0 : Int32} {y1 : Int32} {a2 : Nat} : Rr 68 7 [v0, v1, v2, v3] [.int y0, .int y1, .ref a2] h = Rr 68 8 [v0, v1, v2, v3] [.int (y1 + y0), .ref a2] h := R_step (x := (.iadd, 1)) (by decide +kernel) rfl
theorem e68_8 {h : Hp} {v0 : Value} {v1 : Value} {v3 : Value} {y0 : Int32} {a1 : Nat} {x2 : Int32} : Rr 68 8 [v0, v1, .int x2, v3] [.int y0, .ref a1] h = Rr 68 9 [v0, v1, .int x2, v3] [.int x2, .int y0, .ref a1] h := R_step (x := (.iload_n 2, 1)) (by decide +kernel) rfl
theorem e68_9 {h : Hp} {v0 : Value} {v1 : Value} {v2 : Value} {v3 : Value} {y0 : Int32} {y1 : Int32} {a2 : Nat} : Rr 68 9 [v0, v1, v2, v3] [.int y0, .int y1, .ref a2] h = Rr 68 10 [v0, v1, v2, v3] [.int (y1 + y0), .ref a2] h := R_step (x := (.iadd, 1)) (by decide +kernel) rfl
theorem e68_10 {h : Hp} {v0 : Value} {v1 : Value} {v2 : Value} {y0 : Int32} {a1 : Nat} {x3 : Int32} : Rr 68 10 [v0, v1, v2, .int x3] [.int y0, .ref a1] h = Rr 68 11 [v0, v1, v2, .int x3] [.int x3, .int y0, .ref a1] h := R_step (x := (.iload_n 3, 1)) (by decide +kernel) rfl
theorem e68_11 {h : Hp} {v0 : Value} {v1 : Value} {v2 : Value} {v3 : Value} {y0 : Int32} {y1 : Int32} {a2 : Nat} (c : Ins a2 h 5) : Rr 68 11 [v0, v1, v2, v3] [.int y0, .int y1, .ref a2] h = (Den 30 [.ref a2, .int y1, .int y0] (enH 30 h)).bind (fun z => Rr 68 14 [v0, v1, v2, v3] (psh z.1 []) (lvH 30 h z.2)) := R_vir (y := 30) (i := 15) (by decide +kernel) (by decide +kernel) (by decide +kernel) rfl rfl c ⟨Nat.le_of_ble_eq_true rfl, Nat.zero_le _, Nat.zero_le _⟩
theorem e68_14 {h : Hp} {v0 : Value} {v1 : Value} {v2 : Value} {v3 : Value} : Rr 68 14 [v0, v1, v2, v3] [] h = some (none, h) := R_retV (by decide +kernel) (by decide +kernel)
theorem e69_0 {h : Hp} {v1 : Value} {v2 : Value} {v3 : Value} {r0 : Nat} : Rr 69 0 [.ref r0, v1, v2, v3] [] h = Rr 69 1 [.ref r0, v1, v2, v3] [.ref r0] h := R_step (x := (.aload_n 0, 1)) (by decide +kernel) rfl
theorem e69_1 {h : Hp} {v0 : Value} {v1 : Value} {v2 : Value} {v3 : Value} {a0 : Nat} : Rr 69 1 [v0, v1, v2, v3] [.ref a0] h = Rr 69 3 [v0, v1, v2, v3] [.int (nI 16), .ref a0] h := R_step (x := (.bipush 16, 2)) (by decide +kernel) rfl
theorem e69_3 {h : Hp} {v0 : Value} {v2 : Value} {v3 : Value} {y0 : Int32} {a1 : Nat} {x1 : Int32} : Rr 69 3 [v0, .int x1, v2, v3] [.int y0, .ref a1] h = Rr 69 4 [v0, .int x1, v2, v3] [.int x1, .int y0, .ref a1] h := R_step (x := (.iload_n 1, 1)) (by decide +kernel) rfl
theorem e69_4 {h : Hp} {v0 : Value} {v1 : Value} {v2 : Value} {v3 : Value} {y0 : Int32} {y1 : Int32} {a2 : Nat} : Rr 69 4 [v0, v1, v2, v3] [.int y0, .int y1, .ref a2] h = Rr 69 5 [v0, v1, v2, v3] [.int (nI 5), .int y0, .int y1, .ref a2] h := R_step (x := (.iconst 5, 1)) (by decide +kernel) rfl
theorem e69_5 {h : Hp} {v0 : Value} {v1 : Value} {v2 : Value} {v3 : Value} {y0 : Int32} {y1 : Int32} {y2 : Int32} {a3 : Nat} : Rr 69 5 [v0, v1, v2, v3] [.int y0, .int y1, .int y2, .ref a3] h = Rr 69 6 [v0, v1, v2, v3] [.int (y1 * y0), .int y2, .ref a3] h := R_step (x := (.imul, 1)) (by decide +kernel) rfl
theorem e69_6 {h : Hp} {v0 : Value} {v1 : Value} {v2 : Value} {v3 : Value} {y0 : Int32} {y1 : Int32} {a2 : Nat} : Rr 69 6 [v0, v1, v2, v3] [.int y0, .int y1, .ref a2] h = Rr 69 7 [v0, v1, v2, v3] [.int (y1 + y0), .ref a2] h := R_step (x := (.iadd, 1)) (by decide +kernel) rfl
theorem e69_7 {h : Hp} {v0 : Value} {v1 : Value} {v3 : Value} {y0 : Int32} {a1 : Nat} {x2 : Int32} : Rr 69 7 [v0, v1, .int x2, v3] [.int y0, .ref a1] h = Rr 69 8 [v0, v1, .int x2, v3] [.int x2, .int y0, .ref a1] h := R_step (x := (.iload_n 2, 1)) (by decide +kernel) rfl
theorem e69_8 {h : Hp} {v0 : Value} {v1 : Value} {v2 : Value} {v3 : Value} {y0 : Int32} {y1 : Int32} {a2 : Nat} : Rr 69 8 [v0, v1, v2, v3] [.int y0, .int y1, .ref a2] h = Rr 69 9 [v0, v1, v2, v3] [.int (y1 + y0), .ref a2] h := R_step (x := (.iadd, 1)) (by decide +kernel) rfl
theorem e69_9 {h : Hp} {v0 : Value} {v1 : Value} {v2 : Value} {y0 : Int32} {a1 : Nat} {x3 : Int32} : Rr 69 9 [v0, v1, v2, .int x3] [.int y0, .ref a1] h = Rr 69 10 [v0, v1, v2, .int x3] [.int x3, .int y0, .ref a1] h := R_step (x := (.iload_n 3, 1)) (by decide +kernel) rfl
theorem e69_10 {h : Hp} {v0 : Value} {v1 : Value} {v2 : Value} {v3 : Value} {y0 : Int32} {y1 : Int32} {a2 : Nat} (c : Ins a2 h 5) : Rr 69 10 [v0, v1, v2, v3] [.int y0, .int y1, .ref a2] h = (Den 30 [.ref a2, .int y1, .int y0] (enH 30 h)).bind (fun z => Rr 69 13 [v0, v1, v2, v3] (psh z.1 []) (lvH 30 h z.2)) := R_vir (y := 30) (i := 15) (by decide +kernel) (by decide +kernel) (by decide +kernel) rfl rfl c ⟨Nat.le_of_ble_eq_true rfl, Nat.zero_le _, Nat.zero_le _⟩
theorem e69_13 {h : Hp} {v0 : Value} {v1 : Value} {v2 : Value} {v3 : Value} : Rr 69 13 [v0, v1, v2, v3] [] h = some (none, h) := R_retV (by decide +kernel) (by decide +kernel)
theorem e70_0 {h : Hp} {v1 : Value} {v2 : Value} {v3 : Value} {v4 : Value} {v5 : Value} {r0 : Nat} : Rr 70 0 [.ref r0, v1, v2, v3, v4, v5] [] h = Rr 70 1 [.ref r0, v1, v2, v3, v4, v5] [.ref r0] h := R_step (x := (.aload_n 0, 1)) (by decide +kernel) rfl
theorem e70_1 {h : Hp} {v0 : Value} {v1 : Value} {v2 : Value} {v3 : Value} {v4 : Value} {v5 : Value} {a0 : Nat} : Rr 70 1 [v0, v1, v2, v3, v4, v5] [.ref a0] h = Rr 70 2 [v0, v1, v2, v3, v4, v5] [.int (nI 0), .ref a0] h := R_step (x := (.iconst 0, 1)) (by decide +kernel) rfl
theorem e70_2 {h : Hp} {v0 : Value} {v2 : Value} {v3 : Value} {v4 : Value} {v5 : Value} {y0 : Int32} {a1 : Nat} {x1 : Int32} : Rr 70 2 [v0, .int x1, v2, v3, v4, v5] [.int y0, .ref a1] h = Rr 70 3 [v0, .int x1, v2, v3, v4, v5] [.int x1, .int y0, .ref a1] h := R_step (x := (.iload_n 1, 1)) (by decide +kernel) rfl
theorem e70_3 {h : Hp} {v0 : Value} {v1 : Value} {v2 : Value} {v3 : Value} {v4 : Value} {v5 : Value} {y0 : Int32} {y1 : Int32} {a2 : Nat} (c : Ins a2 h 5) : Rr 70 3 [v0, v1, v2, v3, v4, v5] [.int y0, .int y1, .ref a2] h = (Den 30 [.ref a2, .int y1, .int y0] (enH 30 h)).bind (fun z => Rr 70 6 [v0, v1, v2, v3, v4, v5] (psh z.1 []) (lvH 30 h z.2)) := R_vir (y := 30) (i := 15) (by decide +kernel) (by decide +kernel) (by decide +kernel) rfl rfl c ⟨Nat.le_of_ble_eq_true rfl, Nat.zero_le _, Nat.zero_le _⟩
theorem e70_6 {h : Hp} {v1 : Value} {v2 : Value} {v3 : Value} {v4 : Value} {v5 : Value} {r0 : Nat} : Rr 70 6 [.ref r0, v1, v2, v3, v4, v5] [] h = Rr 70 7 [.ref r0, v1, v2, v3, v4, v5] [.ref r0] h := R_step (x := (.aload_n 0, 1)) (by decide +kernel) rfl
theorem e70_7 {h : Hp} {v0 : Value} {v1 : Value} {v2 : Value} {v3 : Value} {v4 : Value} {v5 : Value} {a0 : Nat} : Rr 70 7 [v0, v1, v2, v3, v4, v5] [.ref a0] h = Rr 70 8 [v0, v1, v2, v3, v4, v5] [.int (nI 1), .ref a0] h := R_step (x := (.iconst 1, 1)) (by decide +kernel) rfl
theorem e70_8 {h : Hp} {v0 : Value} {v1 : Value} {v3 : Value} {v4 : Value} {v5 : Value} {y0 : Int32} {a1 : Nat} {x2 : Int32} : Rr 70 8 [v0, v1, .int x2, v3, v4, v5] [.int y0, .ref a1] h = Rr 70 9 [v0, v1, .int x2, v3, v4, v5] [.int x2, .int y0, .ref a1] h := R_step (x := (.iload_n 2, 1)) (by decide +kernel) rfl
theorem e70_9 {h : Hp} {v0 : Value} {v1 : Value} {v2 : Value} {v3 : Value} {v4 : Value} {v5 : Value} {y0 : Int32} {y1 : Int32} {a2 : Nat} (c : Ins a2 h 5) : Rr 70 9 [v0, v1, v2, v3, v4, v5] [.int y0, .int y1, .ref a2] h = (Den 30 [.ref a2, .int y1, .int y0] (enH 30 h)).bind (fun z => Rr 70 12 [v0, v1, v2, v3, v4, v5] (psh z.1 []) (lvH 30 h z.2)) := R_vir (y := 30) (i := 15) (by decide +kernel) (by decide +kernel) (by decide +kernel) rfl rfl c ⟨Nat.le_of_ble_eq_true rfl, Nat.zero_le _, Nat.zero_le _⟩
theorem e70_12 {h : Hp} {v1 : Value} {v2 : Value} {v3 : Value} {v4 : Value} {v5 : Value} {r0 : Nat} : Rr 70 12 [.ref r0, v1, v2, v3, v4, v5] [] h = Rr 70 13 [.ref r0, v1, v2, v3, v4, v5] [.ref r0] h := R_step (x := (.aload_n 0, 1)) (by decide +kernel) rfl
theorem e70_13 {h : Hp} {v0 : Value} {v1 : Value} {v2 : Value} {v3 : Value} {v4 : Value} {v5 : Value} {a0 : Nat} : Rr 70 13 [v0, v1, v2, v3, v4, v5] [.ref a0] h = Rr 70 14 [v0, v1, v2, v3, v4, v5] [.int (nI 2), .ref a0] h := R_step (x := (.iconst 2, 1)) (by decide +kernel) rfl
theorem e70_14 {h : Hp} {v0 : Value} {v1 : Value} {v2 : Value} {v4 : Value} {v5 : Value} {y0 : Int32} {a1 : Nat} {x3 : Int32} : Rr 70 14 [v0, v1, v2, .int x3, v4, v5] [.int y0, .ref a1] h = Rr 70 15 [v0, v1, v2, .int x3, v4, v5] [.int x3, .int y0, .ref a1] h := R_step (x := (.iload_n 3, 1)) (by decide +kernel) rfl
theorem e70_15 {h : Hp} {v0 : Value} {v1 : Value} {v2 : Value} {v3 : Value} {v4 : Value} {v5 : Value} {y0 : Int32} {y1 : Int32} {a2 : Nat} (c : Ins a2 h 5) : Rr 70 15 [v0, v1, v2, v3, v4, v5] [.int y0, .int y1, .ref a2] h = (Den 30 [.ref a2, .int y1, .int y0] (enH 30 h)).bind (fun z => Rr 70 18 [v0, v1, v2, v3, v4, v5] (psh z.1 []) (lvH 30 h z.2)) := R_vir (y := 30) (i := 15) (by decide +kernel) (by decide +kernel) (by decide +kernel) rfl rfl c ⟨Nat.le_of_ble_eq_true rfl, Nat.zero_le _, Nat.zero_le _⟩
theorem e70_18 {h : Hp} {v1 : Value} {v2 : Value} {v3 : Value} {v4 : Value} {v5 : Value} {r0 : Nat} : Rr 70 18 [.ref r0, v1, v2, v3, v4, v5] [] h = Rr 70 19 [.ref r0, v1, v2, v3, v4, v5] [.ref r0] h := R_step (x := (.aload_n 0, 1)) (by decide +kernel) rfl
theorem e70_19 {h : Hp} {v0 : Value} {v1 : Value} {v2 : Value} {v3 : Value} {v4 : Value} {v5 : Value} {a0 : Nat} : Rr 70 19 [v0, v1, v2, v3, v4, v5] [.ref a0] h = Rr 70 20 [v0, v1, v2, v3, v4, v5] [.int (nI 3), .ref a0] h := R_step (x := (.iconst 3, 1)) (by decide +kernel) rfl
theorem e70_20 {h : Hp} {v0 : Value} {v1 : Value} {v2 : Value} {v3 : Value} {v5 : Value} {y0 : Int32} {a1 : Nat} {x4 : Int32} : Rr 70 20 [v0, v1, v2, v3, .int x4, v5] [.int y0, .ref a1] h = Rr 70 22 [v0, v1, v2, v3, .int x4, v5] [.int x4, .int y0, .ref a1] h := R_step (x := (.iload 4, 2)) (by decide +kernel) rfl
theorem e70_22 {h : Hp} {v0 : Value} {v1 : Value} {v2 : Value} {v3 : Value} {v4 : Value} {v5 : Value} {y0 : Int32} {y1 : Int32} {a2 : Nat} (c : Ins a2 h 5) : Rr 70 22 [v0, v1, v2, v3, v4, v5] [.int y0, .int y1, .ref a2] h = (Den 30 [.ref a2, .int y1, .int y0] (enH 30 h)).bind (fun z => Rr 70 25 [v0, v1, v2, v3, v4, v5] (psh z.1 []) (lvH 30 h z.2)) := R_vir (y := 30) (i := 15) (by decide +kernel) (by decide +kernel) (by decide +kernel) rfl rfl c ⟨Nat.le_of_ble_eq_true rfl, Nat.zero_le _, Nat.zero_le _⟩
theorem e70_25 {h : Hp} {v1 : Value} {v2 : Value} {v3 : Value} {v4 : Value} {v5 : Value} {r0 : Nat} : Rr 70 25 [.ref r0, v1, v2, v3, v4, v5] [] h = Rr 70 26 [.ref r0, v1, v2, v3, v4, v5] [.ref r0] h := R_step (x := (.aload_n 0, 1)) (by decide +kernel) rfl
theorem e70_26 {h : Hp} {v0 : Value} {v1 : Value} {v2 : Value} {v3 : Value} {v4 : Value} {v5 : Value} {a0 : Nat} : Rr 70 26 [v0, v1, v2, v3, v4, v5] [.ref a0] h = Rr 70 27 [v0, v1, v2, v3, v4, v5] [.int (nI 4), .ref a0] h := R_step (x := (.iconst 4, 1)) (by decide +kernel) rfl
theorem e70_27 {h : Hp} {v0 : Value} {v1 : Value} {v2 : Value} {v3 : Value} {v4 : Value} {y0 : Int32} {a1 : Nat} {x5 : Int32} : Rr 70 27 [v0, v1, v2, v3, v4, .int x5] [.int y0, .ref a1] h = Rr 70 29 [v0, v1, v2, v3, v4, .int x5] [.int x5, .int y0, .ref a1] h := R_step (x := (.iload 5, 2)) (by decide +kernel) rfl
theorem e70_29 {h : Hp} {v0 : Value} {v1 : Value} {v2 : Value} {v3 : Value} {v4 : Value} {v5 : Value} {y0 : Int32} {y1 : Int32} {a2 : Nat} (c : Ins a2 h 5) : Rr 70 29 [v0, v1, v2, v3, v4, v5] [.int y0, .int y1, .ref a2] h = (Den 30 [.ref a2, .int y1, .int y0] (enH 30 h)).bind (fun z => Rr 70 32 [v0, v1, v2, v3, v4, v5] (psh z.1 []) (lvH 30 h z.2)) := R_vir (y := 30) (i := 15) (by decide +kernel) (by decide +kernel) (by decide +kernel) rfl rfl c ⟨Nat.le_of_ble_eq_true rfl, Nat.zero_le _, Nat.zero_le _⟩
theorem e70_32 {h : Hp} {v0 : Value} {v1 : Value} {v2 : Value} {v3 : Value} {v4 : Value} {v5 : Value} : Rr 70 32 [v0, v1, v2, v3, v4, v5] [] h = some (none, h) := R_retV (by decide +kernel) (by decide +kernel)
theorem e71_0 {h : Hp} {r0 : Nat} : Rr 71 0 [.ref r0] [] h = Rr 71 1 [.ref r0] [.ref r0] h := R_step (x := (.aload_n 0, 1)) (by decide +kernel) rfl
theorem e71_1 {h : Hp} {v0 : Value} {a0 : Nat} : Rr 71 1 [v0] [.ref a0] h = Rr 71 2 [v0] [.int (nI 0), .ref a0] h := R_step (x := (.iconst 0, 1)) (by decide +kernel) rfl
theorem e71_2 {h : Hp} {v0 : Value} {y0 : Int32} {a1 : Nat} (c : Ins a1 h 5) : Rr 71 2 [v0] [.int y0, .ref a1] h = (Den 25 [.ref a1, .int y0] (enH 25 h)).bind (fun z => Rr 71 5 [v0] (psh z.1 []) (lvH 25 h z.2)) := R_vir (y := 25) (i := 23) (by decide +kernel) (by decide +kernel) (by decide +kernel) rfl rfl c ⟨Nat.le_of_ble_eq_true rfl, Nat.zero_le _, Nat.zero_le _⟩
theorem e71_5 {h : Hp} {v0 : Value} {y0 : Int32} : Rr 71 5 [v0] [.int y0] h = Rr 71 6 [v0] [.int (nI 5), .int y0] h := R_step (x := (.iconst 5, 1)) (by decide +kernel) rfl
theorem e71_6 {h : Hp} {v0 : Value} {y0 : Int32} {y1 : Int32} : Rr 71 6 [v0] [.int y0, .int y1] h = if ¬ y1 = y0 then Rr 71 13 [v0] [] h else Rr 71 9 [v0] [] h := R_br (off := 7) (x := (.if_icmp .ne 7, 3)) (by decide +kernel) rfl (by decide) rfl
theorem e71_9 {h : Hp} {v0 : Value} : Rr 71 9 [v0] [] h = Rr 71 10 [v0] [.int (nI 2)] h := R_step (x := (.iconst 2, 1)) (by decide +kernel) rfl
theorem e71_10 {h : Hp} {v0 : Value} {y0 : Int32} : Rr 71 10 [v0] [.int y0] h = Rr 71 14 [v0] [.int y0] h := R_step (x := (.goto 4, 3)) (by decide +kernel) rfl
theorem e71_13 {h : Hp} {v0 : Value} : Rr 71 13 [v0] [] h = Rr 71 14 [v0] [.int (nI 1)] h := R_step (x := (.iconst 1, 1)) (by decide +kernel) rfl
theorem e71_14 {h : Hp} {v0 : Value} {y0 : Int32} : Rr 71 14 [v0] [.int y0] h = some (some y0, h) := R_retI (by decide +kernel) (by decide +kernel)
theorem e107_0 {h : Hp} {r0 : Nat} : Rr 107 0 [.ref r0] [] h = Rr 107 1 [.ref r0] [.ref r0] h := R_step (x := (.aload_n 0, 1)) (by decide +kernel) rfl
theorem e107_1 {h : Hp} {v0 : Value} {a0 : Nat} : Rr 107 1 [v0] [.ref a0] h = Rr 107 2 [v0] [.int (nI 0), .ref a0] h := R_step (x := (.iconst 0, 1)) (by decide +kernel) rfl
theorem e107_2 {h : Hp} {v0 : Value} {y0 : Int32} {a1 : Nat} (c : Ins a1 h 5) : Rr 107 2 [v0] [.int y0, .ref a1] h = (Den 25 [.ref a1, .int y0] (enH 25 h)).bind (fun z => Rr 107 5 [v0] (psh z.1 []) (lvH 25 h z.2)) := R_vir (y := 25) (i := 23) (by decide +kernel) (by decide +kernel) (by decide +kernel) rfl rfl c ⟨Nat.le_of_ble_eq_true rfl, Nat.zero_le _, Nat.zero_le _⟩
theorem e107_5 {h : Hp} {v0 : Value} {y0 : Int32} : Rr 107 5 [v0] [.int y0] h = if y0 = nI 2 then Rr 107 36 [v0] [] h else if y0 = nI 3 then Rr 107 59 [v0] [] h else if y0 = nI 4 then Rr 107 42 [v0] [] h else if y0 = nI 5 then Rr 107 54 [v0] [] h else Rr 107 59 [v0] [] h := (R_sw (d := 54) (lo := 2) (hi := 5) (offs := #[31, 54, 37, 49]) (n := 31) (k := nI 2) (by decide +kernel) (by decide) (by decide)).trans rfl
theorem e107_36 {h : Hp} {r0 : Nat} : Rr 107 36 [.ref r0] [] h = Rr 107 37 [.ref r0] [.ref r0] h := R_step (x := (.aload_n 0, 1)) (by decide +kernel) rfl
theorem e107_37 {h : Hp} {v0 : Value} {a0 : Nat} : Rr 107 37 [v0] [.ref a0] h = Rr 107 38 [v0] [.int (nI 3), .ref a0] h := R_step (x := (.iconst 3, 1)) (by decide +kernel) rfl
theorem e107_38 {h : Hp} {v0 : Value} {y0 : Int32} {a1 : Nat} (c : Ins a1 h 5) : Rr 107 38 [v0] [.int y0, .ref a1] h = (Den 25 [.ref a1, .int y0] (enH 25 h)).bind (fun z => Rr 107 41 [v0] (psh z.1 []) (lvH 25 h z.2)) := R_vir (y := 25) (i := 23) (by decide +kernel) (by decide +kernel) (by decide +kernel) rfl rfl c ⟨Nat.le_of_ble_eq_true rfl, Nat.zero_le _, Nat.zero_le _⟩
theorem e107_41 {h : Hp} {v0 : Value} {y0 : Int32} : Rr 107 41 [v0] [.int y0] h = some (some y0, h) := R_retI (by decide +kernel) (by decide +kernel)
theorem e107_42 {h : Hp} {r0 : Nat} : Rr 107 42 [.ref r0] [] h = Rr 107 43 [.ref r0] [.ref r0] h := R_step (x := (.aload_n 0, 1)) (by decide +kernel) rfl
theorem e107_43 {h : Hp} {v0 : Value} {a0 : Nat} : Rr 107 43 [v0] [.ref a0] h = Rr 107 44 [v0] [.int (nI 4), .ref a0] h := R_step (x := (.iconst 4, 1)) (by decide +kernel) rfl
theorem e107_44 {h : Hp} {v0 : Value} {y0 : Int32} {a1 : Nat} (c : Ins a1 h 5) : Rr 107 44 [v0] [.int y0, .ref a1] h = (Den 25 [.ref a1, .int y0] (enH 25 h)).bind (fun z => Rr 107 47 [v0] (psh z.1 []) (lvH 25 h z.2)) := R_vir (y := 25) (i := 23) (by decide +kernel) (by decide +kernel) (by decide +kernel) rfl rfl c ⟨Nat.le_of_ble_eq_true rfl, Nat.zero_le _, Nat.zero_le _⟩
theorem e107_47 {h : Hp} {y0 : Int32} {r0 : Nat} : Rr 107 47 [.ref r0] [.int y0] h = Rr 107 48 [.ref r0] [.ref r0, .int y0] h := R_step (x := (.aload_n 0, 1)) (by decide +kernel) rfl
theorem e107_48 {h : Hp} {v0 : Value} {a0 : Nat} {y1 : Int32} : Rr 107 48 [v0] [.ref a0, .int y1] h = Rr 107 49 [v0] [.int (nI 4), .ref a0, .int y1] h := R_step (x := (.iconst 4, 1)) (by decide +kernel) rfl
theorem e107_49 {h : Hp} {v0 : Value} {y0 : Int32} {a1 : Nat} {y2 : Int32} (c : Ins a1 h 5) : Rr 107 49 [v0] [.int y0, .ref a1, .int y2] h = (Den 25 [.ref a1, .int y0] (enH 25 h)).bind (fun z => Rr 107 52 [v0] (psh z.1 [.int y2]) (lvH 25 h z.2)) := R_vir (y := 25) (i := 23) (by decide +kernel) (by decide +kernel) (by decide +kernel) rfl rfl c ⟨Nat.le_of_ble_eq_true rfl, Nat.zero_le _, Nat.zero_le _⟩
theorem e107_52 {h : Hp} {v0 : Value} {y0 : Int32} {y1 : Int32} : Rr 107 52 [v0] [.int y0, .int y1] h = Rr 107 53 [v0] [.int (y1 * y0)] h := R_step (x := (.imul, 1)) (by decide +kernel) rfl
theorem e107_53 {h : Hp} {v0 : Value} {y0 : Int32} : Rr 107 53 [v0] [.int y0] h = some (some y0, h) := R_retI (by decide +kernel) (by decide +kernel)
theorem e107_54 {h : Hp} {r0 : Nat} : Rr 107 54 [.ref r0] [] h = Rr 107 55 [.ref r0] [.ref r0] h := R_step (x := (.aload_n 0, 1)) (by decide +kernel) rfl
theorem e107_55 {h : Hp} {v0 : Value} {a0 : Nat} (c : Ins a0 h 5) : Rr 107 55 [v0] [.ref a0] h = (Den 71 [.ref a0] (enH 71 h)).bind (fun z => Rr 107 58 [v0] (psh z.1 []) (lvH 71 h z.2)) := R_vir (y := 71) (i := 30) (by decide +kernel) (by decide +kernel) (by decide +kernel) rfl rfl c ⟨Nat.le_of_ble_eq_true rfl, Nat.zero_le _, Nat.zero_le _⟩
theorem e107_58 {h : Hp} {v0 : Value} {y0 : Int32} : Rr 107 58 [v0] [.int y0] h = some (some y0, h) := R_retI (by decide +kernel) (by decide +kernel)
theorem e107_59 {h : Hp} {v0 : Value} : Rr 107 59 [v0] [] h = Rr 107 60 [v0] [.int (nI 1)] h := R_step (x := (.iconst 1, 1)) (by decide +kernel) rfl
theorem e107_60 {h : Hp} {v0 : Value} {y0 : Int32} : Rr 107 60 [v0] [.int y0] h = some (some y0, h) := R_retI (by decide +kernel) (by decide +kernel)
theorem e108_0 {h : Hp} {r0 : Nat} : Rr 108 0 [.ref r0] [] h = Rr 108 1 [.ref r0] [.ref r0] h := R_step (x := (.aload_n 0, 1)) (by decide +kernel) rfl
theorem e108_1 {h : Hp} {v0 : Value} {a0 : Nat} (c : Ins a0 h 5) : Rr 108 1 [v0] [.ref a0] h = (Den 71 [.ref a0] (enH 71 h)).bind (fun z => Rr 108 4 [v0] (psh z.1 []) (lvH 71 h z.2)) := R_vir (y := 71) (i := 30) (by decide +kernel) (by decide +kernel) (by decide +kernel) rfl rfl c ⟨Nat.le_of_ble_eq_true rfl, Nat.zero_le _, Nat.zero_le _⟩
theorem e108_4 {h : Hp} {y0 : Int32} {r0 : Nat} : Rr 108 4 [.ref r0] [.int y0] h = Rr 108 5 [.ref r0] [.ref r0, .int y0] h := R_step (x := (.aload_n 0, 1)) (by decide +kernel) rfl
theorem e108_5 {h : Hp} {v0 : Value} {a0 : Nat} {y1 : Int32} : Rr 108 5 [v0] [.ref a0, .int y1] h = Rr 108 6 [v0] [.int (nI 4), .ref a0, .int y1] h := R_step (x := (.iconst 4, 1)) (by decide +kernel) rfl
theorem e108_6 {h : Hp} {v0 : Value} {y0 : Int32} {a1 : Nat} {y2 : Int32} (c : Ins a1 h 5) : Rr 108 6 [v0] [.int y0, .ref a1, .int y2] h = (Den 25 [.ref a1, .int y0] (enH 25 h)).bind (fun z => Rr 108 9 [v0] (psh z.1 [.int y2]) (lvH 25 h z.2)) := R_vir (y := 25) (i := 23) (by decide +kernel) (by decide +kernel) (by decide +kernel) rfl rfl c ⟨Nat.le_of_ble_eq_true rfl, Nat.zero_le _, Nat.zero_le _⟩
theorem e108_9 {h : Hp} {v0 : Value} {y0 : Int32} {y1 : Int32} : Rr 108 9 [v0] [.int y0, .int y1] h = Rr 108 10 [v0] [.int (y1 + y0)] h := R_step (x := (.iadd, 1)) (by decide +kernel) rfl
theorem e108_10 {h : Hp} {v0 : Value} {y0 : Int32} : Rr 108 10 [v0] [.int y0] h = some (some y0, h) := R_retI (by decide +kernel) (by decide +kernel)
theorem e109_0 {h : Hp} {v0 : Value} {v1 : Value} : Rr 109 0 [v0, v1] [] h = Rr 109 1 [v0, v1] [.int (nI 5)] h := R_step (x := (.iconst 5, 1)) (by decide +kernel) rfl
theorem e109_1 {h : Hp} {v0 : Value} {v1 : Value} {y0 : Int32} : Rr 109 1 [v0, v1] [.int y0] h = Rr 109 2 [v0, .int y0] [] h := R_step (x := (.istore_n 1, 1)) (by decide +kernel) rfl
theorem e109_2 {h : Hp} {v0 : Value} {x1 : Int32} : Rr 109 2 [v0, .int x1] [] h = Rr 109 3 [v0, .int x1] [.int x1] h := R_step (x := (.iload_n 1, 1)) (by decide +kernel) rfl
theorem e109_3 {h : Hp} {v0 : Value} {v1 : Value} {y0 : Int32} : Rr 109 3 [v0, v1] [.int y0] h = Rr 109 6 [v0, v1] [.int (nI 146), .int y0] h := R_step (x := (.sipush 146, 3)) (by decide +kernel) rfl
theorem e109_6 {h : Hp} {v0 : Value} {v1 : Value} {y0 : Int32} {y1 : Int32} : Rr 109 6 [v0, v1] [.int y0, .int y1] h = if y0 ≤ y1 then Rr 109 21 [v0, v1] [] h else Rr 109 9 [v0, v1] [] h := R_br (off := 15) (x := (.if_icmp .ge 15, 3)) (by decide +kernel) rfl (by decide) rfl
theorem e109_9 {h : Hp} {v1 : Value} {r0 : Nat} : Rr 109 9 [.ref r0, v1] [] h = Rr 109 10 [.ref r0, v1] [.ref r0] h := R_step (x := (.aload_n 0, 1)) (by decide +kernel) rfl
theorem e109_10 {h : Hp} {v0 : Value} {a0 : Nat} {x1 : Int32} : Rr 109 10 [v0, .int x1] [.ref a0] h = Rr 109 11 [v0, .int x1] [.int x1, .ref a0] h := R_step (x := (.iload_n 1, 1)) (by decide +kernel) rfl
theorem e109_11 {h : Hp} {v0 : Value} {v1 : Value} {y0 : Int32} {a1 : Nat} : Rr 109 11 [v0, v1] [.int y0, .ref a1] h = Rr 109 12 [v0, v1] [.int (nI 0), .int y0, .ref a1] h := R_step (x := (.iconst 0, 1)) (by decide +kernel) rfl
theorem e109_12 {h : Hp} {v0 : Value} {v1 : Value} {y0 : Int32} {y1 : Int32} {a2 : Nat} (c : Ins a2 h 5) : Rr 109 12 [v0, v1] [.int y0, .int y1, .ref a2] h = (Den 30 [.ref a2, .int y1, .int y0] (enH 30 h)).bind (fun z => Rr 109 15 [v0, v1] (psh z.1 []) (lvH 30 h z.2)) := R_vir (y := 30) (i := 15) (by decide +kernel) (by decide +kernel) (by decide +kernel) rfl rfl c ⟨Nat.le_of_ble_eq_true rfl, Nat.zero_le _, Nat.zero_le _⟩
theorem e109_15 {h : Hp} {v0 : Value} {x1 : Int32} : Rr 109 15 [v0, .int x1] [] h = Rr 109 18 [v0, .int (x1 + nI 1)] [] h := R_step (x := (.iinc 1 1, 3)) (by decide +kernel) rfl
theorem e109_18 {h : Hp} {v0 : Value} {v1 : Value} : Rr 109 18 [v0, v1] [] h = Rr 109 2 [v0, v1] [] h := R_step (x := (.goto (-16), 3)) (by decide +kernel) rfl
theorem e109_21 {h : Hp} {v0 : Value} {v1 : Value} : Rr 109 21 [v0, v1] [] h = Rr 109 22 [v0, v1] [.int (nI 0)] h := R_step (x := (.iconst 0, 1)) (by decide +kernel) rfl
theorem e109_22 {h : Hp} {v0 : Value} {v1 : Value} {y0 : Int32} : Rr 109 22 [v0, v1] [.int y0] h = Rr 109 23 [v0, .int y0] [] h := R_step (x := (.istore_n 1, 1)) (by decide +kernel) rfl
theorem e109_23 {h : Hp} {v0 : Value} {x1 : Int32} : Rr 109 23 [v0, .int x1] [] h = Rr 109 24 [v0, .int x1] [.int x1] h := R_step (x := (.iload_n 1, 1)) (by decide +kernel) rfl
theorem e109_24 {h : Hp} {v0 : Value} {v1 : Value} {y0 : Int32} : Rr 109 24 [v0, v1] [.int y0] h = Rr 109 25 [v0, v1] [.int (nI 5), .int y0] h := R_step (x := (.iconst 5, 1)) (by decide +kernel) rfl
theorem e109_25 {h : Hp} {v0 : Value} {v1 : Value} {y0 : Int32} {y1 : Int32} : Rr 109 25 [v0, v1] [.int y0, .int y1] h = if y0 ≤ y1 then Rr 109 48 [v0, v1] [] h else Rr 109 28 [v0, v1] [] h := R_br (off := 23) (x := (.if_icmp .ge 23, 3)) (by decide +kernel) rfl (by decide) rfl
theorem e109_28 {h : Hp} {v1 : Value} {r0 : Nat} : Rr 109 28 [.ref r0, v1] [] h = Rr 109 29 [.ref r0, v1] [.ref r0] h := R_step (x := (.aload_n 0, 1)) (by decide +kernel) rfl
theorem e109_29 {h : Hp} {v0 : Value} {a0 : Nat} {x1 : Int32} : Rr 109 29 [v0, .int x1] [.ref a0] h = Rr 109 30 [v0, .int x1] [.int x1, .ref a0] h := R_step (x := (.iload_n 1, 1)) (by decide +kernel) rfl
theorem e109_30 {h : Hp} {v0 : Value} {v1 : Value} {y0 : Int32} {a1 : Nat} : Rr 109 30 [v0, v1] [.int y0, .ref a1] h = Rr 109 31 [v0, v1] [.int (nI 0), .int y0, .ref a1] h := R_step (x := (.iconst 0, 1)) (by decide +kernel) rfl
theorem e109_31 {h : Hp} {v0 : Value} {v1 : Value} {y0 : Int32} {y1 : Int32} {a2 : Nat} : Rr 109 31 [v0, v1] [.int y0, .int y1, .ref a2] h = Rr 109 32 [v0, v1] [.int ((-1)), .int y0, .int y1, .ref a2] h := R_step (x := (.iconst (-1), 1)) (by decide +kernel) rfl
theorem e109_32 {h : Hp} {v0 : Value} {v1 : Value} {y0 : Int32} {y1 : Int32} {y2 : Int32} {a3 : Nat} (c : Ins a3 h 5) : Rr 109 32 [v0, v1] [.int y0, .int y1, .int y2, .ref a3] h = (Den 68 [.ref a3, .int y2, .int y1, .int y0] (enH 68 h)).bind (fun z => Rr 109 35 [v0, v1] (psh z.1 []) (lvH 68 h z.2)) := R_vir (y := 68) (i := 19) (by decide +kernel) (by decide +kernel) (by decide +kernel) rfl rfl c ⟨Nat.le_of_ble_eq_true rfl, Nat.zero_le _, Nat.zero_le _⟩
theorem e109_35 {h : Hp} {v1 : Value} {r0 : Nat} : Rr 109 35 [.ref r0, v1] [] h = Rr 109 36 [.ref r0, v1] [.ref r0] h := R_step (x := (.aload_n 0, 1)) (by decide +kernel) rfl
theorem e109_36 {h : Hp} {v0 : Value} {a0 : Nat} {x1 : Int32} : Rr 109 36 [v0, .int x1] [.ref a0] h = Rr 109 37 [v0, .int x1] [.int x1, .ref a0] h := R_step (x := (.iload_n 1, 1)) (by decide +kernel) rfl
theorem e109_37 {h : Hp} {v0 : Value} {v1 : Value} {y0 : Int32} {a1 : Nat} : Rr 109 37 [v0, v1] [.int y0, .ref a1] h = Rr 109 38 [v0, v1] [.int (nI 3), .int y0, .ref a1] h := R_step (x := (.iconst 3, 1)) (by decide +kernel) rfl
theorem e109_38 {h : Hp} {v0 : Value} {v1 : Value} {y0 : Int32} {y1 : Int32} {a2 : Nat} : Rr 109 38 [v0, v1] [.int y0, .int y1, .ref a2] h = Rr 109 39 [v0, v1] [.int ((-1)), .int y0, .int y1, .ref a2] h := R_step (x := (.iconst (-1), 1)) (by decide +kernel) rfl
theorem e109_39 {h : Hp} {v0 : Value} {v1 : Value} {y0 : Int32} {y1 : Int32} {y2 : Int32} {a3 : Nat} (c : Ins a3 h 5) : Rr 109 39 [v0, v1] [.int y0, .int y1, .int y2, .ref a3] h = (Den 68 [.ref a3, .int y2, .int y1, .int y0] (enH 68 h)).bind (fun z => Rr 109 42 [v0, v1] (psh z.1 []) (lvH 68 h z.2)) := R_vir (y := 68) (i := 19) (by decide +kernel) (by decide +kernel) (by decide +kernel) rfl rfl c ⟨Nat.le_of_ble_eq_true rfl, Nat.zero_le _, Nat.zero_le _⟩
theorem e109_42 {h : Hp} {v0 : Value} {x1 : Int32} : Rr 109 42 [v0, .int x1] [] h = Rr 109 45 [v0, .int (x1 + nI 1)] [] h := R_step (x := (.iinc 1 1, 3)) (by decide +kernel) rfl
theorem e109_45 {h : Hp} {v0 : Value} {v1 : Value} : Rr 109 45 [v0, v1] [] h = Rr 109 23 [v0, v1] [] h := R_step (x := (.goto (-22), 3)) (by decide +kernel) rfl
theorem e109_48 {h : Hp} {v1 : Value} {r0 : Nat} : Rr 109 48 [.ref r0, v1] [] h = Rr 109 49 [.ref r0, v1] [.ref r0] h := R_step (x := (.aload_n 0, 1)) (by decide +kernel) rfl
theorem e109_49 {h : Hp} {v0 : Value} {v1 : Value} {a0 : Nat} : Rr 109 49 [v0, v1] [.ref a0] h = Rr 109 50 [v0, v1] [.int (nI 0), .ref a0] h := R_step (x := (.iconst 0, 1)) (by decide +kernel) rfl
theorem e109_50 {h : Hp} {v0 : Value} {v1 : Value} {y0 : Int32} {a1 : Nat} (c : Ins a1 h 5) : Rr 109 50 [v0, v1] [.int y0, .ref a1] h = (Den 25 [.ref a1, .int y0] (enH 25 h)).bind (fun z => Rr 109 53 [v0, v1] (psh z.1 []) (lvH 25 h z.2)) := R_vir (y := 25) (i := 23) (by decide +kernel) (by decide +kernel) (by decide +kernel) rfl rfl c ⟨Nat.le_of_ble_eq_true rfl, Nat.zero_le _, Nat.zero_le _⟩
theorem e109_53 {h : Hp} {v0 : Value} {v1 : Value} {y0 : Int32} : Rr 109 53 [v0, v1] [.int y0] h = Rr 109 54 [v0, v1] [.int (nI 2), .int y0] h := R_step (x := (.iconst 2, 1)) (by decide +kernel) rfl
theorem e109_54 {h : Hp} {v0 : Value} {v1 : Value} {y0 : Int32} {y1 : Int32} : Rr 109 54 [v0, v1] [.int y0, .int y1] h = if ¬ y1 = y0 then Rr 109 63 [v0, v1] [] h else Rr 109 57 [v0, v1] [] h := R_br (off := 9) (x := (.if_icmp .ne 9, 3)) (by decide +kernel) rfl (by decide) rfl
theorem e109_57 {h : Hp} {v1 : Value} {r0 : Nat} : Rr 109 57 [.ref r0, v1] [] h = Rr 109 58 [.ref r0, v1] [.ref r0] h := R_step (x := (.aload_n 0, 1)) (by decide +kernel) rfl
theorem e109_58 {h : Hp} {v0 : Value} {v1 : Value} {a0 : Nat} : Rr 109 58 [v0, v1] [.ref a0] h = Rr 109 59 [v0, v1] [.int (nI 0), .ref a0] h := R_step (x := (.iconst 0, 1)) (by decide +kernel) rfl
theorem e109_59 {h : Hp} {v0 : Value} {v1 : Value} {y0 : Int32} {a1 : Nat} : Rr 109 59 [v0, v1] [.int y0, .ref a1] h = Rr 109 60 [v0, v1] [.int (nI 1), .int y0, .ref a1] h := R_step (x := (.iconst 1, 1)) (by decide +kernel) rfl
theorem e109_60 {h : Hp} {v0 : Value} {v1 : Value} {y0 : Int32} {y1 : Int32} {a2 : Nat} (c : Ins a2 h 5) : Rr 109 60 [v0, v1] [.int y0, .int y1, .ref a2] h = (Den 64 [.ref a2, .int y1, .int y0] (enH 64 h)).bind (fun z => Rr 109 63 [v0, v1] (psh z.1 []) (lvH 64 h z.2)) := R_vir (y := 64) (i := 27) (by decide +kernel) (by decide +kernel) (by decide +kernel) rfl rfl c ⟨Nat.le_of_ble_eq_true rfl, Nat.zero_le _, Nat.zero_le _⟩
theorem e109_63 {h : Hp} {v0 : Value} {v1 : Value} : Rr 109 63 [v0, v1] [] h = some (none, h) := R_retV (by decide +kernel) (by decide +kernel)
theorem e110_0 {h : Hp} {v0 : Value} {v1 : Value} {v2 : Value} : Rr 110 0 [v0, v1, v2] [] h = Rr 110 1 [v0, v1, v2] [.int (nI 0)] h := R_step (x := (.iconst 0, 1)) (by decide +kernel) rfl
theorem e110_1 {h : Hp} {v0 : Value} {v1 : Value} {v2 : Value} {y0 : Int32} : Rr 110 1 [v0, v1, v2] [.int y0] h = Rr 110 2 [v0, .int y0, v2] [] h := R_step (x := (.istore_n 1, 1)) (by decide +kernel) rfl
theorem e110_2 {h : Hp} {v0 : Value} {v1 : Value} {v2 : Value} : Rr 110 2 [v0, v1, v2] [] h = Rr 110 3 [v0, v1, v2] [.int (nI 0)] h := R_step (x := (.iconst 0, 1)) (by decide +kernel) rfl
theorem e110_3 {h : Hp} {v0 : Value} {v1 : Value} {v2 : Value} {y0 : Int32} : Rr 110 3 [v0, v1, v2] [.int y0] h = Rr 110 4 [v0, v1, .int y0] [] h := R_step (x := (.istore_n 2, 1)) (by decide +kernel) rfl
theorem e110_4 {h : Hp} {v0 : Value} {v1 : Value} {x2 : Int32} : Rr 110 4 [v0, v1, .int x2] [] h = Rr 110 5 [v0, v1, .int x2] [.int x2] h := R_step (x := (.iload_n 2, 1)) (by decide +kernel) rfl
theorem e110_5 {h : Hp} {v0 : Value} {v1 : Value} {v2 : Value} {y0 : Int32} : Rr 110 5 [v0, v1, v2] [.int y0] h = Rr 110 6 [v0, v1, v2] [.int (nI 5), .int y0] h := R_step (x := (.iconst 5, 1)) (by decide +kernel) rfl
theorem e110_6 {h : Hp} {v0 : Value} {v1 : Value} {v2 : Value} {y0 : Int32} {y1 : Int32} : Rr 110 6 [v0, v1, v2] [.int y0, .int y1] h = if y0 ≤ y1 then Rr 110 26 [v0, v1, v2] [] h else Rr 110 9 [v0, v1, v2] [] h := R_br (off := 20) (x := (.if_icmp .ge 20, 3)) (by decide +kernel) rfl (by decide) rfl
theorem e110_9 {h : Hp} {v1 : Value} {v2 : Value} {r0 : Nat} : Rr 110 9 [.ref r0, v1, v2] [] h = Rr 110 10 [.ref r0, v1, v2] [.ref r0] h := R_step (x := (.aload_n 0, 1)) (by decide +kernel) rfl
theorem e110_10 {h : Hp} {v0 : Value} {v1 : Value} {a0 : Nat} {x2 : Int32} : Rr 110 10 [v0, v1, .int x2] [.ref a0] h = Rr 110 11 [v0, v1, .int x2] [.int x2, .ref a0] h := R_step (x := (.iload_n 2, 1)) (by decide +kernel) rfl
theorem e110_11 {h : Hp} {v0 : Value} {v1 : Value} {v2 : Value} {y0 : Int32} {a1 : Nat} (c : Ins a1 h 5) : Rr 110 11 [v0, v1, v2] [.int y0, .ref a1] h = (Den 66 [.ref a1, .int y0] (enH 66 h)).bind (fun z => Rr 110 14 [v0, v1, v2] (psh z.1 []) (lvH 66 h z.2)) := R_vir (y := 66) (i := 38) (by decide +kernel) (by decide +kernel) (by decide +kernel) rfl rfl c ⟨Nat.le_of_ble_eq_true rfl, Nat.zero_le _, Nat.zero_le _⟩
theorem e110_14 {h : Hp} {v0 : Value} {v1 : Value} {v2 : Value} {y0 : Int32} : Rr 110 14 [v0, v1, v2] [.int y0] h = if y0 = 0 then Rr 110 20 [v0, v1, v2] [] h else Rr 110 17 [v0, v1, v2] [] h := R_br (off := 6) (x := (.ifCond .eq 6, 3)) (by decide +kernel) rfl (by decide) rfl
theorem e110_17 {h : Hp} {v0 : Value} {v2 : Value} {x1 : Int32} : Rr 110 17 [v0, .int x1, v2] [] h = Rr 110 20 [v0, .int (x1 + nI 1), v2] [] h := R_step (x := (.iinc 1 1, 3)) (by decide +kernel) rfl
theorem e110_20 {h : Hp} {v0 : Value} {v1 : Value} {x2 : Int32} : Rr 110 20 [v0, v1, .int x2] [] h = Rr 110 23 [v0, v1, .int (x2 + nI 1)] [] h := R_step (x := (.iinc 2 1, 3)) (by decide +kernel) rfl
theorem e110_23 {h : Hp} {v0 : Value} {v1 : Value} {v2 : Value} : Rr 110 23 [v0, v1, v2] [] h = Rr 110 4 [v0, v1, v2] [] h := R_step (x := (.goto (-19), 3)) (by decide +kernel) rfl
theorem e110_26 {h : Hp} {v0 : Value} {v2 : Value} {x1 : Int32} : Rr 110 26 [v0, .int x1, v2] [] h = Rr 110 27 [v0, .int x1, v2] [.int x1] h := R_step (x := (.iload_n 1, 1)) (by decide +kernel) rfl
theorem e110_27 {h : Hp} {v0 : Value} {v1 : Value} {v2 : Value} {y0 : Int32} : Rr 110 27 [v0, v1, v2] [.int y0] h = some (some y0, h) := R_retI (by decide +kernel) (by decide +kernel)
theorem e133_0 {h : Hp} {v0 : Value} {v1 : Value} {v2 : Value} : Rr 133 0 [v0, v1, v2] [] h = Rr 133 1 [v0, v1, v2] [.int (nI 0)] h := R_step (x := (.iconst 0, 1)) (by decide +kernel) rfl
theorem e133_1 {h : Hp} {v0 : Value} {v1 : Value} {v2 : Value} {y0 : Int32} : Rr 133 1 [v0, v1, v2] [.int y0] h = Rr 133 2 [v0, .int y0, v2] [] h := R_step (x := (.istore_n 1, 1)) (by decide +kernel) rfl
theorem e133_2 {h : Hp} {v1 : Value} {v2 : Value} {r0 : Nat} : Rr 133 2 [.ref r0, v1, v2] [] h = Rr 133 3 [.ref r0, v1, v2] [.ref r0] h := R_step (x := (.aload_n 0, 1)) (by decide +kernel) rfl
theorem e133_3 {h : Hp} {v0 : Value} {v1 : Value} {v2 : Value} {a0 : Nat} : Rr 133 3 [v0, v1, v2] [.ref a0] h = Rr 133 4 [v0, v1, v2] [.int (nI 0), .ref a0] h := R_step (x := (.iconst 0, 1)) (by decide +kernel) rfl
theorem e133_4 {h : Hp} {v0 : Value} {v1 : Value} {v2 : Value} {y0 : Int32} {a1 : Nat} (c : Ins a1 h 5) : Rr 133 4 [v0, v1, v2] [.int y0, .ref a1] h = (Den 25 [.ref a1, .int y0] (enH 25 h)).bind (fun z => Rr 133 7 [v0, v1, v2] (psh z.1 []) (lvH 25 h z.2)) := R_vir (y := 25) (i := 23) (by decide +kernel) (by decide +kernel) (by decide +kernel) rfl rfl c ⟨Nat.le_of_ble_eq_true rfl, Nat.zero_le _, Nat.zero_le _⟩
theorem e133_7 {h : Hp} {v0 : Value} {v1 : Value} {v2 : Value} {y0 : Int32} : Rr 133 7 [v0, v1, v2] [.int y0] h = Rr 133 8 [v0, v1, v2] [.int (nI 3), .int y0] h := R_step (x := (.iconst 3, 1)) (by decide +kernel) rfl
theorem e133_8 {h : Hp} {v0 : Value} {v1 : Value} {v2 : Value} {y0 : Int32} {y1 : Int32} : Rr 133 8 [v0, v1, v2] [.int y0, .int y1] h = if y0 ≤ y1 then Rr 133 13 [v0, v1, v2] [] h else Rr 133 11 [v0, v1, v2] [] h := R_br (off := 5) (x := (.if_icmp .ge 5, 3)) (by decide +kernel) rfl (by decide) rfl
theorem e133_11 {h : Hp} {v0 : Value} {v2 : Value} {x1 : Int32} : Rr 133 11 [v0, .int x1, v2] [] h = Rr 133 12 [v0, .int x1, v2] [.int x1] h := R_step (x := (.iload_n 1, 1)) (by decide +kernel) rfl
theorem e133_12 {h : Hp} {v0 : Value} {v1 : Value} {v2 : Value} {y0 : Int32} : Rr 133 12 [v0, v1, v2] [.int y0] h = some (some y0, h) := R_retI (by decide +kernel) (by decide +kernel)
theorem e133_13 {h : Hp} {v0 : Value} {v1 : Value} {v2 : Value} : Rr 133 13 [v0, v1, v2] [] h = Rr 133 14 [v0, v1, v2] [.int (nI 0)] h := R_step (x := (.iconst 0, 1)) (by decide +kernel) rfl
theorem e133_14 {h : Hp} {v0 : Value} {v1 : Value} {v2 : Value} {y0 : Int32} : Rr 133 14 [v0, v1, v2] [.int y0] h = Rr 133 15 [v0, v1, .int y0] [] h := R_step (x := (.istore_n 2, 1)) (by decide +kernel) rfl
theorem e133_15 {h : Hp} {v0 : Value} {v1 : Value} {x2 : Int32} : Rr 133 15 [v0, v1, .int x2] [] h = Rr 133 16 [v0, v1, .int x2] [.int x2] h := R_step (x := (.iload_n 2, 1)) (by decide +kernel) rfl
theorem e133_16 {h : Hp} {v1 : Value} {v2 : Value} {y0 : Int32} {r0 : Nat} : Rr 133 16 [.ref r0, v1, v2] [.int y0] h = Rr 133 17 [.ref r0, v1, v2] [.ref r0, .int y0] h := R_step (x := (.aload_n 0, 1)) (by decide +kernel) rfl
theorem e133_17 {h : Hp} {v0 : Value} {v1 : Value} {v2 : Value} {a0 : Nat} {y1 : Int32} (c : Ins a0 h 5) : Rr 133 17 [v0, v1, v2] [.ref a0, .int y1] h = (Den 107 [.ref a0] (enH 107 h)).bind (fun z => Rr 133 20 [v0, v1, v2] (psh z.1 [.int y1]) (lvH 107 h z.2)) := R_vir (y := 107) (i := 42) (by decide +kernel) (by decide +kernel) (by decide +kernel) rfl rfl c ⟨Nat.le_of_ble_eq_true rfl, Nat.zero_le _, Nat.zero_le _⟩
theorem e133_20 {h : Hp} {v0 : Value} {v1 : Value} {v2 : Value} {y0 : Int32} {y1 : Int32} : Rr 133 20 [v0, v1, v2] [.int y0, .int y1] h = if y0 ≤ y1 then Rr 133 42 [v0, v1, v2] [] h else Rr 133 23 [v0, v1, v2] [] h := R_br (off := 22) (x := (.if_icmp .ge 22, 3)) (by decide +kernel) rfl (by decide) rfl
theorem e133_23 {h : Hp} {v0 : Value} {v2 : Value} {x1 : Int32} : Rr 133 23 [v0, .int x1, v2] [] h = Rr 133 24 [v0, .int x1, v2] [.int x1] h := R_step (x := (.iload_n 1, 1)) (by decide +kernel) rfl
theorem e133_24 {h : Hp} {v1 : Value} {v2 : Value} {y0 : Int32} {r0 : Nat} : Rr 133 24 [.ref r0, v1, v2] [.int y0] h = Rr 133 25 [.ref r0, v1, v2] [.ref r0, .int y0] h := R_step (x := (.aload_n 0, 1)) (by decide +kernel) rfl
theorem e133_25 {h : Hp} {v0 : Value} {v1 : Value} {a0 : Nat} {y1 : Int32} {x2 : Int32} : Rr 133 25 [v0, v1, .int x2] [.ref a0, .int y1] h = Rr 133 26 [v0, v1, .int x2] [.int x2, .ref a0, .int y1] h := R_step (x := (.iload_n 2, 1)) (by decide +kernel) rfl
theorem e133_26 {h : Hp} {v0 : Value} {v1 : Value} {v2 : Value} {y0 : Int32} {a1 : Nat} {y2 : Int32} (c : Ins a1 h 5) : Rr 133 26 [v0, v1, v2] [.int y0, .ref a1, .int y2] h = (Den 26 [.ref a1, .int y0] (enH 26 h)).bind (fun z => Rr 133 29 [v0, v1, v2] (psh z.1 [.int y2]) (lvH 26 h z.2)) := R_vir (y := 26) (i := 45) (by decide +kernel) (by decide +kernel) (by decide +kernel) rfl rfl c ⟨Nat.le_of_ble_eq_true rfl, Nat.zero_le _, Nat.zero_le _⟩
theorem e133_29 {h : Hp} {v0 : Value} {v1 : Value} {v2 : Value} {y0 : Int32} {y1 : Int32} : Rr 133 29 [v0, v1, v2] [.int y0, .int y1] h = Rr 133 31 [v0, v1, v2] [.int (nI 100), .int y0, .int y1] h := R_step (x := (.bipush 100, 2)) (by decide +kernel) rfl
theorem e133_31 {h : Hp} {v0 : Value} {v1 : Value} {v2 : Value} {y0 : Int32} {y1 : Int32} {y2 : Int32} (c : ¬ y0 = 0) : Rr 133 31 [v0, v1, v2] [.int y0, .int y1, .int y2] h = Rr 133 32 [v0, v1, v2] [.int (y1 / y0), .int y2] h := R_div (by decide +kernel) c
theorem e133_32 {h : Hp} {v0 : Value} {v1 : Value} {v2 : Value} {y0 : Int32} {y1 : Int32} : Rr 133 32 [v0, v1, v2] [.int y0, .int y1] h = Rr 133 35 [v0, v1, v2] [.int (if y1 < y0 then y0 else y1)] h := R_max (i := 50) (by decide +kernel) (by decide +kernel) (Nat.le_of_ble_eq_true rfl)
theorem e133_35 {h : Hp} {v0 : Value} {v1 : Value} {v2 : Value} {y0 : Int32} : Rr 133 35 [v0, v1, v2] [.int y0] h = Rr 133 36 [v0, .int y0, v2] [] h := R_step (x := (.istore_n 1, 1)) (by decide +kernel) rfl
theorem e133_36 {h : Hp} {v0 : Value} {v1 : Value} {x2 : Int32} : Rr 133 36 [v0, v1, .int x2] [] h = Rr 133 39 [v0, v1, .int (x2 + nI 1)] [] h := R_step (x := (.iinc 2 1, 3)) (by decide +kernel) rfl
theorem e133_39 {h : Hp} {v0 : Value} {v1 : Value} {v2 : Value} : Rr 133 39 [v0, v1, v2] [] h = Rr 133 15 [v0, v1, v2] [] h := R_step (x := (.goto (-24), 3)) (by decide +kernel) rfl
theorem e133_42 {h : Hp} {v0 : Value} {v2 : Value} {x1 : Int32} : Rr 133 42 [v0, .int x1, v2] [] h = Rr 133 43 [v0, .int x1, v2] [.int x1] h := R_step (x := (.iload_n 1, 1)) (by decide +kernel) rfl
theorem e133_43 {h : Hp} {v0 : Value} {v1 : Value} {v2 : Value} {y0 : Int32} : Rr 133 43 [v0, v1, v2] [.int y0] h = some (some y0, h) := R_retI (by decide +kernel) (by decide +kernel)
theorem e20_0 {h : Hp} {v1 : Value} {v2 : Value} {v3 : Value} {x0 : Int32} : Rr 20 0 [.int x0, v1, v2, v3] [] h = Rr 20 1 [.int x0, v1, v2, v3] [.int x0] h := R_step (x := (.iload_n 0, 1)) (by decide +kernel) rfl
theorem e20_1 {h : Hp} {v0 : Value} {v1 : Value} {v2 : Value} {v3 : Value} {y0 : Int32} : Rr 20 1 [v0, v1, v2, v3] [.int y0] h = if y0 = nI 1 then Rr 20 36 [v0, v1, v2, v3] [] h else if y0 = nI 2 then Rr 20 85 [v0, v1, v2, v3] [] h else if y0 = nI 3 then Rr 20 47 [v0, v1, v2, v3] [] h else if y0 = nI 4 then Rr 20 63 [v0, v1, v2, v3] [] h else if y0 = nI 5 then Rr 20 74 [v0, v1, v2, v3] [] h else Rr 20 85 [v0, v1, v2, v3] [] h := (R_sw (d := 84) (lo := 1) (hi := 5) (offs := #[35, 84, 46, 62, 73]) (n := 35) (k := nI 1) (by decide +kernel) (by decide) (by decide)).trans rfl
theorem e20_36 {h : Hp} {v0 : Value} {v1 : Value} {v3 : Value} {x2 : Int32} : Rr 20 36 [v0, v1, .int x2, v3] [] h = Rr 20 37 [v0, v1, .int x2, v3] [.int x2] h := R_step (x := (.iload_n 2, 1)) (by decide +kernel) rfl
theorem e20_37 {h : Hp} {v0 : Value} {v1 : Value} {v2 : Value} {v3 : Value} {y0 : Int32} : Rr 20 37 [v0, v1, v2, v3] [.int y0] h = Rr 20 38 [v0, v1, v2, v3] [.int (nI 2), .int y0] h := R_step (x := (.iconst 2, 1)) (by decide +kernel) rfl
theorem e20_38 {h : Hp} {v0 : Value} {v1 : Value} {v2 : Value} {v3 : Value} {y0 : Int32} {y1 : Int32} : Rr 20 38 [v0, v1, v2, v3] [.int y0, .int y1] h = if ¬ y1 = y0 then Rr 20 45 [v0, v1, v2, v3] [] h else Rr 20 41 [v0, v1, v2, v3] [] h := R_br (off := 7) (x := (.if_icmp .ne 7, 3)) (by decide +kernel) rfl (by decide) rfl
theorem e20_41 {h : Hp} {v0 : Value} {v1 : Value} {v2 : Value} {v3 : Value} : Rr 20 41 [v0, v1, v2, v3] [] h = Rr 20 42 [v0, v1, v2, v3] [.int (nI 1)] h := R_step (x := (.iconst 1, 1)) (by decide +kernel) rfl
theorem e20_42 {h : Hp} {v0 : Value} {v1 : Value} {v2 : Value} {v3 : Value} {y0 : Int32} : Rr 20 42 [v0, v1, v2, v3] [.int y0] h = Rr 20 46 [v0, v1, v2, v3] [.int y0] h := R_step (x := (.goto 4, 3)) (by decide +kernel) rfl
theorem e20_45 {h : Hp} {v0 : Value} {v1 : Value} {v2 : Value} {v3 : Value} : Rr 20 45 [v0, v1, v2, v3] [] h = Rr 20 46 [v0, v1, v2, v3] [.int (nI 0)] h := R_step (x := (.iconst 0, 1)) (by decide +kernel) rfl
theorem e20_46 {h : Hp} {v0 : Value} {v1 : Value} {v2 : Value} {v3 : Value} {y0 : Int32} (c : y0 = 0 ∨ y0 = 1) : Rr 20 46 [v0, v1, v2, v3] [.int y0] h = some (some y0, h) := R_retZ (by decide +kernel) (by decide +kernel) c
theorem e20_47 {h : Hp} {v0 : Value} {v1 : Value} {v2 : Value} {x3 : Int32} : Rr 20 47 [v0, v1, v2, .int x3] [] h = Rr 20 48 [v0, v1, v2, .int x3] [.int x3] h := R_step (x := (.iload_n 3, 1)) (by decide +kernel) rfl
theorem e20_48 {h : Hp} {v0 : Value} {v1 : Value} {v2 : Value} {v3 : Value} {y0 : Int32} : Rr 20 48 [v0, v1, v2, v3] [.int y0] h = Rr 20 49 [v0, v1, v2, v3] [.int (nI 1), .int y0] h := R_step (x := (.iconst 1, 1)) (by decide +kernel) rfl
theorem e20_49 {h : Hp} {v0 : Value} {v1 : Value} {v2 : Value} {v3 : Value} {y0 : Int32} {y1 : Int32} : Rr 20 49 [v0, v1, v2, v3] [.int y0, .int y1] h = if ¬ y1 = y0 then Rr 20 61 [v0, v1, v2, v3] [] h else Rr 20 52 [v0, v1, v2, v3] [] h := R_br (off := 12) (x := (.if_icmp .ne 12, 3)) (by decide +kernel) rfl (by decide) rfl
theorem e20_52 {h : Hp} {v0 : Value} {v2 : Value} {v3 : Value} {x1 : Int32} : Rr 20 52 [v0, .int x1, v2, v3] [] h = Rr 20 53 [v0, .int x1, v2, v3] [.int x1] h := R_step (x := (.iload_n 1, 1)) (by decide +kernel) rfl
theorem e20_53 {h : Hp} {v0 : Value} {v1 : Value} {v2 : Value} {v3 : Value} {y0 : Int32} : Rr 20 53 [v0, v1, v2, v3] [.int y0] h = Rr 20 54 [v0, v1, v2, v3] [.int (nI 1), .int y0] h := R_step (x := (.iconst 1, 1)) (by decide +kernel) rfl
theorem e20_54 {h : Hp} {v0 : Value} {v1 : Value} {v2 : Value} {v3 : Value} {y0 : Int32} {y1 : Int32} : Rr 20 54 [v0, v1, v2, v3] [.int y0, .int y1] h = if ¬ y1 = y0 then Rr 20 61 [v0, v1, v2, v3] [] h else Rr 20 57 [v0, v1, v2, v3] [] h := R_br (off := 7) (x := (.if_icmp .ne 7, 3)) (by decide +kernel) rfl (by decide) rfl
theorem e20_57 {h : Hp} {v0 : Value} {v1 : Value} {v2 : Value} {v3 : Value} : Rr 20 57 [v0, v1, v2, v3] [] h = Rr 20 58 [v0, v1, v2, v3] [.int (nI 1)] h := R_step (x := (.iconst 1, 1)) (by decide +kernel) rfl
theorem e20_58 {h : Hp} {v0 : Value} {v1 : Value} {v2 : Value} {v3 : Value} {y0 : Int32} : Rr 20 58 [v0, v1, v2, v3] [.int y0] h = Rr 20 62 [v0, v1, v2, v3] [.int y0] h := R_step (x := (.goto 4, 3)) (by decide +kernel) rfl
theorem e20_61 {h : Hp} {v0 : Value} {v1 : Value} {v2 : Value} {v3 : Value} : Rr 20 61 [v0, v1, v2, v3] [] h = Rr 20 62 [v0, v1, v2, v3] [.int (nI 0)] h := R_step (x := (.iconst 0, 1)) (by decide +kernel) rfl
theorem e20_62 {h : Hp} {v0 : Value} {v1 : Value} {v2 : Value} {v3 : Value} {y0 : Int32} (c : y0 = 0 ∨ y0 = 1) : Rr 20 62 [v0, v1, v2, v3] [.int y0] h = some (some y0, h) := R_retZ (by decide +kernel) (by decide +kernel) c
theorem e20_63 {h : Hp} {v0 : Value} {v2 : Value} {v3 : Value} {x1 : Int32} : Rr 20 63 [v0, .int x1, v2, v3] [] h = Rr 20 64 [v0, .int x1, v2, v3] [.int x1] h := R_step (x := (.iload_n 1, 1)) (by decide +kernel) rfl
theorem e20_64 {h : Hp} {v0 : Value} {v1 : Value} {v2 : Value} {v3 : Value} {y0 : Int32} : Rr 20 64 [v0, v1, v2, v3] [.int y0] h = Rr 20 65 [v0, v1, v2, v3] [.int (nI 1), .int y0] h := R_step (x := (.iconst 1, 1)) (by decide +kernel) rfl
theorem e20_65 {h : Hp} {v0 : Value} {v1 : Value} {v2 : Value} {v3 : Value} {y0 : Int32} {y1 : Int32} : Rr 20 65 [v0, v1, v2, v3] [.int y0, .int y1] h = if ¬ y1 = y0 then Rr 20 72 [v0, v1, v2, v3] [] h else Rr 20 68 [v0, v1, v2, v3] [] h := R_br (off := 7) (x := (.if_icmp .ne 7, 3)) (by decide +kernel) rfl (by decide) rfl
theorem e20_68 {h : Hp} {v0 : Value} {v1 : Value} {v2 : Value} {v3 : Value} : Rr 20 68 [v0, v1, v2, v3] [] h = Rr 20 69 [v0, v1, v2, v3] [.int (nI 1)] h := R_step (x := (.iconst 1, 1)) (by decide +kernel) rfl
theorem e20_69 {h : Hp} {v0 : Value} {v1 : Value} {v2 : Value} {v3 : Value} {y0 : Int32} : Rr 20 69 [v0, v1, v2, v3] [.int y0] h = Rr 20 73 [v0, v1, v2, v3] [.int y0] h := R_step (x := (.goto 4, 3)) (by decide +kernel) rfl
theorem e20_72 {h : Hp} {v0 : Value} {v1 : Value} {v2 : Value} {v3 : Value} : Rr 20 72 [v0, v1, v2, v3] [] h = Rr 20 73 [v0, v1, v2, v3] [.int (nI 0)] h := R_step (x := (.iconst 0, 1)) (by decide +kernel) rfl
theorem e20_73 {h : Hp} {v0 : Value} {v1 : Value} {v2 : Value} {v3 : Value} {y0 : Int32} (c : y0 = 0 ∨ y0 = 1) : Rr 20 73 [v0, v1, v2, v3] [.int y0] h = some (some y0, h) := R_retZ (by decide +kernel) (by decide +kernel) c
theorem e20_74 {h : Hp} {v0 : Value} {v2 : Value} {v3 : Value} {x1 : Int32} : Rr 20 74 [v0, .int x1, v2, v3] [] h = Rr 20 75 [v0, .int x1, v2, v3] [.int x1] h := R_step (x := (.iload_n 1, 1)) (by decide +kernel) rfl
theorem e20_75 {h : Hp} {v0 : Value} {v1 : Value} {v2 : Value} {v3 : Value} {y0 : Int32} : Rr 20 75 [v0, v1, v2, v3] [.int y0] h = Rr 20 76 [v0, v1, v2, v3] [.int (nI 2), .int y0] h := R_step (x := (.iconst 2, 1)) (by decide +kernel) rfl
theorem e20_76 {h : Hp} {v0 : Value} {v1 : Value} {v2 : Value} {v3 : Value} {y0 : Int32} {y1 : Int32} : Rr 20 76 [v0, v1, v2, v3] [.int y0, .int y1] h = if ¬ y1 = y0 then Rr 20 83 [v0, v1, v2, v3] [] h else Rr 20 79 [v0, v1, v2, v3] [] h := R_br (off := 7) (x := (.if_icmp .ne 7, 3)) (by decide +kernel) rfl (by decide) rfl
theorem e20_79 {h : Hp} {v0 : Value} {v1 : Value} {v2 : Value} {v3 : Value} : Rr 20 79 [v0, v1, v2, v3] [] h = Rr 20 80 [v0, v1, v2, v3] [.int (nI 1)] h := R_step (x := (.iconst 1, 1)) (by decide +kernel) rfl
theorem e20_80 {h : Hp} {v0 : Value} {v1 : Value} {v2 : Value} {v3 : Value} {y0 : Int32} : Rr 20 80 [v0, v1, v2, v3] [.int y0] h = Rr 20 84 [v0, v1, v2, v3] [.int y0] h := R_step (x := (.goto 4, 3)) (by decide +kernel) rfl
theorem e20_83 {h : Hp} {v0 : Value} {v1 : Value} {v2 : Value} {v3 : Value} : Rr 20 83 [v0, v1, v2, v3] [] h = Rr 20 84 [v0, v1, v2, v3] [.int (nI 0)] h := R_step (x := (.iconst 0, 1)) (by decide +kernel) rfl
theorem e20_84 {h : Hp} {v0 : Value} {v1 : Value} {v2 : Value} {v3 : Value} {y0 : Int32} (c : y0 = 0 ∨ y0 = 1) : Rr 20 84 [v0, v1, v2, v3] [.int y0] h = some (some y0, h) := R_retZ (by decide +kernel) (by decide +kernel) c
theorem e20_85 {h : Hp} {v0 : Value} {v1 : Value} {v2 : Value} {v3 : Value} : Rr 20 85 [v0, v1, v2, v3] [] h = Rr 20 86 [v0, v1, v2, v3] [.int (nI 1)] h := R_step (x := (.iconst 1, 1)) (by decide +kernel) rfl
theorem e20_86 {h : Hp} {v0 : Value} {v1 : Value} {v2 : Value} {v3 : Value} {y0 : Int32} (c : y0 = 0 ∨ y0 = 1) : Rr 20 86 [v0, v1, v2, v3] [.int y0] h = some (some y0, h) := R_retZ (by decide +kernel) (by decide +kernel) c
theorem e21_0 {h : Hp} {v1 : Value} {v2 : Value} {x0 : Int32} : Rr 21 0 [.int x0, v1, v2] [] h = Rr 21 1 [.int x0, v1, v2] [.int x0] h := R_step (x := (.iload_n 0, 1)) (by decide +kernel) rfl
theorem e21_1 {h : Hp} {v0 : Value} {v2 : Value} {y0 : Int32} {x1 : Int32} : Rr 21 1 [v0, .int x1, v2] [.int y0] h = Rr 21 2 [v0, .int x1, v2] [.int x1, .int y0] h := R_step (x := (.iload_n 1, 1)) (by decide +kernel) rfl
theorem e21_2 {h : Hp} {v1 : Value} {v2 : Value} {y0 : Int32} {y1 : Int32} {x0 : Int32} : Rr 21 2 [.int x0, v1, v2] [.int y0, .int y1] h = Rr 21 3 [.int x0, v1, v2] [.int x0, .int y0, .int y1] h := R_step (x := (.iload_n 0, 1)) (by decide +kernel) rfl
theorem e21_3 {h : Hp} {v0 : Value} {v1 : Value} {v2 : Value} {y0 : Int32} {y1 : Int32} {y2 : Int32} : Rr 21 3 [v0, v1, v2] [.int y0, .int y1, .int y2] h = Rr 21 4 [v0, v1, v2] [.int (nI 1), .int y0, .int y1, .int y2] h := R_step (x := (.iconst 1, 1)) (by decide +kernel) rfl
theorem e21_4 {h : Hp} {v0 : Value} {v1 : Value} {v2 : Value} {y0 : Int32} {y1 : Int32} {y2 : Int32} {y3 : Int32} : Rr 21 4 [v0, v1, v2] [.int y0, .int y1, .int y2, .int y3] h = Rr 21 5 [v0, v1, v2] [.int (y1 - y0), .int y2, .int y3] h := R_step (x := (.isub, 1)) (by decide +kernel) rfl
theorem e21_5 {h : Hp} {v0 : Value} {v1 : Value} {v2 : Value} {y0 : Int32} {y1 : Int32} {y2 : Int32} : Rr 21 5 [v0, v1, v2] [.int y0, .int y1, .int y2] h = Rr 21 6 [v0, v1, v2] [.int (y1 * y0), .int y2] h := R_step (x := (.imul, 1)) (by decide +kernel) rfl
theorem e21_6 {h : Hp} {v0 : Value} {v1 : Value} {v2 : Value} {y0 : Int32} {y1 : Int32} : Rr 21 6 [v0, v1, v2] [.int y0, .int y1] h = Rr 21 7 [v0, v1, v2] [.int (y1 + y0)] h := R_step (x := (.iadd, 1)) (by decide +kernel) rfl
theorem e21_7 {h : Hp} {v0 : Value} {v1 : Value} {y0 : Int32} {x2 : Int32} : Rr 21 7 [v0, v1, .int x2] [.int y0] h = Rr 21 8 [v0, v1, .int x2] [.int x2, .int y0] h := R_step (x := (.iload_n 2, 1)) (by decide +kernel) rfl
theorem e21_8 {h : Hp} {v0 : Value} {v1 : Value} {v2 : Value} {y0 : Int32} {y1 : Int32} : Rr 21 8 [v0, v1, v2] [.int y0, .int y1] h = Rr 21 9 [v0, v1, v2] [.int (y1 + y0)] h := R_step (x := (.iadd, 1)) (by decide +kernel) rfl
theorem e21_9 {h : Hp} {v0 : Value} {v1 : Value} {v2 : Value} {y0 : Int32} : Rr 21 9 [v0, v1, v2] [.int y0] h = some (some y0, h) := R_retI (by decide +kernel) (by decide +kernel)
theorem e60_0 {h : Hp} {v1 : Value} {v2 : Value} {r0 : Nat} : Rr 60 0 [.ref r0, v1, v2] [] h = Rr 60 1 [.ref r0, v1, v2] [.ref r0] h := R_step (x := (.aload_n 0, 1)) (by decide +kernel) rfl
theorem e60_1 {h : Hp} {v0 : Value} {v1 : Value} {v2 : Value} {a0 : Nat} : Rr 60 1 [v0, v1, v2] [.ref a0] h = Rr 60 2 [v0, v1, v2] [.int (nI 1), .ref a0] h := R_step (x := (.iconst 1, 1)) (by decide +kernel) rfl
theorem e60_2 {h : Hp} {v0 : Value} {v1 : Value} {v2 : Value} {y0 : Int32} {a1 : Nat} (c : Ins a1 h 5) : Rr 60 2 [v0, v1, v2] [.int y0, .ref a1] h = (Den 25 [.ref a1, .int y0] (enH 25 h)).bind (fun z => Rr 60 5 [v0, v1, v2] (psh z.1 []) (lvH 25 h z.2)) := R_vir (y := 25) (i := 19) (by decide +kernel) (by decide +kernel) (by decide +kernel) rfl rfl c ⟨Nat.le_of_ble_eq_true rfl, Nat.zero_le _, Nat.zero_le _⟩
theorem e60_5 {h : Hp} {v0 : Value} {v1 : Value} {v2 : Value} {y0 : Int32} : Rr 60 5 [v0, v1, v2] [.int y0] h = if ¬ y0 = 0 then Rr 60 12 [v0, v1, v2] [] h else Rr 60 8 [v0, v1, v2] [] h := R_br (off := 7) (x := (.ifCond .ne 7, 3)) (by decide +kernel) rfl (by decide) rfl
theorem e60_8 {h : Hp} {v0 : Value} {v2 : Value} {x1 : Int32} : Rr 60 8 [v0, .int x1, v2] [] h = Rr 60 9 [v0, .int x1, v2] [.int x1] h := R_step (x := (.iload_n 1, 1)) (by decide +kernel) rfl
theorem e60_9 {h : Hp} {v0 : Value} {v1 : Value} {y0 : Int32} {x2 : Int32} : Rr 60 9 [v0, v1, .int x2] [.int y0] h = Rr 60 10 [v0, v1, .int x2] [.int x2, .int y0] h := R_step (x := (.iload_n 2, 1)) (by decide +kernel) rfl
theorem e60_10 {h : Hp} {v0 : Value} {v1 : Value} {v2 : Value} {y0 : Int32} {y1 : Int32} : Rr 60 10 [v0, v1, v2] [.int y0, .int y1] h = Rr 60 11 [v0, v1, v2] [.int (y1 - y0)] h := R_step (x := (.isub, 1)) (by decide +kernel) rfl
theorem e60_11 {h : Hp} {v0 : Value} {v1 : Value} {v2 : Value} {y0 : Int32} : Rr 60 11 [v0, v1, v2] [.int y0] h = some (some y0, h) := R_retI (by decide +kernel) (by decide +kernel)
theorem e60_12 {h : Hp} {v0 : Value} {v1 : Value} {x2 : Int32} : Rr 60 12 [v0, v1, .int x2] [] h = Rr 60 13 [v0, v1, .int x2] [.int x2] h := R_step (x := (.iload_n 2, 1)) (by decide +kernel) rfl
theorem e60_13 {h : Hp} {v1 : Value} {v2 : Value} {y0 : Int32} {r0 : Nat} : Rr 60 13 [.ref r0, v1, v2] [.int y0] h = Rr 60 14 [.ref r0, v1, v2] [.ref r0, .int y0] h := R_step (x := (.aload_n 0, 1)) (by decide +kernel) rfl
theorem e60_14 {h : Hp} {v0 : Value} {v1 : Value} {v2 : Value} {a0 : Nat} {y1 : Int32} : Rr 60 14 [v0, v1, v2] [.ref a0, .int y1] h = Rr 60 15 [v0, v1, v2] [.int (nI 3), .ref a0, .int y1] h := R_step (x := (.iconst 3, 1)) (by decide +kernel) rfl
theorem e60_15 {h : Hp} {v0 : Value} {v1 : Value} {v2 : Value} {y0 : Int32} {a1 : Nat} {y2 : Int32} (c : Ins a1 h 5) : Rr 60 15 [v0, v1, v2] [.int y0, .ref a1, .int y2] h = (Den 25 [.ref a1, .int y0] (enH 25 h)).bind (fun z => Rr 60 18 [v0, v1, v2] (psh z.1 [.int y2]) (lvH 25 h z.2)) := R_vir (y := 25) (i := 19) (by decide +kernel) (by decide +kernel) (by decide +kernel) rfl rfl c ⟨Nat.le_of_ble_eq_true rfl, Nat.zero_le _, Nat.zero_le _⟩
theorem e60_18 {h : Hp} {v0 : Value} {v1 : Value} {v2 : Value} {y0 : Int32} {y1 : Int32} : Rr 60 18 [v0, v1, v2] [.int y0, .int y1] h = Rr 60 19 [v0, v1, v2] [.int (nI 1), .int y0, .int y1] h := R_step (x := (.iconst 1, 1)) (by decide +kernel) rfl
theorem e60_19 {h : Hp} {v0 : Value} {v1 : Value} {v2 : Value} {y0 : Int32} {y1 : Int32} {y2 : Int32} : Rr 60 19 [v0, v1, v2] [.int y0, .int y1, .int y2] h = Rr 60 20 [v0, v1, v2] [.int (y1 - y0), .int y2] h := R_step (x := (.isub, 1)) (by decide +kernel) rfl
theorem e60_20 {h : Hp} {v0 : Value} {v1 : Value} {v2 : Value} {y0 : Int32} {y1 : Int32} : Rr 60 20 [v0, v1, v2] [.int y0, .int y1] h = if ¬ y1 = y0 then Rr 60 25 [v0, v1, v2] [] h else Rr 60 23 [v0, v1, v2] [] h := R_br (off := 5) (x := (.if_icmp .ne 5, 3)) (by decide +kernel) rfl (by decide) rfl
theorem e60_23 {h : Hp} {v0 : Value} {v2 : Value} {x1 : Int32} : Rr 60 23 [v0, .int x1, v2] [] h = Rr 60 24 [v0, .int x1, v2] [.int x1] h := R_step (x := (.iload_n 1, 1)) (by decide +kernel) rfl
theorem e60_24 {h : Hp} {v0 : Value} {v1 : Value} {v2 : Value} {y0 : Int32} : Rr 60 24 [v0, v1, v2] [.int y0] h = some (some y0, h) := R_retI (by decide +kernel) (by decide +kernel)
theorem e60_25 {h : Hp} {v0 : Value} {v1 : Value} {x2 : Int32} : Rr 60 25 [v0, v1, .int x2] [] h = Rr 60 26 [v0, v1, .int x2] [.int x2] h := R_step (x := (.iload_n 2, 1)) (by decide +kernel) rfl
theorem e60_26 {h : Hp} {v0 : Value} {v2 : Value} {y0 : Int32} {x1 : Int32} : Rr 60 26 [v0, .int x1, v2] [.int y0] h = Rr 60 27 [v0, .int x1, v2] [.int x1, .int y0] h := R_step (x := (.iload_n 1, 1)) (by decide +kernel) rfl
theorem e60_27 {h : Hp} {v0 : Value} {v1 : Value} {v2 : Value} {y0 : Int32} {y1 : Int32} : Rr 60 27 [v0, v1, v2] [.int y0, .int y1] h = if y0 ≤ y1 then Rr 60 34 [v0, v1, v2] [] h else Rr 60 30 [v0, v1, v2] [] h := R_br (off := 7) (x := (.if_icmp .ge 7, 3)) (by decide +kernel) rfl (by decide) rfl
theorem e60_30 {h : Hp} {v0 : Value} {v1 : Value} {x2 : Int32} : Rr 60 30 [v0, v1, .int x2] [] h = Rr 60 31 [v0, v1, .int x2] [.int x2] h := R_step (x := (.iload_n 2, 1)) (by decide +kernel) rfl
theorem e60_31 {h : Hp} {v0 : Value} {v1 : Value} {v2 : Value} {y0 : Int32} : Rr 60 31 [v0, v1, v2] [.int y0] h = Rr 60 37 [v0, v1, v2] [.int y0] h := R_step (x := (.goto 6, 3)) (by decide +kernel) rfl
theorem e60_34 {h : Hp} {v0 : Value} {v1 : Value} {x2 : Int32} : Rr 60 34 [v0, v1, .int x2] [] h = Rr 60 35 [v0, v1, .int x2] [.int x2] h := R_step (x := (.iload_n 2, 1)) (by decide +kernel) rfl
theorem e60_35 {h : Hp} {v0 : Value} {v1 : Value} {v2 : Value} {y0 : Int32} : Rr 60 35 [v0, v1, v2] [.int y0] h = Rr 60 36 [v0, v1, v2] [.int (nI 1), .int y0] h := R_step (x := (.iconst 1, 1)) (by decide +kernel) rfl
theorem e60_36 {h : Hp} {v0 : Value} {v1 : Value} {v2 : Value} {y0 : Int32} {y1 : Int32} : Rr 60 36 [v0, v1, v2] [.int y0, .int y1] h = Rr 60 37 [v0, v1, v2] [.int (y1 + y0)] h := R_step (x := (.iadd, 1)) (by decide +kernel) rfl
theorem e60_37 {h : Hp} {v0 : Value} {v1 : Value} {v2 : Value} {y0 : Int32} : Rr 60 37 [v0, v1, v2] [.int y0] h = some (some y0, h) := R_retI (by decide +kernel) (by decide +kernel)
theorem e61_0 {h : Hp} {v0 : Value} {v1 : Value} {v3 : Value} {x2 : Int32} : Rr 61 0 [v0, v1, .int x2, v3] [] h = Rr 61 1 [v0, v1, .int x2, v3] [.int x2] h := R_step (x := (.iload_n 2, 1)) (by decide +kernel) rfl
theorem e61_1 {h : Hp} {v0 : Value} {v1 : Value} {v2 : Value} {v3 : Value} {y0 : Int32} : Rr 61 1 [v0, v1, v2, v3] [.int y0] h = if ¬ y0 = 0 then Rr 61 6 [v0, v1, v2, v3] [] h else Rr 61 4 [v0, v1, v2, v3] [] h := R_br (off := 5) (x := (.ifCond .ne 5, 3)) (by decide +kernel) rfl (by decide) rfl
theorem e61_4 {h : Hp} {v0 : Value} {v2 : Value} {v3 : Value} {x1 : Int32} : Rr 61 4 [v0, .int x1, v2, v3] [] h = Rr 61 5 [v0, .int x1, v2, v3] [.int x1] h := R_step (x := (.iload_n 1, 1)) (by decide +kernel) rfl
theorem e61_5 {h : Hp} {v0 : Value} {v1 : Value} {v2 : Value} {v3 : Value} {y0 : Int32} : Rr 61 5 [v0, v1, v2, v3] [.int y0] h = some (some y0, h) := R_retI (by decide +kernel) (by decide +kernel)
theorem e61_6 {h : Hp} {v0 : Value} {v1 : Value} {v3 : Value} {x2 : Int32} : Rr 61 6 [v0, v1, .int x2, v3] [] h = Rr 61 7 [v0, v1, .int x2, v3] [.int x2] h := R_step (x := (.iload_n 2, 1)) (by decide +kernel) rfl
theorem e61_7 {h : Hp} {v1 : Value} {v2 : Value} {v3 : Value} {y0 : Int32} {x0 : Int32} : Rr 61 7 [.int x0, v1, v2, v3] [.int y0] h = Rr 61 8 [.int x0, v1, v2, v3] [.int x0, .int y0] h := R_step (x := (.iload_n 0, 1)) (by decide +kernel) rfl
theorem e61_8 {h : Hp} {v0 : Value} {v1 : Value} {v2 : Value} {v3 : Value} {y0 : Int32} {y1 : Int32} : Rr 61 8 [v0, v1, v2, v3] [.int y0, .int y1] h = if y1 < y0 then Rr 61 20 [v0, v1, v2, v3] [] h else Rr 61 11 [v0, v1, v2, v3] [] h := R_br (off := 12) (x := (.if_icmp .lt 12, 3)) (by decide +kernel) rfl (by decide) rfl
theorem e61_11 {h : Hp} {v1 : Value} {v2 : Value} {v3 : Value} {x0 : Int32} : Rr 61 11 [.int x0, v1, v2, v3] [] h = Rr 61 12 [.int x0, v1, v2, v3] [.int x0] h := R_step (x := (.iload_n 0, 1)) (by decide +kernel) rfl
theorem e61_12 {h : Hp} {v0 : Value} {v2 : Value} {v3 : Value} {y0 : Int32} {x1 : Int32} : Rr 61 12 [v0, .int x1, v2, v3] [.int y0] h = Rr 61 13 [v0, .int x1, v2, v3] [.int x1, .int y0] h := R_step (x := (.iload_n 1, 1)) (by decide +kernel) rfl
theorem e61_13 {h : Hp} {v0 : Value} {v1 : Value} {v3 : Value} {y0 : Int32} {y1 : Int32} {x2 : Int32} : Rr 61 13 [v0, v1, .int x2, v3] [.int y0, .int y1] h = Rr 61 14 [v0, v1, .int x2, v3] [.int x2, .int y0, .int y1] h := R_step (x := (.iload_n 2, 1)) (by decide +kernel) rfl
theorem e61_14 {h : Hp} {v1 : Value} {v2 : Value} {v3 : Value} {y0 : Int32} {y1 : Int32} {y2 : Int32} {x0 : Int32} : Rr 61 14 [.int x0, v1, v2, v3] [.int y0, .int y1, .int y2] h = Rr 61 15 [.int x0, v1, v2, v3] [.int x0, .int y0, .int y1, .int y2] h := R_step (x := (.iload_n 0, 1)) (by decide +kernel) rfl
theorem e61_15 {h : Hp} {v0 : Value} {v1 : Value} {v2 : Value} {v3 : Value} {y0 : Int32} {y1 : Int32} {y2 : Int32} {y3 : Int32} : Rr 61 15 [v0, v1, v2, v3] [.int y0, .int y1, .int y2, .int y3] h = Rr 61 16 [v0, v1, v2, v3] [.int (y1 - y0), .int y2, .int y3] h := R_step (x := (.isub, 1)) (by decide +kernel) rfl
theorem e61_16 {h : Hp} {v0 : Value} {v1 : Value} {v2 : Value} {v3 : Value} {y0 : Int32} {y1 : Int32} {y2 : Int32} : Rr 61 16 [v0, v1, v2, v3] [.int y0, .int y1, .int y2] h = (Den 21 [.int y2, .int y1, .int y0] (enH 21 h)).bind (fun z => Rr 61 19 [v0, v1, v2, v3] (psh z.1 []) (lvH 21 h z.2)) := R_sta (y := 21) (i := 63) (by decide +kernel) (by decide +kernel) (by decide +kernel) rfl rfl rfl ⟨Nat.le_of_ble_eq_true rfl, Nat.zero_le _, Nat.zero_le _⟩
theorem e61_19 {h : Hp} {v0 : Value} {v1 : Value} {v2 : Value} {v3 : Value} {y0 : Int32} : Rr 61 19 [v0, v1, v2, v3] [.int y0] h = some (some y0, h) := R_retI (by decide +kernel) (by decide +kernel)
theorem e61_20 {h : Hp} {v0 : Value} {v1 : Value} {v3 : Value} {x2 : Int32} : Rr 61 20 [v0, v1, .int x2, v3] [] h = Rr 61 21 [v0, v1, .int x2, v3] [.int x2] h := R_step (x := (.iload_n 2, 1)) (by decide +kernel) rfl
theorem e61_21 {h : Hp} {v0 : Value} {v2 : Value} {v3 : Value} {y0 : Int32} {x1 : Int32} : Rr 61 21 [v0, .int x1, v2, v3] [.int y0] h = Rr 61 22 [v0, .int x1, v2, v3] [.int x1, .int y0] h := R_step (x := (.iload_n 1, 1)) (by decide +kernel) rfl
theorem e61_22 {h : Hp} {v0 : Value} {v1 : Value} {v2 : Value} {v3 : Value} {y0 : Int32} {y1 : Int32} : Rr 61 22 [v0, v1, v2, v3] [.int y0, .int y1] h = if y0 < y1 then Rr 61 31 [v0, v1, v2, v3] [] h else Rr 61 25 [v0, v1, v2, v3] [] h := R_br (off := 9) (x := (.if_icmp .gt 9, 3)) (by decide +kernel) rfl (by decide) rfl
theorem e61_25 {h : Hp} {v0 : Value} {v1 : Value} {v3 : Value} {x2 : Int32} : Rr 61 25 [v0, v1, .int x2, v3] [] h = Rr 61 26 [v0, v1, .int x2, v3] [.int x2] h := R_step (x := (.iload_n 2, 1)) (by decide +kernel) rfl
theorem e61_26 {h : Hp} {v0 : Value} {v1 : Value} {v2 : Value} {v3 : Value} {y0 : Int32} : Rr 61 26 [v0, v1, v2, v3] [.int y0] h = Rr 61 27 [v0, v1, v2, v3] [.int (nI 1), .int y0] h := R_step (x := (.iconst 1, 1)) (by decide +kernel) rfl
theorem e61_27 {h : Hp} {v0 : Value} {v1 : Value} {v2 : Value} {v3 : Value} {y0 : Int32} {y1 : Int32} : Rr 61 27 [v0, v1, v2, v3] [.int y0, .int y1] h = Rr 61 28 [v0, v1, v2, v3] [.int (y1 - y0)] h := R_step (x := (.isub, 1)) (by decide +kernel) rfl
theorem e61_28 {h : Hp} {v0 : Value} {v1 : Value} {v2 : Value} {v3 : Value} {y0 : Int32} : Rr 61 28 [v0, v1, v2, v3] [.int y0] h = Rr 61 32 [v0, v1, v2, v3] [.int y0] h := R_step (x := (.goto 4, 3)) (by decide +kernel) rfl
theorem e61_31 {h : Hp} {v0 : Value} {v1 : Value} {v3 : Value} {x2 : Int32} : Rr 61 31 [v0, v1, .int x2, v3] [] h = Rr 61 32 [v0, v1, .int x2, v3] [.int x2] h := R_step (x := (.iload_n 2, 1)) (by decide +kernel) rfl
theorem e61_32 {h : Hp} {v0 : Value} {v1 : Value} {v2 : Value} {v3 : Value} {y0 : Int32} : Rr 61 32 [v0, v1, v2, v3] [.int y0] h = Rr 61 33 [v0, v1, v2, .int y0] [] h := R_step (x := (.istore_n 3, 1)) (by decide +kernel) rfl
theorem e61_33 {h : Hp} {v1 : Value} {v2 : Value} {v3 : Value} {x0 : Int32} : Rr 61 33 [.int x0, v1, v2, v3] [] h = Rr 61 34 [.int x0, v1, v2, v3] [.int x0] h := R_step (x := (.iload_n 0, 1)) (by decide +kernel) rfl
theorem e61_34 {h : Hp} {v0 : Value} {v1 : Value} {v2 : Value} {y0 : Int32} {x3 : Int32} : Rr 61 34 [v0, v1, v2, .int x3] [.int y0] h = Rr 61 35 [v0, v1, v2, .int x3] [.int x3, .int y0] h := R_step (x := (.iload_n 3, 1)) (by decide +kernel) rfl
theorem e61_35 {h : Hp} {v0 : Value} {v2 : Value} {v3 : Value} {y0 : Int32} {y1 : Int32} {x1 : Int32} : Rr 61 35 [v0, .int x1, v2, v3] [.int y0, .int y1] h = Rr 61 36 [v0, .int x1, v2, v3] [.int x1, .int y0, .int y1] h := R_step (x := (.iload_n 1, 1)) (by decide +kernel) rfl
theorem e61_36 {h : Hp} {v0 : Value} {v1 : Value} {v2 : Value} {y0 : Int32} {y1 : Int32} {y2 : Int32} {x3 : Int32} : Rr 61 36 [v0, v1, v2, .int x3] [.int y0, .int y1, .int y2] h = Rr 61 37 [v0, v1, v2, .int x3] [.int x3, .int y0, .int y1, .int y2] h := R_step (x := (.iload_n 3, 1)) (by decide +kernel) rfl
theorem e61_37 {h : Hp} {v0 : Value} {v1 : Value} {v2 : Value} {v3 : Value} {y0 : Int32} {y1 : Int32} {y2 : Int32} {y3 : Int32} : Rr 61 37 [v0, v1, v2, v3] [.int y0, .int y1, .int y2, .int y3] h = if y0 ≤ y1 then Rr 61 44 [v0, v1, v2, v3] [.int y2, .int y3] h else Rr 61 40 [v0, v1, v2, v3] [.int y2, .int y3] h := R_br (off := 7) (x := (.if_icmp .ge 7, 3)) (by decide +kernel) rfl (by decide) rfl
theorem e61_40 {h : Hp} {v0 : Value} {v2 : Value} {v3 : Value} {y0 : Int32} {y1 : Int32} {x1 : Int32} : Rr 61 40 [v0, .int x1, v2, v3] [.int y0, .int y1] h = Rr 61 41 [v0, .int x1, v2, v3] [.int x1, .int y0, .int y1] h := R_step (x := (.iload_n 1, 1)) (by decide +kernel) rfl
theorem e61_41 {h : Hp} {v0 : Value} {v1 : Value} {v2 : Value} {v3 : Value} {y0 : Int32} {y1 : Int32} {y2 : Int32} : Rr 61 41 [v0, v1, v2, v3] [.int y0, .int y1, .int y2] h = Rr 61 47 [v0, v1, v2, v3] [.int y0, .int y1, .int y2] h := R_step (x := (.goto 6, 3)) (by decide +kernel) rfl
theorem e61_44 {h : Hp} {v0 : Value} {v2 : Value} {v3 : Value} {y0 : Int32} {y1 : Int32} {x1 : Int32} : Rr 61 44 [v0, .int x1, v2, v3] [.int y0, .int y1] h = Rr 61 45 [v0, .int x1, v2, v3] [.int x1, .int y0, .int y1] h := R_step (x := (.iload_n 1, 1)) (by decide +kernel) rfl
theorem e61_45 {h : Hp} {v0 : Value} {v1 : Value} {v2 : Value} {v3 : Value} {y0 : Int32} {y1 : Int32} {y2 : Int32} : Rr 61 45 [v0, v1, v2, v3] [.int y0, .int y1, .int y2] h = Rr 61 46 [v0, v1, v2, v3] [.int (nI 1), .int y0, .int y1, .int y2] h := R_step (x := (.iconst 1, 1)) (by decide +kernel) rfl
theorem e61_46 {h : Hp} {v0 : Value} {v1 : Value} {v2 : Value} {v3 : Value} {y0 : Int32} {y1 : Int32} {y2 : Int32} {y3 : Int32} : Rr 61 46 [v0, v1, v2, v3] [.int y0, .int y1, .int y2, .int y3] h = Rr 61 47 [v0, v1, v2, v3] [.int (y1 - y0), .int y2, .int y3] h := R_step (x := (.isub, 1)) (by decide +kernel) rfl
theorem e61_47 {h : Hp} {v0 : Value} {v1 : Value} {v2 : Value} {v3 : Value} {y0 : Int32} {y1 : Int32} {y2 : Int32} : Rr 61 47 [v0, v1, v2, v3] [.int y0, .int y1, .int y2] h = (Den 21 [.int y2, .int y1, .int y0] (enH 21 h)).bind (fun z => Rr 61 50 [v0, v1, v2, v3] (psh z.1 []) (lvH 21 h z.2)) := R_sta (y := 21) (i := 63) (by decide +kernel) (by decide +kernel) (by decide +kernel) rfl rfl rfl ⟨Nat.le_of_ble_eq_true rfl, Nat.zero_le _, Nat.zero_le _⟩
theorem e61_50 {h : Hp} {v0 : Value} {v1 : Value} {v2 : Value} {v3 : Value} {y0 : Int32} : Rr 61 50 [v0, v1, v2, v3] [.int y0] h = some (some y0, h) := R_retI (by decide +kernel) (by decide +kernel)
theorem e62_0 {h : Hp} {v1 : Value} {r0 : Nat} : Rr 62 0 [.ref r0, v1] [] h = Rr 62 1 [.ref r0, v1] [.ref r0] h := R_step (x := (.aload_n 0, 1)) (by decide +kernel) rfl
theorem e62_1 {h : Hp} {v1 : Value} {a0 : Nat} {r0 : Nat} : Rr 62 1 [.ref r0, v1] [.ref a0] h = Rr 62 2 [.ref r0, v1] [.ref r0, .ref a0] h := R_step (x := (.aload_n 0, 1)) (by decide +kernel) rfl
theorem e62_2 {h : Hp} {v0 : Value} {a0 : Nat} {a1 : Nat} {x1 : Int32} : Rr 62 2 [v0, .int x1] [.ref a0, .ref a1] h = Rr 62 3 [v0, .int x1] [.int x1, .ref a0, .ref a1] h := R_step (x := (.iload_n 1, 1)) (by decide +kernel) rfl
theorem e62_3 {h : Hp} {v0 : Value} {v1 : Value} {y0 : Int32} {a1 : Nat} {a2 : Nat} : Rr 62 3 [v0, v1] [.int y0, .ref a1, .ref a2] h = Rr 62 4 [v0, v1] [.int (nI 0), .int y0, .ref a1, .ref a2] h := R_step (x := (.iconst 0, 1)) (by decide +kernel) rfl
theorem e62_4 {h : Hp} {v0 : Value} {v1 : Value} {y0 : Int32} {y1 : Int32} {a2 : Nat} {a3 : Nat} (c : Ins a2 h 5) : Rr 62 4 [v0, v1] [.int y0, .int y1, .ref a2, .ref a3] h = (Den 28 [.ref a2, .int y1, .int y0] (enH 28 h)).bind (fun z => Rr 62 7 [v0, v1] (psh z.1 [.ref a3]) (lvH 28 h z.2)) := R_vir (y := 28) (i := 23) (by decide +kernel) (by decide +kernel) (by decide +kernel) rfl rfl c ⟨Nat.le_of_ble_eq_true rfl, Nat.zero_le _, Nat.zero_le _⟩
theorem e62_7 {h : Hp} {v0 : Value} {v1 : Value} {y0 : Int32} {a1 : Nat} : Rr 62 7 [v0, v1] [.int y0, .ref a1] h = Rr 62 8 [v0, v1] [.int (nI 1), .int y0, .ref a1] h := R_step (x := (.iconst 1, 1)) (by decide +kernel) rfl
theorem e62_8 {h : Hp} {v0 : Value} {v1 : Value} {y0 : Int32} {y1 : Int32} {a2 : Nat} (c : Ins a2 h 5) : Rr 62 8 [v0, v1] [.int y0, .int y1, .ref a2] h = (Den 29 [.ref a2, .int y1, .int y0] (enH 29 h)).bind (fun z => Rr 62 11 [v0, v1] (psh z.1 []) (lvH 29 h z.2)) := R_vir (y := 29) (i := 60) (by decide +kernel) (by decide +kernel) (by decide +kernel) rfl rfl c ⟨Nat.le_of_ble_eq_true rfl, Nat.zero_le _, Nat.zero_le _⟩
theorem e62_11 {h : Hp} {v0 : Value} {v1 : Value} {y0 : Int32} : Rr 62 11 [v0, v1] [.int y0] h = some (some y0, h) := R_retI (by decide +kernel) (by decide +kernel)
theorem e103_0 {h : Hp} {v1 : Value} {v2 : Value} {v3 : Value} {v4 : Value} {v5 : Value} {r0 : Nat} : Rr 103 0 [.ref r0, v1, v2, v3, v4, v5] [] h = Rr 103 1 [.ref r0, v1, v2, v3, v4, v5] [.ref r0] h := R_step (x := (.aload_n 0, 1)) (by decide +kernel) rfl
theorem e103_1 {h : Hp} {v0 : Value} {v2 : Value} {v3 : Value} {v4 : Value} {v5 : Value} {a0 : Nat} {x1 : Int32} : Rr 103 1 [v0, .int x1, v2, v3, v4, v5] [.ref a0] h = Rr 103 2 [v0, .int x1, v2, v3, v4, v5] [.int x1, .ref a0] h := R_step (x := (.iload_n 1, 1)) (by decide +kernel) rfl
theorem e103_2 {h : Hp} {v0 : Value} {v1 : Value} {v2 : Value} {v3 : Value} {v4 : Value} {v5 : Value} {y0 : Int32} {a1 : Nat} (c : Ins a1 h 5) : Rr 103 2 [v0, v1, v2, v3, v4, v5] [.int y0, .ref a1] h = (Den 67 [.ref a1, .int y0] (enH 67 h)).bind (fun z => Rr 103 5 [v0, v1, v2, v3, v4, v5] (psh z.1 []) (lvH 67 h z.2)) := R_vir (y := 67) (i := 9) (by decide +kernel) (by decide +kernel) (by decide +kernel) rfl rfl c ⟨Nat.le_of_ble_eq_true rfl, Nat.zero_le _, Nat.zero_le _⟩
theorem e103_5 {h : Hp} {v0 : Value} {v1 : Value} {v2 : Value} {v3 : Value} {v4 : Value} {v5 : Value} {y0 : Int32} : Rr 103 5 [v0, v1, v2, v3, v4, v5] [.int y0] h = Rr 103 6 [v0, v1, v2, .int y0, v4, v5] [] h := R_step (x := (.istore_n 3, 1)) (by decide +kernel) rfl
theorem e103_6 {h : Hp} {v1 : Value} {v2 : Value} {v3 : Value} {v4 : Value} {v5 : Value} {r0 : Nat} : Rr 103 6 [.ref r0, v1, v2, v3, v4, v5] [] h = Rr 103 7 [.ref r0, v1, v2, v3, v4, v5] [.ref r0] h := R_step (x := (.aload_n 0, 1)) (by decide +kernel) rfl
theorem e103_7 {h : Hp} {v0 : Value} {v1 : Value} {v2 : Value} {v3 : Value} {v4 : Value} {v5 : Value} {a0 : Nat} (c : Ins a0 h 5) : Rr 103 7 [v0, v1, v2, v3, v4, v5] [.ref a0] h = (Den 65 [.ref a0] (enH 65 h)).bind (fun z => Rr 103 10 [v0, v1, v2, v3, v4, v5] (psh z.1 []) (lvH 65 h z.2)) := R_vir (y := 65) (i := 15) (by decide +kernel) (by decide +kernel) (by decide +kernel) rfl rfl c ⟨Nat.le_of_ble_eq_true rfl, Nat.zero_le _, Nat.zero_le _⟩
theorem e103_10 {h : Hp} {v0 : Value} {v1 : Value} {v2 : Value} {v3 : Value} {v4 : Value} {v5 : Value} {y0 : Int32} : Rr 103 10 [v0, v1, v2, v3, v4, v5] [.int y0] h = Rr 103 12 [v0, v1, v2, v3, .int y0, v5] [] h := R_step (x := (.istore 4, 2)) (by decide +kernel) rfl
theorem e103_12 {h : Hp} {v1 : Value} {v2 : Value} {v3 : Value} {v4 : Value} {v5 : Value} {r0 : Nat} : Rr 103 12 [.ref r0, v1, v2, v3, v4, v5] [] h = Rr 103 13 [.ref r0, v1, v2, v3, v4, v5] [.ref r0] h := R_step (x := (.aload_n 0, 1)) (by decide +kernel) rfl
theorem e103_13 {h : Hp} {v0 : Value} {v1 : Value} {v2 : Value} {v3 : Value} {v4 : Value} {v5 : Value} {a0 : Nat} : Rr 103 13 [v0, v1, v2, v3, v4, v5] [.ref a0] h = Rr 103 14 [v0, v1, v2, v3, v4, v5] [.int (nI 4), .ref a0] h := R_step (x := (.iconst 4, 1)) (by decide +kernel) rfl
theorem e103_14 {h : Hp} {v0 : Value} {v1 : Value} {v2 : Value} {v3 : Value} {v4 : Value} {v5 : Value} {y0 : Int32} {a1 : Nat} (c : Ins a1 h 5) : Rr 103 14 [v0, v1, v2, v3, v4, v5] [.int y0, .ref a1] h = (Den 25 [.ref a1, .int y0] (enH 25 h)).bind (fun z => Rr 103 17 [v0, v1, v2, v3, v4, v5] (psh z.1 []) (lvH 25 h z.2)) := R_vir (y := 25) (i := 19) (by decide +kernel) (by decide +kernel) (by decide +kernel) rfl rfl c ⟨Nat.le_of_ble_eq_true rfl, Nat.zero_le _, Nat.zero_le _⟩
theorem e103_17 {h : Hp} {v0 : Value} {v1 : Value} {v2 : Value} {v3 : Value} {v4 : Value} {v5 : Value} {y0 : Int32} : Rr 103 17 [v0, v1, v2, v3, v4, v5] [.int y0] h = Rr 103 19 [v0, v1, v2, v3, v4, .int y0] [] h := R_step (x := (.istore 5, 2)) (by decide +kernel) rfl
theorem e103_19 {h : Hp} {v1 : Value} {v2 : Value} {v3 : Value} {v4 : Value} {v5 : Value} {r0 : Nat} : Rr 103 19 [.ref r0, v1, v2, v3, v4, v5] [] h = Rr 103 20 [.ref r0, v1, v2, v3, v4, v5] [.ref r0] h := R_step (x := (.aload_n 0, 1)) (by decide +kernel) rfl
theorem e103_20 {h : Hp} {v0 : Value} {v1 : Value} {v2 : Value} {v3 : Value} {v4 : Value} {v5 : Value} {a0 : Nat} : Rr 103 20 [v0, v1, v2, v3, v4, v5] [.ref a0] h = Rr 103 21 [v0, v1, v2, v3, v4, v5] [.int (nI 0), .ref a0] h := R_step (x := (.iconst 0, 1)) (by decide +kernel) rfl
theorem e103_21 {h : Hp} {v0 : Value} {v1 : Value} {v2 : Value} {v3 : Value} {v4 : Value} {v5 : Value} {y0 : Int32} {a1 : Nat} (c : Ins a1 h 5) : Rr 103 21 [v0, v1, v2, v3, v4, v5] [.int y0, .ref a1] h = (Den 25 [.ref a1, .int y0] (enH 25 h)).bind (fun z => Rr 103 24 [v0, v1, v2, v3, v4, v5] (psh z.1 []) (lvH 25 h z.2)) := R_vir (y := 25) (i := 19) (by decide +kernel) (by decide +kernel) (by decide +kernel) rfl rfl c ⟨Nat.le_of_ble_eq_true rfl, Nat.zero_le _, Nat.zero_le _⟩
theorem e103_24 {h : Hp} {v0 : Value} {v1 : Value} {v2 : Value} {v3 : Value} {v4 : Value} {v5 : Value} {y0 : Int32} : Rr 103 24 [v0, v1, v2, v3, v4, v5] [.int y0] h = if y0 = nI 1 then Rr 103 60 [v0, v1, v2, v3, v4, v5] [] h else if y0 = nI 2 then Rr 103 85 [v0, v1, v2, v3, v4, v5] [] h else if y0 = nI 3 then Rr 103 150 [v0, v1, v2, v3, v4, v5] [] h else if y0 = nI 4 then Rr 103 106 [v0, v1, v2, v3, v4, v5] [] h else if y0 = nI 5 then Rr 103 131 [v0, v1, v2, v3, v4, v5] [] h else Rr 103 150 [v0, v1, v2, v3, v4, v5] [] h := (R_sw (d := 126) (lo := 1) (hi := 5) (offs := #[36, 61, 126, 82, 107]) (n := 36) (k := nI 1) (by decide +kernel) (by decide) (by decide)).trans rfl
theorem e103_60 {h : Hp} {v0 : Value} {v1 : Value} {v2 : Value} {v4 : Value} {v5 : Value} {x3 : Int32} : Rr 103 60 [v0, v1, v2, .int x3, v4, v5] [] h = Rr 103 61 [v0, v1, v2, .int x3, v4, v5] [.int x3] h := R_step (x := (.iload_n 3, 1)) (by decide +kernel) rfl
theorem e103_61 {h : Hp} {v0 : Value} {v1 : Value} {v2 : Value} {v3 : Value} {v4 : Value} {v5 : Value} {y0 : Int32} : Rr 103 61 [v0, v1, v2, v3, v4, v5] [.int y0] h = if y0 = 0 then Rr 103 83 [v0, v1, v2, v3, v4, v5] [] h else Rr 103 64 [v0, v1, v2, v3, v4, v5] [] h := R_br (off := 22) (x := (.ifCond .eq 22, 3)) (by decide +kernel) rfl (by decide) rfl
theorem e103_64 {h : Hp} {v0 : Value} {v1 : Value} {v2 : Value} {v3 : Value} {v5 : Value} {x4 : Int32} : Rr 103 64 [v0, v1, v2, v3, .int x4, v5] [] h = Rr 103 66 [v0, v1, v2, v3, .int x4, v5] [.int x4] h := R_step (x := (.iload 4, 2)) (by decide +kernel) rfl
theorem e103_66 {h : Hp} {v0 : Value} {v1 : Value} {v2 : Value} {v3 : Value} {v4 : Value} {v5 : Value} {y0 : Int32} : Rr 103 66 [v0, v1, v2, v3, v4, v5] [.int y0] h = if ¬ y0 = 0 then Rr 103 83 [v0, v1, v2, v3, v4, v5] [] h else Rr 103 69 [v0, v1, v2, v3, v4, v5] [] h := R_br (off := 17) (x := (.ifCond .ne 17, 3)) (by decide +kernel) rfl (by decide) rfl
theorem e103_69 {h : Hp} {v0 : Value} {v1 : Value} {v3 : Value} {v4 : Value} {v5 : Value} {x2 : Int32} : Rr 103 69 [v0, v1, .int x2, v3, v4, v5] [] h = Rr 103 70 [v0, v1, .int x2, v3, v4, v5] [.int x2] h := R_step (x := (.iload_n 2, 1)) (by decide +kernel) rfl
theorem e103_70 {h : Hp} {v1 : Value} {v2 : Value} {v3 : Value} {v4 : Value} {v5 : Value} {y0 : Int32} {r0 : Nat} : Rr 103 70 [.ref r0, v1, v2, v3, v4, v5] [.int y0] h = Rr 103 71 [.ref r0, v1, v2, v3, v4, v5] [.ref r0, .int y0] h := R_step (x := (.aload_n 0, 1)) (by decide +kernel) rfl
theorem e103_71 {h : Hp} {v0 : Value} {v2 : Value} {v3 : Value} {v4 : Value} {v5 : Value} {a0 : Nat} {y1 : Int32} {x1 : Int32} : Rr 103 71 [v0, .int x1, v2, v3, v4, v5] [.ref a0, .int y1] h = Rr 103 72 [v0, .int x1, v2, v3, v4, v5] [.int x1, .ref a0, .int y1] h := R_step (x := (.iload_n 1, 1)) (by decide +kernel) rfl
theorem e103_72 {h : Hp} {v0 : Value} {v1 : Value} {v2 : Value} {v3 : Value} {v4 : Value} {v5 : Value} {y0 : Int32} {a1 : Nat} {y2 : Int32} : Rr 103 72 [v0, v1, v2, v3, v4, v5] [.int y0, .ref a1, .int y2] h = Rr 103 73 [v0, v1, v2, v3, v4, v5] [.int (nI 4), .int y0, .ref a1, .int y2] h := R_step (x := (.iconst 4, 1)) (by decide +kernel) rfl
theorem e103_73 {h : Hp} {v0 : Value} {v1 : Value} {v2 : Value} {v3 : Value} {v4 : Value} {v5 : Value} {y0 : Int32} {y1 : Int32} {a2 : Nat} {y3 : Int32} (c : Ins a2 h 5) : Rr 103 73 [v0, v1, v2, v3, v4, v5] [.int y0, .int y1, .ref a2, .int y3] h = (Den 28 [.ref a2, .int y1, .int y0] (enH 28 h)).bind (fun z => Rr 103 76 [v0, v1, v2, v3, v4, v5] (psh z.1 [.int y3]) (lvH 28 h z.2)) := R_vir (y := 28) (i := 23) (by decide +kernel) (by decide +kernel) (by decide +kernel) rfl rfl c ⟨Nat.le_of_ble_eq_true rfl, Nat.zero_le _, Nat.zero_le _⟩
theorem e103_76 {h : Hp} {v0 : Value} {v1 : Value} {v2 : Value} {v3 : Value} {v4 : Value} {v5 : Value} {y0 : Int32} {y1 : Int32} : Rr 103 76 [v0, v1, v2, v3, v4, v5] [.int y0, .int y1] h = if ¬ y1 = y0 then Rr 103 83 [v0, v1, v2, v3, v4, v5] [] h else Rr 103 79 [v0, v1, v2, v3, v4, v5] [] h := R_br (off := 7) (x := (.if_icmp .ne 7, 3)) (by decide +kernel) rfl (by decide) rfl
theorem e103_79 {h : Hp} {v0 : Value} {v1 : Value} {v2 : Value} {v3 : Value} {v4 : Value} {v5 : Value} : Rr 103 79 [v0, v1, v2, v3, v4, v5] [] h = Rr 103 80 [v0, v1, v2, v3, v4, v5] [.int (nI 0)] h := R_step (x := (.iconst 0, 1)) (by decide +kernel) rfl
theorem e103_80 {h : Hp} {v0 : Value} {v1 : Value} {v2 : Value} {v3 : Value} {v4 : Value} {v5 : Value} {y0 : Int32} : Rr 103 80 [v0, v1, v2, v3, v4, v5] [.int y0] h = Rr 103 84 [v0, v1, v2, v3, v4, v5] [.int y0] h := R_step (x := (.goto 4, 3)) (by decide +kernel) rfl
theorem e103_83 {h : Hp} {v0 : Value} {v1 : Value} {v2 : Value} {v3 : Value} {v4 : Value} {v5 : Value} : Rr 103 83 [v0, v1, v2, v3, v4, v5] [] h = Rr 103 84 [v0, v1, v2, v3, v4, v5] [.int (nI 1)] h := R_step (x := (.iconst 1, 1)) (by decide +kernel) rfl
theorem e103_84 {h : Hp} {v0 : Value} {v1 : Value} {v2 : Value} {v3 : Value} {v4 : Value} {v5 : Value} {y0 : Int32} : Rr 103 84 [v0, v1, v2, v3, v4, v5] [.int y0] h = some (some y0, h) := R_retI (by decide +kernel) (by decide +kernel)
theorem e103_85 {h : Hp} {v0 : Value} {v1 : Value} {v2 : Value} {v4 : Value} {v5 : Value} {x3 : Int32} : Rr 103 85 [v0, v1, v2, .int x3, v4, v5] [] h = Rr 103 86 [v0, v1, v2, .int x3, v4, v5] [.int x3] h := R_step (x := (.iload_n 3, 1)) (by decide +kernel) rfl
theorem e103_86 {h : Hp} {v0 : Value} {v1 : Value} {v2 : Value} {v3 : Value} {v4 : Value} {v5 : Value} {y0 : Int32} : Rr 103 86 [v0, v1, v2, v3, v4, v5] [.int y0] h = if y0 = 0 then Rr 103 100 [v0, v1, v2, v3, v4, v5] [] h else Rr 103 89 [v0, v1, v2, v3, v4, v5] [] h := R_br (off := 14) (x := (.ifCond .eq 14, 3)) (by decide +kernel) rfl (by decide) rfl
theorem e103_89 {h : Hp} {v0 : Value} {v1 : Value} {v2 : Value} {v3 : Value} {v5 : Value} {x4 : Int32} : Rr 103 89 [v0, v1, v2, v3, .int x4, v5] [] h = Rr 103 91 [v0, v1, v2, v3, .int x4, v5] [.int x4] h := R_step (x := (.iload 4, 2)) (by decide +kernel) rfl
theorem e103_91 {h : Hp} {v0 : Value} {v1 : Value} {v2 : Value} {v3 : Value} {v4 : Value} {v5 : Value} {y0 : Int32} : Rr 103 91 [v0, v1, v2, v3, v4, v5] [.int y0] h = if ¬ y0 = 0 then Rr 103 100 [v0, v1, v2, v3, v4, v5] [] h else Rr 103 94 [v0, v1, v2, v3, v4, v5] [] h := R_br (off := 9) (x := (.ifCond .ne 9, 3)) (by decide +kernel) rfl (by decide) rfl
theorem e103_94 {h : Hp} {v0 : Value} {v1 : Value} {v3 : Value} {v4 : Value} {v5 : Value} {x2 : Int32} : Rr 103 94 [v0, v1, .int x2, v3, v4, v5] [] h = Rr 103 95 [v0, v1, .int x2, v3, v4, v5] [.int x2] h := R_step (x := (.iload_n 2, 1)) (by decide +kernel) rfl
theorem e103_95 {h : Hp} {v0 : Value} {v1 : Value} {v2 : Value} {v3 : Value} {v4 : Value} {v5 : Value} {y0 : Int32} : Rr 103 95 [v0, v1, v2, v3, v4, v5] [.int y0] h = Rr 103 96 [v0, v1, v2, v3, v4, v5] [.int (nI 1), .int y0] h := R_step (x := (.iconst 1, 1)) (by decide +kernel) rfl
theorem e103_96 {h : Hp} {v0 : Value} {v1 : Value} {v2 : Value} {v3 : Value} {v4 : Value} {v5 : Value} {y0 : Int32} {y1 : Int32} : Rr 103 96 [v0, v1, v2, v3, v4, v5] [.int y0, .int y1] h = Rr 103 97 [v0, v1, v2, v3, v4, v5] [.int (y1 + y0)] h := R_step (x := (.iadd, 1)) (by decide +kernel) rfl
theorem e103_97 {h : Hp} {v0 : Value} {v1 : Value} {v2 : Value} {v3 : Value} {v4 : Value} {v5 : Value} {y0 : Int32} : Rr 103 97 [v0, v1, v2, v3, v4, v5] [.int y0] h = Rr 103 105 [v0, v1, v2, v3, v4, v5] [.int y0] h := R_step (x := (.goto 8, 3)) (by decide +kernel) rfl
theorem e103_100 {h : Hp} {v1 : Value} {v2 : Value} {v3 : Value} {v4 : Value} {v5 : Value} {r0 : Nat} : Rr 103 100 [.ref r0, v1, v2, v3, v4, v5] [] h = Rr 103 101 [.ref r0, v1, v2, v3, v4, v5] [.ref r0] h := R_step (x := (.aload_n 0, 1)) (by decide +kernel) rfl
theorem e103_101 {h : Hp} {v0 : Value} {v1 : Value} {v2 : Value} {v3 : Value} {v4 : Value} {v5 : Value} {a0 : Nat} : Rr 103 101 [v0, v1, v2, v3, v4, v5] [.ref a0] h = Rr 103 102 [v0, v1, v2, v3, v4, v5] [.int (nI 3), .ref a0] h := R_step (x := (.iconst 3, 1)) (by decide +kernel) rfl
theorem e103_102 {h : Hp} {v0 : Value} {v1 : Value} {v2 : Value} {v3 : Value} {v4 : Value} {v5 : Value} {y0 : Int32} {a1 : Nat} (c : Ins a1 h 5) : Rr 103 102 [v0, v1, v2, v3, v4, v5] [.int y0, .ref a1] h = (Den 25 [.ref a1, .int y0] (enH 25 h)).bind (fun z => Rr 103 105 [v0, v1, v2, v3, v4, v5] (psh z.1 []) (lvH 25 h z.2)) := R_vir (y := 25) (i := 19) (by decide +kernel) (by decide +kernel) (by decide +kernel) rfl rfl c ⟨Nat.le_of_ble_eq_true rfl, Nat.zero_le _, Nat.zero_le _⟩
theorem e103_105 {h : Hp} {v0 : Value} {v1 : Value} {v2 : Value} {v3 : Value} {v4 : Value} {v5 : Value} {y0 : Int32} : Rr 103 105 [v0, v1, v2, v3, v4, v5] [.int y0] h = some (some y0, h) := R_retI (by decide +kernel) (by decide +kernel)
theorem e103_106 {h : Hp} {v0 : Value} {v1 : Value} {v2 : Value} {v4 : Value} {v5 : Value} {x3 : Int32} : Rr 103 106 [v0, v1, v2, .int x3, v4, v5] [] h = Rr 103 107 [v0, v1, v2, .int x3, v4, v5] [.int x3] h := R_step (x := (.iload_n 3, 1)) (by decide +kernel) rfl
theorem e103_107 {h : Hp} {v0 : Value} {v1 : Value} {v2 : Value} {v3 : Value} {v4 : Value} {v5 : Value} {y0 : Int32} : Rr 103 107 [v0, v1, v2, v3, v4, v5] [.int y0] h = if y0 = 0 then Rr 103 115 [v0, v1, v2, v3, v4, v5] [] h else Rr 103 110 [v0, v1, v2, v3, v4, v5] [] h := R_br (off := 8) (x := (.ifCond .eq 8, 3)) (by decide +kernel) rfl (by decide) rfl
theorem e103_110 {h : Hp} {v0 : Value} {v1 : Value} {v2 : Value} {v3 : Value} {v4 : Value} {x5 : Int32} : Rr 103 110 [v0, v1, v2, v3, v4, .int x5] [] h = Rr 103 112 [v0, v1, v2, v3, v4, .int x5] [.int x5] h := R_step (x := (.iload 5, 2)) (by decide +kernel) rfl
theorem e103_112 {h : Hp} {v0 : Value} {v1 : Value} {v2 : Value} {v3 : Value} {v4 : Value} {v5 : Value} {y0 : Int32} : Rr 103 112 [v0, v1, v2, v3, v4, v5] [.int y0] h = Rr 103 130 [v0, v1, v2, v3, v4, v5] [.int y0] h := R_step (x := (.goto 18, 3)) (by decide +kernel) rfl
theorem e103_115 {h : Hp} {v0 : Value} {v1 : Value} {v2 : Value} {v3 : Value} {v5 : Value} {x4 : Int32} : Rr 103 115 [v0, v1, v2, v3, .int x4, v5] [] h = Rr 103 117 [v0, v1, v2, v3, .int x4, v5] [.int x4] h := R_step (x := (.iload 4, 2)) (by decide +kernel) rfl
theorem e103_117 {h : Hp} {v0 : Value} {v1 : Value} {v2 : Value} {v3 : Value} {v4 : Value} {v5 : Value} {y0 : Int32} : Rr 103 117 [v0, v1, v2, v3, v4, v5] [.int y0] h = if y0 = 0 then Rr 103 124 [v0, v1, v2, v3, v4, v5] [] h else Rr 103 120 [v0, v1, v2, v3, v4, v5] [] h := R_br (off := 7) (x := (.ifCond .eq 7, 3)) (by decide +kernel) rfl (by decide) rfl
theorem e103_120 {h : Hp} {v0 : Value} {v1 : Value} {v2 : Value} {v3 : Value} {v4 : Value} {v5 : Value} : Rr 103 120 [v0, v1, v2, v3, v4, v5] [] h = Rr 103 121 [v0, v1, v2, v3, v4, v5] [.int (nI 1)] h := R_step (x := (.iconst 1, 1)) (by decide +kernel) rfl
theorem e103_121 {h : Hp} {v0 : Value} {v1 : Value} {v2 : Value} {v3 : Value} {v4 : Value} {v5 : Value} {y0 : Int32} : Rr 103 121 [v0, v1, v2, v3, v4, v5] [.int y0] h = Rr 103 130 [v0, v1, v2, v3, v4, v5] [.int y0] h := R_step (x := (.goto 9, 3)) (by decide +kernel) rfl
theorem e103_124 {h : Hp} {v0 : Value} {v1 : Value} {v2 : Value} {v3 : Value} {v4 : Value} {v5 : Value} : Rr 103 124 [v0, v1, v2, v3, v4, v5] [] h = Rr 103 125 [v0, v1, v2, v3, v4, v5] [.int (nI 2)] h := R_step (x := (.iconst 2, 1)) (by decide +kernel) rfl
theorem e103_125 {h : Hp} {v0 : Value} {v1 : Value} {v2 : Value} {v3 : Value} {v4 : Value} {y0 : Int32} {x5 : Int32} : Rr 103 125 [v0, v1, v2, v3, v4, .int x5] [.int y0] h = Rr 103 127 [v0, v1, v2, v3, v4, .int x5] [.int x5, .int y0] h := R_step (x := (.iload 5, 2)) (by decide +kernel) rfl
theorem e103_127 {h : Hp} {v0 : Value} {v1 : Value} {v2 : Value} {v3 : Value} {v4 : Value} {v5 : Value} {y0 : Int32} {y1 : Int32} : Rr 103 127 [v0, v1, v2, v3, v4, v5] [.int y0, .int y1] h = Rr 103 128 [v0, v1, v2, v3, v4, v5] [.int (y1 * y0)] h := R_step (x := (.imul, 1)) (by decide +kernel) rfl
theorem e103_128 {h : Hp} {v0 : Value} {v1 : Value} {v2 : Value} {v3 : Value} {v4 : Value} {v5 : Value} {y0 : Int32} : Rr 103 128 [v0, v1, v2, v3, v4, v5] [.int y0] h = Rr 103 129 [v0, v1, v2, v3, v4, v5] [.int (nI 1), .int y0] h := R_step (x := (.iconst 1, 1)) (by decide +kernel) rfl
theorem e103_129 {h : Hp} {v0 : Value} {v1 : Value} {v2 : Value} {v3 : Value} {v4 : Value} {v5 : Value} {y0 : Int32} {y1 : Int32} : Rr 103 129 [v0, v1, v2, v3, v4, v5] [.int y0, .int y1] h = Rr 103 130 [v0, v1, v2, v3, v4, v5] [.int (y1 - y0)] h := R_step (x := (.isub, 1)) (by decide +kernel) rfl
theorem e103_130 {h : Hp} {v0 : Value} {v1 : Value} {v2 : Value} {v3 : Value} {v4 : Value} {v5 : Value} {y0 : Int32} : Rr 103 130 [v0, v1, v2, v3, v4, v5] [.int y0] h = some (some y0, h) := R_retI (by decide +kernel) (by decide +kernel)
theorem e103_131 {h : Hp} {v0 : Value} {v1 : Value} {v2 : Value} {v4 : Value} {v5 : Value} {x3 : Int32} : Rr 103 131 [v0, v1, v2, .int x3, v4, v5] [] h = Rr 103 132 [v0, v1, v2, .int x3, v4, v5] [.int x3] h := R_step (x := (.iload_n 3, 1)) (by decide +kernel) rfl
theorem e103_132 {h : Hp} {v0 : Value} {v1 : Value} {v2 : Value} {v3 : Value} {v4 : Value} {v5 : Value} {y0 : Int32} : Rr 103 132 [v0, v1, v2, v3, v4, v5] [.int y0] h = if ¬ y0 = 0 then Rr 103 139 [v0, v1, v2, v3, v4, v5] [] h else Rr 103 135 [v0, v1, v2, v3, v4, v5] [] h := R_br (off := 7) (x := (.ifCond .ne 7, 3)) (by decide +kernel) rfl (by decide) rfl
theorem e103_135 {h : Hp} {v0 : Value} {v1 : Value} {v2 : Value} {v3 : Value} {v4 : Value} {v5 : Value} : Rr 103 135 [v0, v1, v2, v3, v4, v5] [] h = Rr 103 136 [v0, v1, v2, v3, v4, v5] [.int (nI 2)] h := R_step (x := (.iconst 2, 1)) (by decide +kernel) rfl
theorem e103_136 {h : Hp} {v0 : Value} {v1 : Value} {v2 : Value} {v3 : Value} {v4 : Value} {v5 : Value} {y0 : Int32} : Rr 103 136 [v0, v1, v2, v3, v4, v5] [.int y0] h = Rr 103 149 [v0, v1, v2, v3, v4, v5] [.int y0] h := R_step (x := (.goto 13, 3)) (by decide +kernel) rfl
theorem e103_139 {h : Hp} {v0 : Value} {v1 : Value} {v2 : Value} {v3 : Value} {v5 : Value} {x4 : Int32} : Rr 103 139 [v0, v1, v2, v3, .int x4, v5] [] h = Rr 103 141 [v0, v1, v2, v3, .int x4, v5] [.int x4] h := R_step (x := (.iload 4, 2)) (by decide +kernel) rfl
theorem e103_141 {h : Hp} {v0 : Value} {v1 : Value} {v2 : Value} {v3 : Value} {v4 : Value} {v5 : Value} {y0 : Int32} : Rr 103 141 [v0, v1, v2, v3, v4, v5] [.int y0] h = if y0 = 0 then Rr 103 148 [v0, v1, v2, v3, v4, v5] [] h else Rr 103 144 [v0, v1, v2, v3, v4, v5] [] h := R_br (off := 7) (x := (.ifCond .eq 7, 3)) (by decide +kernel) rfl (by decide) rfl
theorem e103_144 {h : Hp} {v0 : Value} {v1 : Value} {v2 : Value} {v3 : Value} {v4 : Value} {v5 : Value} : Rr 103 144 [v0, v1, v2, v3, v4, v5] [] h = Rr 103 145 [v0, v1, v2, v3, v4, v5] [.int (nI 1)] h := R_step (x := (.iconst 1, 1)) (by decide +kernel) rfl
theorem e103_145 {h : Hp} {v0 : Value} {v1 : Value} {v2 : Value} {v3 : Value} {v4 : Value} {v5 : Value} {y0 : Int32} : Rr 103 145 [v0, v1, v2, v3, v4, v5] [.int y0] h = Rr 103 149 [v0, v1, v2, v3, v4, v5] [.int y0] h := R_step (x := (.goto 4, 3)) (by decide +kernel) rfl
theorem e103_148 {h : Hp} {v0 : Value} {v1 : Value} {v2 : Value} {v3 : Value} {v4 : Value} {v5 : Value} : Rr 103 148 [v0, v1, v2, v3, v4, v5] [] h = Rr 103 149 [v0, v1, v2, v3, v4, v5] [.int (nI 3)] h := R_step (x := (.iconst 3, 1)) (by decide +kernel) rfl
theorem e103_149 {h : Hp} {v0 : Value} {v1 : Value} {v2 : Value} {v3 : Value} {v4 : Value} {v5 : Value} {y0 : Int32} : Rr 103 149 [v0, v1, v2, v3, v4, v5] [.int y0] h = some (some y0, h) := R_retI (by decide +kernel) (by decide +kernel)
theorem e103_150 {h : Hp} {v0 : Value} {v1 : Value} {v2 : Value} {v3 : Value} {v4 : Value} {v5 : Value} : Rr 103 150 [v0, v1, v2, v3, v4, v5] [] h = Rr 103 151 [v0, v1, v2, v3, v4, v5] [.int (nI 1)] h := R_step (x := (.iconst 1, 1)) (by decide +kernel) rfl
theorem e103_151 {h : Hp} {v0 : Value} {v1 : Value} {v2 : Value} {v3 : Value} {v4 : Value} {v5 : Value} {y0 : Int32} : Rr 103 151 [v0, v1, v2, v3, v4, v5] [.int y0] h = some (some y0, h) := R_retI (by decide +kernel) (by decide +kernel)
theorem e104_0 {h : Hp} {v1 : Value} {v2 : Value} {v3 : Value} {v4 : Value} {r0 : Nat} : Rr 104 0 [.ref r0, v1, v2, v3, v4] [] h = Rr 104 1 [.ref r0, v1, v2, v3, v4] [.ref r0] h := R_step (x := (.aload_n 0, 1)) (by decide +kernel) rfl
theorem e104_1 {h : Hp} {v0 : Value} {v2 : Value} {v3 : Value} {v4 : Value} {a0 : Nat} {x1 : Int32} : Rr 104 1 [v0, .int x1, v2, v3, v4] [.ref a0] h = Rr 104 2 [v0, .int x1, v2, v3, v4] [.int x1, .ref a0] h := R_step (x := (.iload_n 1, 1)) (by decide +kernel) rfl
theorem e104_2 {h : Hp} {v0 : Value} {v1 : Value} {v2 : Value} {v3 : Value} {v4 : Value} {y0 : Int32} {a1 : Nat} (c : Ins a1 h 5) : Rr 104 2 [v0, v1, v2, v3, v4] [.int y0, .ref a1] h = (Den 67 [.ref a1, .int y0] (enH 67 h)).bind (fun z => Rr 104 5 [v0, v1, v2, v3, v4] (psh z.1 []) (lvH 67 h z.2)) := R_vir (y := 67) (i := 9) (by decide +kernel) (by decide +kernel) (by decide +kernel) rfl rfl c ⟨Nat.le_of_ble_eq_true rfl, Nat.zero_le _, Nat.zero_le _⟩
theorem e104_5 {h : Hp} {v0 : Value} {v1 : Value} {v2 : Value} {v3 : Value} {v4 : Value} {y0 : Int32} : Rr 104 5 [v0, v1, v2, v3, v4] [.int y0] h = Rr 104 7 [v0, v1, v2, v3, .int y0] [] h := R_step (x := (.istore 4, 2)) (by decide +kernel) rfl
theorem e104_7 {h : Hp} {v1 : Value} {v2 : Value} {v3 : Value} {v4 : Value} {r0 : Nat} : Rr 104 7 [.ref r0, v1, v2, v3, v4] [] h = Rr 104 8 [.ref r0, v1, v2, v3, v4] [.ref r0] h := R_step (x := (.aload_n 0, 1)) (by decide +kernel) rfl
theorem e104_8 {h : Hp} {v0 : Value} {v1 : Value} {v2 : Value} {v3 : Value} {v4 : Value} {a0 : Nat} : Rr 104 8 [v0, v1, v2, v3, v4] [.ref a0] h = Rr 104 9 [v0, v1, v2, v3, v4] [.int (nI 0), .ref a0] h := R_step (x := (.iconst 0, 1)) (by decide +kernel) rfl
theorem e104_9 {h : Hp} {v0 : Value} {v1 : Value} {v2 : Value} {v3 : Value} {v4 : Value} {y0 : Int32} {a1 : Nat} (c : Ins a1 h 5) : Rr 104 9 [v0, v1, v2, v3, v4] [.int y0, .ref a1] h = (Den 25 [.ref a1, .int y0] (enH 25 h)).bind (fun z => Rr 104 12 [v0, v1, v2, v3, v4] (psh z.1 []) (lvH 25 h z.2)) := R_vir (y := 25) (i := 19) (by decide +kernel) (by decide +kernel) (by decide +kernel) rfl rfl c ⟨Nat.le_of_ble_eq_true rfl, Nat.zero_le _, Nat.zero_le _⟩
theorem e104_12 {h : Hp} {v0 : Value} {v1 : Value} {v2 : Value} {v3 : Value} {v4 : Value} {y0 : Int32} : Rr 104 12 [v0, v1, v2, v3, v4] [.int y0] h = if y0 = nI 2 then Rr 104 44 [v0, v1, v2, v3, v4] [] h else if y0 = nI 3 then Rr 104 99 [v0, v1, v2, v3, v4] [] h else if y0 = nI 4 then Rr 104 64 [v0, v1, v2, v3, v4] [] h else if y0 = nI 5 then Rr 104 89 [v0, v1, v2, v3, v4] [] h else Rr 104 99 [v0, v1, v2, v3, v4] [] h := (R_sw (d := 87) (lo := 2) (hi := 5) (offs := #[32, 87, 52, 77]) (n := 32) (k := nI 2) (by decide +kernel) (by decide) (by decide)).trans rfl
theorem e104_44 {h : Hp} {v0 : Value} {v1 : Value} {v2 : Value} {v3 : Value} {x4 : Int32} : Rr 104 44 [v0, v1, v2, v3, .int x4] [] h = Rr 104 46 [v0, v1, v2, v3, .int x4] [.int x4] h := R_step (x := (.iload 4, 2)) (by decide +kernel) rfl
theorem e104_46 {h : Hp} {v0 : Value} {v1 : Value} {v2 : Value} {v3 : Value} {v4 : Value} {y0 : Int32} : Rr 104 46 [v0, v1, v2, v3, v4] [.int y0] h = if y0 = 0 then Rr 104 62 [v0, v1, v2, v3, v4] [] h else Rr 104 49 [v0, v1, v2, v3, v4] [] h := R_br (off := 16) (x := (.ifCond .eq 16, 3)) (by decide +kernel) rfl (by decide) rfl
theorem e104_49 {h : Hp} {v1 : Value} {v2 : Value} {v3 : Value} {v4 : Value} {r0 : Nat} : Rr 104 49 [.ref r0, v1, v2, v3, v4] [] h = Rr 104 50 [.ref r0, v1, v2, v3, v4] [.ref r0] h := R_step (x := (.aload_n 0, 1)) (by decide +kernel) rfl
theorem e104_50 {h : Hp} {v1 : Value} {v2 : Value} {v3 : Value} {v4 : Value} {a0 : Nat} {r0 : Nat} : Rr 104 50 [.ref r0, v1, v2, v3, v4] [.ref a0] h = Rr 104 51 [.ref r0, v1, v2, v3, v4] [.ref r0, .ref a0] h := R_step (x := (.aload_n 0, 1)) (by decide +kernel) rfl
theorem e104_51 {h : Hp} {v0 : Value} {v2 : Value} {v3 : Value} {v4 : Value} {a0 : Nat} {a1 : Nat} {x1 : Int32} : Rr 104 51 [v0, .int x1, v2, v3, v4] [.ref a0, .ref a1] h = Rr 104 52 [v0, .int x1, v2, v3, v4] [.int x1, .ref a0, .ref a1] h := R_step (x := (.iload_n 1, 1)) (by decide +kernel) rfl
theorem e104_52 {h : Hp} {v0 : Value} {v1 : Value} {v2 : Value} {v3 : Value} {v4 : Value} {y0 : Int32} {a1 : Nat} {a2 : Nat} : Rr 104 52 [v0, v1, v2, v3, v4] [.int y0, .ref a1, .ref a2] h = (Den 62 [.ref a1, .int y0] (enH 62 h)).bind (fun z => Rr 104 55 [v0, v1, v2, v3, v4] (psh z.1 [.ref a2]) (lvH 62 h z.2)) := R_sta (y := 62) (i := 45) (by decide +kernel) (by decide +kernel) (by decide +kernel) rfl rfl rfl ⟨Nat.le_of_ble_eq_true rfl, Nat.zero_le _, Nat.zero_le _⟩
theorem e104_55 {h : Hp} {v0 : Value} {v1 : Value} {v3 : Value} {v4 : Value} {y0 : Int32} {a1 : Nat} {x2 : Int32} : Rr 104 55 [v0, v1, .int x2, v3, v4] [.int y0, .ref a1] h = Rr 104 56 [v0, v1, .int x2, v3, v4] [.int x2, .int y0, .ref a1] h := R_step (x := (.iload_n 2, 1)) (by decide +kernel) rfl
theorem e104_56 {h : Hp} {v0 : Value} {v1 : Value} {v2 : Value} {v3 : Value} {v4 : Value} {y0 : Int32} {y1 : Int32} {a2 : Nat} : Rr 104 56 [v0, v1, v2, v3, v4] [.int y0, .int y1, .ref a2] h = (Den 60 [.ref a2, .int y1, .int y0] (enH 60 h)).bind (fun z => Rr 104 59 [v0, v1, v2, v3, v4] (psh z.1 []) (lvH 60 h z.2)) := R_sta (y := 60) (i := 49) (by decide +kernel) (by decide +kernel) (by decide +kernel) rfl rfl rfl ⟨Nat.le_of_ble_eq_true rfl, Nat.zero_le _, Nat.zero_le _⟩
theorem e104_59 {h : Hp} {v0 : Value} {v1 : Value} {v2 : Value} {v3 : Value} {v4 : Value} {y0 : Int32} : Rr 104 59 [v0, v1, v2, v3, v4] [.int y0] h = Rr 104 63 [v0, v1, v2, v3, v4] [.int y0] h := R_step (x := (.goto 4, 3)) (by decide +kernel) rfl
theorem e104_62 {h : Hp} {v0 : Value} {v1 : Value} {v3 : Value} {v4 : Value} {x2 : Int32} : Rr 104 62 [v0, v1, .int x2, v3, v4] [] h = Rr 104 63 [v0, v1, .int x2, v3, v4] [.int x2] h := R_step (x := (.iload_n 2, 1)) (by decide +kernel) rfl
theorem e104_63 {h : Hp} {v0 : Value} {v1 : Value} {v2 : Value} {v3 : Value} {v4 : Value} {y0 : Int32} : Rr 104 63 [v0, v1, v2, v3, v4] [.int y0] h = some (some y0, h) := R_retI (by decide +kernel) (by decide +kernel)
theorem e104_64 {h : Hp} {v0 : Value} {v1 : Value} {v2 : Value} {v3 : Value} {x4 : Int32} : Rr 104 64 [v0, v1, v2, v3, .int x4] [] h = Rr 104 66 [v0, v1, v2, v3, .int x4] [.int x4] h := R_step (x := (.iload 4, 2)) (by decide +kernel) rfl
theorem e104_66 {h : Hp} {v0 : Value} {v1 : Value} {v2 : Value} {v3 : Value} {v4 : Value} {y0 : Int32} : Rr 104 66 [v0, v1, v2, v3, v4] [.int y0] h = if y0 = 0 then Rr 104 73 [v0, v1, v2, v3, v4] [] h else Rr 104 69 [v0, v1, v2, v3, v4] [] h := R_br (off := 7) (x := (.ifCond .eq 7, 3)) (by decide +kernel) rfl (by decide) rfl
theorem e104_69 {h : Hp} {v0 : Value} {v1 : Value} {v3 : Value} {v4 : Value} {x2 : Int32} : Rr 104 69 [v0, v1, .int x2, v3, v4] [] h = Rr 104 70 [v0, v1, .int x2, v3, v4] [.int x2] h := R_step (x := (.iload_n 2, 1)) (by decide +kernel) rfl
theorem e104_70 {h : Hp} {v0 : Value} {v1 : Value} {v2 : Value} {v3 : Value} {v4 : Value} {y0 : Int32} : Rr 104 70 [v0, v1, v2, v3, v4] [.int y0] h = Rr 104 88 [v0, v1, v2, v3, v4] [.int y0] h := R_step (x := (.goto 18, 3)) (by decide +kernel) rfl
theorem e104_73 {h : Hp} {v1 : Value} {v2 : Value} {v3 : Value} {v4 : Value} {r0 : Nat} : Rr 104 73 [.ref r0, v1, v2, v3, v4] [] h = Rr 104 74 [.ref r0, v1, v2, v3, v4] [.ref r0] h := R_step (x := (.aload_n 0, 1)) (by decide +kernel) rfl
theorem e104_74 {h : Hp} {v0 : Value} {v1 : Value} {v2 : Value} {v3 : Value} {v4 : Value} {a0 : Nat} : Rr 104 74 [v0, v1, v2, v3, v4] [.ref a0] h = Rr 104 75 [v0, v1, v2, v3, v4] [.int (nI 4), .ref a0] h := R_step (x := (.iconst 4, 1)) (by decide +kernel) rfl
theorem e104_75 {h : Hp} {v0 : Value} {v1 : Value} {v2 : Value} {v3 : Value} {v4 : Value} {y0 : Int32} {a1 : Nat} (c : Ins a1 h 5) : Rr 104 75 [v0, v1, v2, v3, v4] [.int y0, .ref a1] h = (Den 25 [.ref a1, .int y0] (enH 25 h)).bind (fun z => Rr 104 78 [v0, v1, v2, v3, v4] (psh z.1 []) (lvH 25 h z.2)) := R_vir (y := 25) (i := 19) (by decide +kernel) (by decide +kernel) (by decide +kernel) rfl rfl c ⟨Nat.le_of_ble_eq_true rfl, Nat.zero_le _, Nat.zero_le _⟩
theorem e104_78 {h : Hp} {v0 : Value} {v2 : Value} {v3 : Value} {v4 : Value} {y0 : Int32} {x1 : Int32} : Rr 104 78 [v0, .int x1, v2, v3, v4] [.int y0] h = Rr 104 79 [v0, .int x1, v2, v3, v4] [.int x1, .int y0] h := R_step (x := (.iload_n 1, 1)) (by decide +kernel) rfl
theorem e104_79 {h : Hp} {v1 : Value} {v2 : Value} {v3 : Value} {v4 : Value} {y0 : Int32} {y1 : Int32} {r0 : Nat} : Rr 104 79 [.ref r0, v1, v2, v3, v4] [.int y0, .int y1] h = Rr 104 80 [.ref r0, v1, v2, v3, v4] [.ref r0, .int y0, .int y1] h := R_step (x := (.aload_n 0, 1)) (by decide +kernel) rfl
theorem e104_80 {h : Hp} {v0 : Value} {v1 : Value} {v2 : Value} {v3 : Value} {v4 : Value} {a0 : Nat} {y1 : Int32} {y2 : Int32} (c : Ins a0 h 5) : Rr 104 80 [v0, v1, v2, v3, v4] [.ref a0, .int y1, .int y2] h = (Den 71 [.ref a0] (enH 71 h)).bind (fun z => Rr 104 83 [v0, v1, v2, v3, v4] (psh z.1 [.int y1, .int y2]) (lvH 71 h z.2)) := R_vir (y := 71) (i := 52) (by decide +kernel) (by decide +kernel) (by decide +kernel) rfl rfl c ⟨Nat.le_of_ble_eq_true rfl, Nat.zero_le _, Nat.zero_le _⟩
theorem e104_83 {h : Hp} {v0 : Value} {v1 : Value} {v2 : Value} {v3 : Value} {v4 : Value} {y0 : Int32} {y1 : Int32} {y2 : Int32} : Rr 104 83 [v0, v1, v2, v3, v4] [.int y0, .int y1, .int y2] h = Rr 104 84 [v0, v1, v2, v3, v4] [.int (y1 - y0), .int y2] h := R_step (x := (.isub, 1)) (by decide +kernel) rfl
theorem e104_84 {h : Hp} {v0 : Value} {v1 : Value} {v3 : Value} {v4 : Value} {y0 : Int32} {y1 : Int32} {x2 : Int32} : Rr 104 84 [v0, v1, .int x2, v3, v4] [.int y0, .int y1] h = Rr 104 85 [v0, v1, .int x2, v3, v4] [.int x2, .int y0, .int y1] h := R_step (x := (.iload_n 2, 1)) (by decide +kernel) rfl
theorem e104_85 {h : Hp} {v0 : Value} {v1 : Value} {v2 : Value} {v3 : Value} {v4 : Value} {y0 : Int32} {y1 : Int32} {y2 : Int32} : Rr 104 85 [v0, v1, v2, v3, v4] [.int y0, .int y1, .int y2] h = (Den 61 [.int y2, .int y1, .int y0] (enH 61 h)).bind (fun z => Rr 104 88 [v0, v1, v2, v3, v4] (psh z.1 []) (lvH 61 h z.2)) := R_sta (y := 61) (i := 56) (by decide +kernel) (by decide +kernel) (by decide +kernel) rfl rfl rfl ⟨Nat.le_of_ble_eq_true rfl, Nat.zero_le _, Nat.zero_le _⟩
theorem e104_88 {h : Hp} {v0 : Value} {v1 : Value} {v2 : Value} {v3 : Value} {v4 : Value} {y0 : Int32} : Rr 104 88 [v0, v1, v2, v3, v4] [.int y0] h = some (some y0, h) := R_retI (by decide +kernel) (by decide +kernel)
theorem e104_89 {h : Hp} {v0 : Value} {v1 : Value} {v2 : Value} {v4 : Value} {x3 : Int32} : Rr 104 89 [v0, v1, v2, .int x3, v4] [] h = Rr 104 90 [v0, v1, v2, .int x3, v4] [.int x3] h := R_step (x := (.iload_n 3, 1)) (by decide +kernel) rfl
theorem e104_90 {h : Hp} {v0 : Value} {v1 : Value} {v2 : Value} {v3 : Value} {v4 : Value} {y0 : Int32} : Rr 104 90 [v0, v1, v2, v3, v4] [.int y0] h = if y0 = 0 then Rr 104 97 [v0, v1, v2, v3, v4] [] h else Rr 104 93 [v0, v1, v2, v3, v4] [] h := R_br (off := 7) (x := (.ifCond .eq 7, 3)) (by decide +kernel) rfl (by decide) rfl
theorem e104_93 {h : Hp} {v0 : Value} {v1 : Value} {v3 : Value} {v4 : Value} {x2 : Int32} : Rr 104 93 [v0, v1, .int x2, v3, v4] [] h = Rr 104 94 [v0, v1, .int x2, v3, v4] [.int x2] h := R_step (x := (.iload_n 2, 1)) (by decide +kernel) rfl
theorem e104_94 {h : Hp} {v0 : Value} {v1 : Value} {v2 : Value} {v3 : Value} {v4 : Value} {y0 : Int32} : Rr 104 94 [v0, v1, v2, v3, v4] [.int y0] h = Rr 104 98 [v0, v1, v2, v3, v4] [.int y0] h := R_step (x := (.goto 4, 3)) (by decide +kernel) rfl
theorem e104_97 {h : Hp} {v0 : Value} {v2 : Value} {v3 : Value} {v4 : Value} {x1 : Int32} : Rr 104 97 [v0, .int x1, v2, v3, v4] [] h = Rr 104 98 [v0, .int x1, v2, v3, v4] [.int x1] h := R_step (x := (.iload_n 1, 1)) (by decide +kernel) rfl
theorem e104_98 {h : Hp} {v0 : Value} {v1 : Value} {v2 : Value} {v3 : Value} {v4 : Value} {y0 : Int32} : Rr 104 98 [v0, v1, v2, v3, v4] [.int y0] h = some (some y0, h) := R_retI (by decide +kernel) (by decide +kernel)
theorem e104_99 {h : Hp} {v0 : Value} {v1 : Value} {v2 : Value} {v3 : Value} {v4 : Value} : Rr 104 99 [v0, v1, v2, v3, v4] [] h = Rr 104 100 [v0, v1, v2, v3, v4] [.int (nI 0)] h := R_step (x := (.iconst 0, 1)) (by decide +kernel) rfl
theorem e104_100 {h : Hp} {v0 : Value} {v1 : Value} {v2 : Value} {v3 : Value} {v4 : Value} {y0 : Int32} : Rr 104 100 [v0, v1, v2, v3, v4] [.int y0] h = some (some y0, h) := R_retI (by decide +kernel) (by decide +kernel)
theorem e105_0 {h : Hp} {v1 : Value} {v2 : Value} {v3 : Value} {v4 : Value} {r0 : Nat} : Rr 105 0 [.ref r0, v1, v2, v3, v4] [] h = Rr 105 1 [.ref r0, v1, v2, v3, v4] [.ref r0] h := R_step (x := (.aload_n 0, 1)) (by decide +kernel) rfl
theorem e105_1 {h : Hp} {v0 : Value} {v2 : Value} {v3 : Value} {v4 : Value} {a0 : Nat} {x1 : Int32} : Rr 105 1 [v0, .int x1, v2, v3, v4] [.ref a0] h = Rr 105 2 [v0, .int x1, v2, v3, v4] [.int x1, .ref a0] h := R_step (x := (.iload_n 1, 1)) (by decide +kernel) rfl
theorem e105_2 {h : Hp} {v0 : Value} {v1 : Value} {v2 : Value} {v3 : Value} {v4 : Value} {y0 : Int32} {a1 : Nat} : Rr 105 2 [v0, v1, v2, v3, v4] [.int y0, .ref a1] h = Rr 105 3 [v0, v1, v2, v3, v4] [.int (nI 4), .int y0, .ref a1] h := R_step (x := (.iconst 4, 1)) (by decide +kernel) rfl
theorem e105_3 {h : Hp} {v0 : Value} {v1 : Value} {v2 : Value} {v3 : Value} {v4 : Value} {y0 : Int32} {y1 : Int32} {a2 : Nat} (c : Ins a2 h 5) : Rr 105 3 [v0, v1, v2, v3, v4] [.int y0, .int y1, .ref a2] h = (Den 28 [.ref a2, .int y1, .int y0] (enH 28 h)).bind (fun z => Rr 105 6 [v0, v1, v2, v3, v4] (psh z.1 []) (lvH 28 h z.2)) := R_vir (y := 28) (i := 23) (by decide +kernel) (by decide +kernel) (by decide +kernel) rfl rfl c ⟨Nat.le_of_ble_eq_true rfl, Nat.zero_le _, Nat.zero_le _⟩
theorem e105_6 {h : Hp} {v0 : Value} {v1 : Value} {v2 : Value} {v3 : Value} {v4 : Value} {y0 : Int32} : Rr 105 6 [v0, v1, v2, v3, v4] [.int y0] h = Rr 105 7 [v0, v1, v2, .int y0, v4] [] h := R_step (x := (.istore_n 3, 1)) (by decide +kernel) rfl
theorem e105_7 {h : Hp} {v1 : Value} {v2 : Value} {v3 : Value} {v4 : Value} {r0 : Nat} : Rr 105 7 [.ref r0, v1, v2, v3, v4] [] h = Rr 105 8 [.ref r0, v1, v2, v3, v4] [.ref r0] h := R_step (x := (.aload_n 0, 1)) (by decide +kernel) rfl
theorem e105_8 {h : Hp} {v0 : Value} {v2 : Value} {v3 : Value} {v4 : Value} {a0 : Nat} {x1 : Int32} : Rr 105 8 [v0, .int x1, v2, v3, v4] [.ref a0] h = Rr 105 9 [v0, .int x1, v2, v3, v4] [.int x1, .ref a0] h := R_step (x := (.iload_n 1, 1)) (by decide +kernel) rfl
theorem e105_9 {h : Hp} {v0 : Value} {v1 : Value} {v2 : Value} {v3 : Value} {v4 : Value} {y0 : Int32} {a1 : Nat} (c : Ins a1 h 5) : Rr 105 9 [v0, v1, v2, v3, v4] [.int y0, .ref a1] h = (Den 67 [.ref a1, .int y0] (enH 67 h)).bind (fun z => Rr 105 12 [v0, v1, v2, v3, v4] (psh z.1 []) (lvH 67 h z.2)) := R_vir (y := 67) (i := 9) (by decide +kernel) (by decide +kernel) (by decide +kernel) rfl rfl c ⟨Nat.le_of_ble_eq_true rfl, Nat.zero_le _, Nat.zero_le _⟩
theorem e105_12 {h : Hp} {v0 : Value} {v1 : Value} {v2 : Value} {v3 : Value} {v4 : Value} {y0 : Int32} : Rr 105 12 [v0, v1, v2, v3, v4] [.int y0] h = if ¬ y0 = 0 then Rr 105 17 [v0, v1, v2, v3, v4] [] h else Rr 105 15 [v0, v1, v2, v3, v4] [] h := R_br (off := 5) (x := (.ifCond .ne 5, 3)) (by decide +kernel) rfl (by decide) rfl
theorem e105_15 {h : Hp} {v0 : Value} {v1 : Value} {v2 : Value} {v4 : Value} {x3 : Int32} : Rr 105 15 [v0, v1, v2, .int x3, v4] [] h = Rr 105 16 [v0, v1, v2, .int x3, v4] [.int x3] h := R_step (x := (.iload_n 3, 1)) (by decide +kernel) rfl
theorem e105_16 {h : Hp} {v0 : Value} {v1 : Value} {v2 : Value} {v3 : Value} {v4 : Value} {y0 : Int32} : Rr 105 16 [v0, v1, v2, v3, v4] [.int y0] h = some (some y0, h) := R_retI (by decide +kernel) (by decide +kernel)
theorem e105_17 {h : Hp} {v1 : Value} {v2 : Value} {v3 : Value} {v4 : Value} {r0 : Nat} : Rr 105 17 [.ref r0, v1, v2, v3, v4] [] h = Rr 105 18 [.ref r0, v1, v2, v3, v4] [.ref r0] h := R_step (x := (.aload_n 0, 1)) (by decide +kernel) rfl
theorem e105_18 {h : Hp} {v0 : Value} {v2 : Value} {v3 : Value} {v4 : Value} {a0 : Nat} {x1 : Int32} : Rr 105 18 [v0, .int x1, v2, v3, v4] [.ref a0] h = Rr 105 19 [v0, .int x1, v2, v3, v4] [.int x1, .ref a0] h := R_step (x := (.iload_n 1, 1)) (by decide +kernel) rfl
theorem e105_19 {h : Hp} {v0 : Value} {v1 : Value} {v2 : Value} {v3 : Value} {v4 : Value} {y0 : Int32} {a1 : Nat} : Rr 105 19 [v0, v1, v2, v3, v4] [.int y0, .ref a1] h = (Den 62 [.ref a1, .int y0] (enH 62 h)).bind (fun z => Rr 105 22 [v0, v1, v2, v3, v4] (psh z.1 []) (lvH 62 h z.2)) := R_sta (y := 62) (i := 45) (by decide +kernel) (by decide +kernel) (by decide +kernel) rfl rfl rfl ⟨Nat.le_of_ble_eq_true rfl, Nat.zero_le _, Nat.zero_le _⟩
theorem e105_22 {h : Hp} {v0 : Value} {v1 : Value} {v2 : Value} {v3 : Value} {v4 : Value} {y0 : Int32} : Rr 105 22 [v0, v1, v2, v3, v4] [.int y0] h = Rr 105 24 [v0, v1, v2, v3, .int y0] [] h := R_step (x := (.istore 4, 2)) (by decide +kernel) rfl
theorem e105_24 {h : Hp} {v1 : Value} {v2 : Value} {v3 : Value} {v4 : Value} {r0 : Nat} : Rr 105 24 [.ref r0, v1, v2, v3, v4] [] h = Rr 105 25 [.ref r0, v1, v2, v3, v4] [.ref r0] h := R_step (x := (.aload_n 0, 1)) (by decide +kernel) rfl
theorem e105_25 {h : Hp} {v0 : Value} {v1 : Value} {v2 : Value} {v3 : Value} {v4 : Value} {a0 : Nat} : Rr 105 25 [v0, v1, v2, v3, v4] [.ref a0] h = Rr 105 26 [v0, v1, v2, v3, v4] [.int (nI 0), .ref a0] h := R_step (x := (.iconst 0, 1)) (by decide +kernel) rfl
theorem e105_26 {h : Hp} {v0 : Value} {v1 : Value} {v2 : Value} {v3 : Value} {v4 : Value} {y0 : Int32} {a1 : Nat} (c : Ins a1 h 5) : Rr 105 26 [v0, v1, v2, v3, v4] [.int y0, .ref a1] h = (Den 25 [.ref a1, .int y0] (enH 25 h)).bind (fun z => Rr 105 29 [v0, v1, v2, v3, v4] (psh z.1 []) (lvH 25 h z.2)) := R_vir (y := 25) (i := 19) (by decide +kernel) (by decide +kernel) (by decide +kernel) rfl rfl c ⟨Nat.le_of_ble_eq_true rfl, Nat.zero_le _, Nat.zero_le _⟩
theorem e105_29 {h : Hp} {v0 : Value} {v1 : Value} {v2 : Value} {v3 : Value} {v4 : Value} {y0 : Int32} : Rr 105 29 [v0, v1, v2, v3, v4] [.int y0] h = if y0 = nI 2 then Rr 105 60 [v0, v1, v2, v3, v4] [] h else if y0 = nI 3 then Rr 105 78 [v0, v1, v2, v3, v4] [] h else if y0 = nI 4 then Rr 105 78 [v0, v1, v2, v3, v4] [] h else if y0 = nI 5 then Rr 105 86 [v0, v1, v2, v3, v4] [] h else Rr 105 121 [v0, v1, v2, v3, v4] [] h := (R_sw (d := 92) (lo := 2) (hi := 5) (offs := #[31, 49, 49, 57]) (n := 31) (k := nI 2) (by decide +kernel) (by decide) (by decide)).trans rfl
theorem e105_60 {h : Hp} {v1 : Value} {v2 : Value} {v3 : Value} {v4 : Value} {r0 : Nat} : Rr 105 60 [.ref r0, v1, v2, v3, v4] [] h = Rr 105 61 [.ref r0, v1, v2, v3, v4] [.ref r0] h := R_step (x := (.aload_n 0, 1)) (by decide +kernel) rfl
theorem e105_61 {h : Hp} {v0 : Value} {v1 : Value} {v2 : Value} {v3 : Value} {a0 : Nat} {x4 : Int32} : Rr 105 61 [v0, v1, v2, v3, .int x4] [.ref a0] h = Rr 105 63 [v0, v1, v2, v3, .int x4] [.int x4, .ref a0] h := R_step (x := (.iload 4, 2)) (by decide +kernel) rfl
theorem e105_63 {h : Hp} {v0 : Value} {v1 : Value} {v3 : Value} {v4 : Value} {y0 : Int32} {a1 : Nat} {x2 : Int32} : Rr 105 63 [v0, v1, .int x2, v3, v4] [.int y0, .ref a1] h = Rr 105 64 [v0, v1, .int x2, v3, v4] [.int x2, .int y0, .ref a1] h := R_step (x := (.iload_n 2, 1)) (by decide +kernel) rfl
theorem e105_64 {h : Hp} {v0 : Value} {v1 : Value} {v2 : Value} {v3 : Value} {v4 : Value} {y0 : Int32} {y1 : Int32} {a2 : Nat} : Rr 105 64 [v0, v1, v2, v3, v4] [.int y0, .int y1, .ref a2] h = (Den 60 [.ref a2, .int y1, .int y0] (enH 60 h)).bind (fun z => Rr 105 67 [v0, v1, v2, v3, v4] (psh z.1 []) (lvH 60 h z.2)) := R_sta (y := 60) (i := 49) (by decide +kernel) (by decide +kernel) (by decide +kernel) rfl rfl rfl ⟨Nat.le_of_ble_eq_true rfl, Nat.zero_le _, Nat.zero_le _⟩
theorem e105_67 {h : Hp} {v0 : Value} {v1 : Value} {v2 : Value} {v3 : Value} {y0 : Int32} {x4 : Int32} : Rr 105 67 [v0, v1, v2, v3, .int x4] [.int y0] h = Rr 105 69 [v0, v1, v2, v3, .int x4] [.int x4, .int y0] h := R_step (x := (.iload 4, 2)) (by decide +kernel) rfl
theorem e105_69 {h : Hp} {v0 : Value} {v1 : Value} {v2 : Value} {v3 : Value} {v4 : Value} {y0 : Int32} {y1 : Int32} : Rr 105 69 [v0, v1, v2, v3, v4] [.int y0, .int y1] h = if ¬ y1 = y0 then Rr 105 76 [v0, v1, v2, v3, v4] [] h else Rr 105 72 [v0, v1, v2, v3, v4] [] h := R_br (off := 7) (x := (.if_icmp .ne 7, 3)) (by decide +kernel) rfl (by decide) rfl
theorem e105_72 {h : Hp} {v0 : Value} {v1 : Value} {v2 : Value} {v3 : Value} {v4 : Value} : Rr 105 72 [v0, v1, v2, v3, v4] [] h = Rr 105 73 [v0, v1, v2, v3, v4] [.int (nI 1)] h := R_step (x := (.iconst 1, 1)) (by decide +kernel) rfl
theorem e105_73 {h : Hp} {v0 : Value} {v1 : Value} {v2 : Value} {v3 : Value} {v4 : Value} {y0 : Int32} : Rr 105 73 [v0, v1, v2, v3, v4] [.int y0] h = Rr 105 77 [v0, v1, v2, v3, v4] [.int y0] h := R_step (x := (.goto 4, 3)) (by decide +kernel) rfl
theorem e105_76 {h : Hp} {v0 : Value} {v1 : Value} {v2 : Value} {v3 : Value} {v4 : Value} : Rr 105 76 [v0, v1, v2, v3, v4] [] h = Rr 105 77 [v0, v1, v2, v3, v4] [.int (nI 0)] h := R_step (x := (.iconst 0, 1)) (by decide +kernel) rfl
theorem e105_77 {h : Hp} {v0 : Value} {v1 : Value} {v2 : Value} {v3 : Value} {v4 : Value} {y0 : Int32} : Rr 105 77 [v0, v1, v2, v3, v4] [.int y0] h = some (some y0, h) := R_retI (by decide +kernel) (by decide +kernel)
theorem e105_78 {h : Hp} {v0 : Value} {v1 : Value} {v2 : Value} {v3 : Value} {v4 : Value} : Rr 105 78 [v0, v1, v2, v3, v4] [] h = Rr 105 80 [v0, v1, v2, v3, v4] [.int (nI 100)] h := R_step (x := (.bipush 100, 2)) (by decide +kernel) rfl
theorem e105_80 {h : Hp} {v0 : Value} {v1 : Value} {v2 : Value} {v4 : Value} {y0 : Int32} {x3 : Int32} : Rr 105 80 [v0, v1, v2, .int x3, v4] [.int y0] h = Rr 105 81 [v0, v1, v2, .int x3, v4] [.int x3, .int y0] h := R_step (x := (.iload_n 3, 1)) (by decide +kernel) rfl
theorem e105_81 {h : Hp} {v0 : Value} {v1 : Value} {v2 : Value} {v3 : Value} {v4 : Value} {y0 : Int32} {y1 : Int32} : Rr 105 81 [v0, v1, v2, v3, v4] [.int y0, .int y1] h = Rr 105 82 [v0, v1, v2, v3, v4] [.int (y1 * y0)] h := R_step (x := (.imul, 1)) (by decide +kernel) rfl
theorem e105_82 {h : Hp} {v0 : Value} {v1 : Value} {v2 : Value} {v3 : Value} {y0 : Int32} {x4 : Int32} : Rr 105 82 [v0, v1, v2, v3, .int x4] [.int y0] h = Rr 105 84 [v0, v1, v2, v3, .int x4] [.int x4, .int y0] h := R_step (x := (.iload 4, 2)) (by decide +kernel) rfl
theorem e105_84 {h : Hp} {v0 : Value} {v1 : Value} {v2 : Value} {v3 : Value} {v4 : Value} {y0 : Int32} {y1 : Int32} : Rr 105 84 [v0, v1, v2, v3, v4] [.int y0, .int y1] h = Rr 105 85 [v0, v1, v2, v3, v4] [.int (y1 + y0)] h := R_step (x := (.iadd, 1)) (by decide +kernel) rfl
theorem e105_85 {h : Hp} {v0 : Value} {v1 : Value} {v2 : Value} {v3 : Value} {v4 : Value} {y0 : Int32} : Rr 105 85 [v0, v1, v2, v3, v4] [.int y0] h = some (some y0, h) := R_retI (by decide +kernel) (by decide +kernel)
theorem e105_86 {h : Hp} {v0 : Value} {v1 : Value} {v2 : Value} {v3 : Value} {v4 : Value} : Rr 105 86 [v0, v1, v2, v3, v4] [] h = Rr 105 88 [v0, v1, v2, v3, v4] [.int (nI 100)] h := R_step (x := (.bipush 100, 2)) (by decide +kernel) rfl
theorem e105_88 {h : Hp} {v0 : Value} {v1 : Value} {v2 : Value} {v3 : Value} {v4 : Value} {y0 : Int32} : Rr 105 88 [v0, v1, v2, v3, v4] [.int y0] h = Rr 105 89 [v0, v1, v2, v3, v4] [.int (nI 1), .int y0] h := R_step (x := (.iconst 1, 1)) (by decide +kernel) rfl
theorem e105_89 {h : Hp} {v1 : Value} {v2 : Value} {v3 : Value} {v4 : Value} {y0 : Int32} {y1 : Int32} {r0 : Nat} : Rr 105 89 [.ref r0, v1, v2, v3, v4] [.int y0, .int y1] h = Rr 105 90 [.ref r0, v1, v2, v3, v4] [.ref r0, .int y0, .int y1] h := R_step (x := (.aload_n 0, 1)) (by decide +kernel) rfl
theorem e105_90 {h : Hp} {v0 : Value} {v1 : Value} {v2 : Value} {v3 : Value} {v4 : Value} {a0 : Nat} {y1 : Int32} {y2 : Int32} (c : Ins a0 h 5) : Rr 105 90 [v0, v1, v2, v3, v4] [.ref a0, .int y1, .int y2] h = (Den 65 [.ref a0] (enH 65 h)).bind (fun z => Rr 105 93 [v0, v1, v2, v3, v4] (psh z.1 [.int y1, .int y2]) (lvH 65 h z.2)) := R_vir (y := 65) (i := 15) (by decide +kernel) (by decide +kernel) (by decide +kernel) rfl rfl c ⟨Nat.le_of_ble_eq_true rfl, Nat.zero_le _, Nat.zero_le _⟩
theorem e105_93 {h : Hp} {v0 : Value} {v1 : Value} {v2 : Value} {v3 : Value} {v4 : Value} {y0 : Int32} {y1 : Int32} {y2 : Int32} : Rr 105 93 [v0, v1, v2, v3, v4] [.int y0, .int y1, .int y2] h = if y0 = 0 then Rr 105 100 [v0, v1, v2, v3, v4] [.int y1, .int y2] h else Rr 105 96 [v0, v1, v2, v3, v4] [.int y1, .int y2] h := R_br (off := 7) (x := (.ifCond .eq 7, 3)) (by decide +kernel) rfl (by decide) rfl
theorem e105_96 {h : Hp} {v0 : Value} {v1 : Value} {v2 : Value} {v4 : Value} {y0 : Int32} {y1 : Int32} {x3 : Int32} : Rr 105 96 [v0, v1, v2, .int x3, v4] [.int y0, .int y1] h = Rr 105 97 [v0, v1, v2, .int x3, v4] [.int x3, .int y0, .int y1] h := R_step (x := (.iload_n 3, 1)) (by decide +kernel) rfl
theorem e105_97 {h : Hp} {v0 : Value} {v1 : Value} {v2 : Value} {v3 : Value} {v4 : Value} {y0 : Int32} {y1 : Int32} {y2 : Int32} : Rr 105 97 [v0, v1, v2, v3, v4] [.int y0, .int y1, .int y2] h = Rr 105 110 [v0, v1, v2, v3, v4] [.int y0, .int y1, .int y2] h := R_step (x := (.goto 13, 3)) (by decide +kernel) rfl
theorem e105_100 {h : Hp} {v1 : Value} {v2 : Value} {v3 : Value} {v4 : Value} {y0 : Int32} {y1 : Int32} {r0 : Nat} : Rr 105 100 [.ref r0, v1, v2, v3, v4] [.int y0, .int y1] h = Rr 105 101 [.ref r0, v1, v2, v3, v4] [.ref r0, .int y0, .int y1] h := R_step (x := (.aload_n 0, 1)) (by decide +kernel) rfl
theorem e105_101 {h : Hp} {v0 : Value} {v2 : Value} {v3 : Value} {v4 : Value} {a0 : Nat} {y1 : Int32} {y2 : Int32} {x1 : Int32} : Rr 105 101 [v0, .int x1, v2, v3, v4] [.ref a0, .int y1, .int y2] h = Rr 105 102 [v0, .int x1, v2, v3, v4] [.int x1, .ref a0, .int y1, .int y2] h := R_step (x := (.iload_n 1, 1)) (by decide +kernel) rfl
theorem e105_102 {h : Hp} {v0 : Value} {v1 : Value} {v2 : Value} {v3 : Value} {v4 : Value} {y0 : Int32} {a1 : Nat} {y2 : Int32} {y3 : Int32} : Rr 105 102 [v0, v1, v2, v3, v4] [.int y0, .ref a1, .int y2, .int y3] h = Rr 105 104 [v0, v1, v2, v3, v4] [.int (nI 6), .int y0, .ref a1, .int y2, .int y3] h := R_step (x := (.bipush 6, 2)) (by decide +kernel) rfl
theorem e105_104 {h : Hp} {v0 : Value} {v1 : Value} {v2 : Value} {v3 : Value} {v4 : Value} {y0 : Int32} {y1 : Int32} {a2 : Nat} {y3 : Int32} {y4 : Int32} (c : Ins a2 h 5) : Rr 105 104 [v0, v1, v2, v3, v4] [.int y0, .int y1, .ref a2, .int y3, .int y4] h = (Den 28 [.ref a2, .int y1, .int y0] (enH 28 h)).bind (fun z => Rr 105 107 [v0, v1, v2, v3, v4] (psh z.1 [.int y3, .int y4]) (lvH 28 h z.2)) := R_vir (y := 28) (i := 23) (by decide +kernel) (by decide +kernel) (by decide +kernel) rfl rfl c ⟨Nat.le_of_ble_eq_true rfl, Nat.zero_le _, Nat.zero_le _⟩
theorem e105_107 {h : Hp} {v0 : Value} {v1 : Value} {v2 : Value} {v3 : Value} {v4 : Value} {y0 : Int32} {y1 : Int32} {y2 : Int32} : Rr 105 107 [v0, v1, v2, v3, v4] [.int y0, .int y1, .int y2] h = Rr 105 109 [v0, v1, v2, v3, v4] [.int (nI 100), .int y0, .int y1, .int y2] h := R_step (x := (.bipush 100, 2)) (by decide +kernel) rfl
theorem e105_109 {h : Hp} {v0 : Value} {v1 : Value} {v2 : Value} {v3 : Value} {v4 : Value} {y0 : Int32} {y1 : Int32} {y2 : Int32} {y3 : Int32} (c : ¬ y0 = 0) : Rr 105 109 [v0, v1, v2, v3, v4] [.int y0, .int y1, .int y2, .int y3] h = Rr 105 110 [v0, v1, v2, v3, v4] [.int (y1 / y0), .int y2, .int y3] h := R_div (by decide +kernel) c
theorem e105_110 {h : Hp} {v0 : Value} {v1 : Value} {v2 : Value} {v3 : Value} {v4 : Value} {y0 : Int32} {y1 : Int32} {y2 : Int32} : Rr 105 110 [v0, v1, v2, v3, v4] [.int y0, .int y1, .int y2] h = Rr 105 111 [v0, v1, v2, v3, v4] [.int (y1 + y0), .int y2] h := R_step (x := (.iadd, 1)) (by decide +kernel) rfl
theorem e105_111 {h : Hp} {v0 : Value} {v1 : Value} {v2 : Value} {v3 : Value} {v4 : Value} {y0 : Int32} {y1 : Int32} : Rr 105 111 [v0, v1, v2, v3, v4] [.int y0, .int y1] h = Rr 105 112 [v0, v1, v2, v3, v4] [.int (y1 * y0)] h := R_step (x := (.imul, 1)) (by decide +kernel) rfl
theorem e105_112 {h : Hp} {v0 : Value} {v1 : Value} {v2 : Value} {v3 : Value} {v4 : Value} {y0 : Int32} : Rr 105 112 [v0, v1, v2, v3, v4] [.int y0] h = Rr 105 114 [v0, v1, v2, v3, v4] [.int (nI 10), .int y0] h := R_step (x := (.bipush 10, 2)) (by decide +kernel) rfl
theorem e105_114 {h : Hp} {v0 : Value} {v2 : Value} {v3 : Value} {v4 : Value} {y0 : Int32} {y1 : Int32} {x1 : Int32} : Rr 105 114 [v0, .int x1, v2, v3, v4] [.int y0, .int y1] h = Rr 105 115 [v0, .int x1, v2, v3, v4] [.int x1, .int y0, .int y1] h := R_step (x := (.iload_n 1, 1)) (by decide +kernel) rfl
theorem e105_115 {h : Hp} {v0 : Value} {v1 : Value} {v2 : Value} {v3 : Value} {v4 : Value} {y0 : Int32} {y1 : Int32} {y2 : Int32} : Rr 105 115 [v0, v1, v2, v3, v4] [.int y0, .int y1, .int y2] h = Rr 105 116 [v0, v1, v2, v3, v4] [.int (y1 * y0), .int y2] h := R_step (x := (.imul, 1)) (by decide +kernel) rfl
theorem e105_116 {h : Hp} {v0 : Value} {v1 : Value} {v2 : Value} {v3 : Value} {v4 : Value} {y0 : Int32} {y1 : Int32} : Rr 105 116 [v0, v1, v2, v3, v4] [.int y0, .int y1] h = Rr 105 117 [v0, v1, v2, v3, v4] [.int (y1 + y0)] h := R_step (x := (.iadd, 1)) (by decide +kernel) rfl
theorem e105_117 {h : Hp} {v0 : Value} {v1 : Value} {v2 : Value} {v3 : Value} {y0 : Int32} {x4 : Int32} : Rr 105 117 [v0, v1, v2, v3, .int x4] [.int y0] h = Rr 105 119 [v0, v1, v2, v3, .int x4] [.int x4, .int y0] h := R_step (x := (.iload 4, 2)) (by decide +kernel) rfl
theorem e105_119 {h : Hp} {v0 : Value} {v1 : Value} {v2 : Value} {v3 : Value} {v4 : Value} {y0 : Int32} {y1 : Int32} : Rr 105 119 [v0, v1, v2, v3, v4] [.int y0, .int y1] h = Rr 105 120 [v0, v1, v2, v3, v4] [.int (y1 + y0)] h := R_step (x := (.iadd, 1)) (by decide +kernel) rfl
theorem e105_120 {h : Hp} {v0 : Value} {v1 : Value} {v2 : Value} {v3 : Value} {v4 : Value} {y0 : Int32} : Rr 105 120 [v0, v1, v2, v3, v4] [.int y0] h = some (some y0, h) := R_retI (by decide +kernel) (by decide +kernel)
theorem e105_121 {h : Hp} {v0 : Value} {v1 : Value} {v2 : Value} {v3 : Value} {x4 : Int32} : Rr 105 121 [v0, v1, v2, v3, .int x4] [] h = Rr 105 123 [v0, v1, v2, v3, .int x4] [.int x4] h := R_step (x := (.iload 4, 2)) (by decide +kernel) rfl
theorem e105_123 {h : Hp} {v0 : Value} {v1 : Value} {v2 : Value} {v3 : Value} {v4 : Value} {y0 : Int32} : Rr 105 123 [v0, v1, v2, v3, v4] [.int y0] h = some (some y0, h) := R_retI (by decide +kernel) (by decide +kernel)
theorem e106_0 {h : Hp} {v1 : Value} {v2 : Value} {v3 : Value} {r0 : Nat} : Rr 106 0 [.ref r0, v1, v2, v3] [] h = Rr 106 1 [.ref r0, v1, v2, v3] [.ref r0] h := R_step (x := (.aload_n 0, 1)) (by decide +kernel) rfl
theorem e106_1 {h : Hp} {v0 : Value} {v1 : Value} {v2 : Value} {v3 : Value} {a0 : Nat} : Rr 106 1 [v0, v1, v2, v3] [.ref a0] h = Rr 106 2 [v0, v1, v2, v3] [.int (nI 0), .ref a0] h := R_step (x := (.iconst 0, 1)) (by decide +kernel) rfl
theorem e106_2 {h : Hp} {v0 : Value} {v1 : Value} {v2 : Value} {v3 : Value} {y0 : Int32} {a1 : Nat} (c : Ins a1 h 5) : Rr 106 2 [v0, v1, v2, v3] [.int y0, .ref a1] h = (Den 25 [.ref a1, .int y0] (enH 25 h)).bind (fun z => Rr 106 5 [v0, v1, v2, v3] (psh z.1 []) (lvH 25 h z.2)) := R_vir (y := 25) (i := 19) (by decide +kernel) (by decide +kernel) (by decide +kernel) rfl rfl c ⟨Nat.le_of_ble_eq_true rfl, Nat.zero_le _, Nat.zero_le _⟩
theorem e106_5 {h : Hp} {v0 : Value} {v1 : Value} {v2 : Value} {v3 : Value} {y0 : Int32} : Rr 106 5 [v0, v1, v2, v3] [.int y0] h = Rr 106 6 [v0, v1, v2, .int y0] [] h := R_step (x := (.istore_n 3, 1)) (by decide +kernel) rfl
theorem e106_6 {h : Hp} {v1 : Value} {v2 : Value} {v3 : Value} {r0 : Nat} : Rr 106 6 [.ref r0, v1, v2, v3] [] h = Rr 106 7 [.ref r0, v1, v2, v3] [.ref r0] h := R_step (x := (.aload_n 0, 1)) (by decide +kernel) rfl
theorem e106_7 {h : Hp} {v0 : Value} {v2 : Value} {v3 : Value} {a0 : Nat} {x1 : Int32} : Rr 106 7 [v0, .int x1, v2, v3] [.ref a0] h = Rr 106 8 [v0, .int x1, v2, v3] [.int x1, .ref a0] h := R_step (x := (.iload_n 1, 1)) (by decide +kernel) rfl
theorem e106_8 {h : Hp} {v0 : Value} {v1 : Value} {v2 : Value} {v3 : Value} {y0 : Int32} {a1 : Nat} (c : Ins a1 h 5) : Rr 106 8 [v0, v1, v2, v3] [.int y0, .ref a1] h = (Den 67 [.ref a1, .int y0] (enH 67 h)).bind (fun z => Rr 106 11 [v0, v1, v2, v3] (psh z.1 []) (lvH 67 h z.2)) := R_vir (y := 67) (i := 9) (by decide +kernel) (by decide +kernel) (by decide +kernel) rfl rfl c ⟨Nat.le_of_ble_eq_true rfl, Nat.zero_le _, Nat.zero_le _⟩
theorem e106_11 {h : Hp} {v0 : Value} {v1 : Value} {v2 : Value} {v3 : Value} {y0 : Int32} : Rr 106 11 [v0, v1, v2, v3] [.int y0] h = if y0 = 0 then Rr 106 37 [v0, v1, v2, v3] [] h else Rr 106 14 [v0, v1, v2, v3] [] h := R_br (off := 26) (x := (.ifCond .eq 26, 3)) (by decide +kernel) rfl (by decide) rfl
theorem e106_14 {h : Hp} {v0 : Value} {v1 : Value} {v2 : Value} {x3 : Int32} : Rr 106 14 [v0, v1, v2, .int x3] [] h = Rr 106 15 [v0, v1, v2, .int x3] [.int x3] h := R_step (x := (.iload_n 3, 1)) (by decide +kernel) rfl
theorem e106_15 {h : Hp} {v0 : Value} {v1 : Value} {v2 : Value} {v3 : Value} {y0 : Int32} : Rr 106 15 [v0, v1, v2, v3] [.int y0] h = Rr 106 16 [v0, v1, v2, v3] [.int (nI 5), .int y0] h := R_step (x := (.iconst 5, 1)) (by decide +kernel) rfl
theorem e106_16 {h : Hp} {v0 : Value} {v1 : Value} {v2 : Value} {v3 : Value} {y0 : Int32} {y1 : Int32} : Rr 106 16 [v0, v1, v2, v3] [.int y0, .int y1] h = if ¬ y1 = y0 then Rr 106 35 [v0, v1, v2, v3] [] h else Rr 106 19 [v0, v1, v2, v3] [] h := R_br (off := 19) (x := (.if_icmp .ne 19, 3)) (by decide +kernel) rfl (by decide) rfl
theorem e106_19 {h : Hp} {v1 : Value} {v2 : Value} {v3 : Value} {r0 : Nat} : Rr 106 19 [.ref r0, v1, v2, v3] [] h = Rr 106 20 [.ref r0, v1, v2, v3] [.ref r0] h := R_step (x := (.aload_n 0, 1)) (by decide +kernel) rfl
theorem e106_20 {h : Hp} {v0 : Value} {v1 : Value} {v2 : Value} {v3 : Value} {a0 : Nat} (c : Ins a0 h 5) : Rr 106 20 [v0, v1, v2, v3] [.ref a0] h = (Den 65 [.ref a0] (enH 65 h)).bind (fun z => Rr 106 23 [v0, v1, v2, v3] (psh z.1 []) (lvH 65 h z.2)) := R_vir (y := 65) (i := 15) (by decide +kernel) (by decide +kernel) (by decide +kernel) rfl rfl c ⟨Nat.le_of_ble_eq_true rfl, Nat.zero_le _, Nat.zero_le _⟩
theorem e106_23 {h : Hp} {v0 : Value} {v1 : Value} {v2 : Value} {v3 : Value} {y0 : Int32} : Rr 106 23 [v0, v1, v2, v3] [.int y0] h = if ¬ y0 = 0 then Rr 106 35 [v0, v1, v2, v3] [] h else Rr 106 26 [v0, v1, v2, v3] [] h := R_br (off := 12) (x := (.ifCond .ne 12, 3)) (by decide +kernel) rfl (by decide) rfl
theorem e106_26 {h : Hp} {v0 : Value} {v1 : Value} {v3 : Value} {x2 : Int32} : Rr 106 26 [v0, v1, .int x2, v3] [] h = Rr 106 27 [v0, v1, .int x2, v3] [.int x2] h := R_step (x := (.iload_n 2, 1)) (by decide +kernel) rfl
theorem e106_27 {h : Hp} {v0 : Value} {v1 : Value} {v2 : Value} {v3 : Value} {y0 : Int32} : Rr 106 27 [v0, v1, v2, v3] [.int y0] h = Rr 106 28 [v0, v1, v2, v3] [.int (nI 2), .int y0] h := R_step (x := (.iconst 2, 1)) (by decide +kernel) rfl
theorem e106_28 {h : Hp} {v0 : Value} {v1 : Value} {v2 : Value} {v3 : Value} {y0 : Int32} {y1 : Int32} : Rr 106 28 [v0, v1, v2, v3] [.int y0, .int y1] h = if y0 ≤ y1 then Rr 106 35 [v0, v1, v2, v3] [] h else Rr 106 31 [v0, v1, v2, v3] [] h := R_br (off := 7) (x := (.if_icmp .ge 7, 3)) (by decide +kernel) rfl (by decide) rfl
theorem e106_31 {h : Hp} {v0 : Value} {v1 : Value} {v2 : Value} {v3 : Value} : Rr 106 31 [v0, v1, v2, v3] [] h = Rr 106 32 [v0, v1, v2, v3] [.int (nI 1)] h := R_step (x := (.iconst 1, 1)) (by decide +kernel) rfl
theorem e106_32 {h : Hp} {v0 : Value} {v1 : Value} {v2 : Value} {v3 : Value} {y0 : Int32} : Rr 106 32 [v0, v1, v2, v3] [.int y0] h = Rr 106 36 [v0, v1, v2, v3] [.int y0] h := R_step (x := (.goto 4, 3)) (by decide +kernel) rfl
theorem e106_35 {h : Hp} {v0 : Value} {v1 : Value} {v2 : Value} {v3 : Value} : Rr 106 35 [v0, v1, v2, v3] [] h = Rr 106 36 [v0, v1, v2, v3] [.int (nI 0)] h := R_step (x := (.iconst 0, 1)) (by decide +kernel) rfl
theorem e106_36 {h : Hp} {v0 : Value} {v1 : Value} {v2 : Value} {v3 : Value} {y0 : Int32} (c : y0 = 0 ∨ y0 = 1) : Rr 106 36 [v0, v1, v2, v3] [.int y0] h = some (some y0, h) := R_retZ (by decide +kernel) (by decide +kernel) c
theorem e106_37 {h : Hp} {v0 : Value} {v1 : Value} {v2 : Value} {x3 : Int32} : Rr 106 37 [v0, v1, v2, .int x3] [] h = Rr 106 38 [v0, v1, v2, .int x3] [.int x3] h := R_step (x := (.iload_n 3, 1)) (by decide +kernel) rfl
theorem e106_38 {h : Hp} {v0 : Value} {v1 : Value} {v2 : Value} {v3 : Value} {y0 : Int32} : Rr 106 38 [v0, v1, v2, v3] [.int y0] h = Rr 106 39 [v0, v1, v2, v3] [.int (nI 4), .int y0] h := R_step (x := (.iconst 4, 1)) (by decide +kernel) rfl
theorem e106_39 {h : Hp} {v0 : Value} {v1 : Value} {v2 : Value} {v3 : Value} {y0 : Int32} {y1 : Int32} : Rr 106 39 [v0, v1, v2, v3] [.int y0, .int y1] h = if ¬ y1 = y0 then Rr 106 51 [v0, v1, v2, v3] [] h else Rr 106 42 [v0, v1, v2, v3] [] h := R_br (off := 12) (x := (.if_icmp .ne 12, 3)) (by decide +kernel) rfl (by decide) rfl
theorem e106_42 {h : Hp} {v0 : Value} {v1 : Value} {v3 : Value} {x2 : Int32} : Rr 106 42 [v0, v1, .int x2, v3] [] h = Rr 106 43 [v0, v1, .int x2, v3] [.int x2] h := R_step (x := (.iload_n 2, 1)) (by decide +kernel) rfl
theorem e106_43 {h : Hp} {v1 : Value} {v2 : Value} {v3 : Value} {y0 : Int32} {r0 : Nat} : Rr 106 43 [.ref r0, v1, v2, v3] [.int y0] h = Rr 106 44 [.ref r0, v1, v2, v3] [.ref r0, .int y0] h := R_step (x := (.aload_n 0, 1)) (by decide +kernel) rfl
theorem e106_44 {h : Hp} {v0 : Value} {v1 : Value} {v2 : Value} {v3 : Value} {a0 : Nat} {y1 : Int32} : Rr 106 44 [v0, v1, v2, v3] [.ref a0, .int y1] h = Rr 106 45 [v0, v1, v2, v3] [.int (nI 4), .ref a0, .int y1] h := R_step (x := (.iconst 4, 1)) (by decide +kernel) rfl
theorem e106_45 {h : Hp} {v0 : Value} {v1 : Value} {v2 : Value} {v3 : Value} {y0 : Int32} {a1 : Nat} {y2 : Int32} (c : Ins a1 h 5) : Rr 106 45 [v0, v1, v2, v3] [.int y0, .ref a1, .int y2] h = (Den 25 [.ref a1, .int y0] (enH 25 h)).bind (fun z => Rr 106 48 [v0, v1, v2, v3] (psh z.1 [.int y2]) (lvH 25 h z.2)) := R_vir (y := 25) (i := 19) (by decide +kernel) (by decide +kernel) (by decide +kernel) rfl rfl c ⟨Nat.le_of_ble_eq_true rfl, Nat.zero_le _, Nat.zero_le _⟩
theorem e106_48 {h : Hp} {v0 : Value} {v1 : Value} {v2 : Value} {v3 : Value} {y0 : Int32} {y1 : Int32} : Rr 106 48 [v0, v1, v2, v3] [.int y0, .int y1] h = if y0 ≤ y1 then Rr 106 55 [v0, v1, v2, v3] [] h else Rr 106 51 [v0, v1, v2, v3] [] h := R_br (off := 7) (x := (.if_icmp .ge 7, 3)) (by decide +kernel) rfl (by decide) rfl
theorem e106_51 {h : Hp} {v0 : Value} {v1 : Value} {v2 : Value} {v3 : Value} : Rr 106 51 [v0, v1, v2, v3] [] h = Rr 106 52 [v0, v1, v2, v3] [.int (nI 1)] h := R_step (x := (.iconst 1, 1)) (by decide +kernel) rfl
theorem e106_52 {h : Hp} {v0 : Value} {v1 : Value} {v2 : Value} {v3 : Value} {y0 : Int32} : Rr 106 52 [v0, v1, v2, v3] [.int y0] h = Rr 106 56 [v0, v1, v2, v3] [.int y0] h := R_step (x := (.goto 4, 3)) (by decide +kernel) rfl
theorem e106_55 {h : Hp} {v0 : Value} {v1 : Value} {v2 : Value} {v3 : Value} : Rr 106 55 [v0, v1, v2, v3] [] h = Rr 106 56 [v0, v1, v2, v3] [.int (nI 0)] h := R_step (x := (.iconst 0, 1)) (by decide +kernel) rfl
theorem e106_56 {h : Hp} {v0 : Value} {v1 : Value} {v2 : Value} {v3 : Value} {y0 : Int32} (c : y0 = 0 ∨ y0 = 1) : Rr 106 56 [v0, v1, v2, v3] [.int y0] h = some (some y0, h) := R_retZ (by decide +kernel) (by decide +kernel) c
theorem e132_0 {h : Hp} {v1 : Value} {v2 : Value} {v3 : Value} {r0 : Nat} : Rr 132 0 [.ref r0, v1, v2, v3] [] h = Rr 132 1 [.ref r0, v1, v2, v3] [.ref r0] h := R_step (x := (.aload_n 0, 1)) (by decide +kernel) rfl
theorem e132_1 {h : Hp} {v0 : Value} {v2 : Value} {v3 : Value} {a0 : Nat} {x1 : Int32} : Rr 132 1 [v0, .int x1, v2, v3] [.ref a0] h = Rr 132 2 [v0, .int x1, v2, v3] [.int x1, .ref a0] h := R_step (x := (.iload_n 1, 1)) (by decide +kernel) rfl
theorem e132_2 {h : Hp} {v0 : Value} {v1 : Value} {v2 : Value} {v3 : Value} {y0 : Int32} {a1 : Nat} : Rr 132 2 [v0, v1, v2, v3] [.int y0, .ref a1] h = Rr 132 3 [v0, v1, v2, v3] [.int (nI 1), .int y0, .ref a1] h := R_step (x := (.iconst 1, 1)) (by decide +kernel) rfl
theorem e132_3 {h : Hp} {v0 : Value} {v1 : Value} {v2 : Value} {v3 : Value} {y0 : Int32} {y1 : Int32} {a2 : Nat} (c : Ins a2 h 5) : Rr 132 3 [v0, v1, v2, v3] [.int y0, .int y1, .ref a2] h = (Den 28 [.ref a2, .int y1, .int y0] (enH 28 h)).bind (fun z => Rr 132 6 [v0, v1, v2, v3] (psh z.1 []) (lvH 28 h z.2)) := R_vir (y := 28) (i := 23) (by decide +kernel) (by decide +kernel) (by decide +kernel) rfl rfl c ⟨Nat.le_of_ble_eq_true rfl, Nat.zero_le _, Nat.zero_le _⟩
theorem e132_6 {h : Hp} {v0 : Value} {v1 : Value} {v2 : Value} {v3 : Value} {y0 : Int32} : Rr 132 6 [v0, v1, v2, v3] [.int y0] h = Rr 132 7 [v0, v1, .int y0, v3] [] h := R_step (x := (.istore_n 2, 1)) (by decide +kernel) rfl
theorem e132_7 {h : Hp} {v0 : Value} {v1 : Value} {v3 : Value} {x2 : Int32} : Rr 132 7 [v0, v1, .int x2, v3] [] h = Rr 132 8 [v0, v1, .int x2, v3] [.int x2] h := R_step (x := (.iload_n 2, 1)) (by decide +kernel) rfl
theorem e132_8 {h : Hp} {v1 : Value} {v2 : Value} {v3 : Value} {y0 : Int32} {r0 : Nat} : Rr 132 8 [.ref r0, v1, v2, v3] [.int y0] h = Rr 132 9 [.ref r0, v1, v2, v3] [.ref r0, .int y0] h := R_step (x := (.aload_n 0, 1)) (by decide +kernel) rfl
theorem e132_9 {h : Hp} {v0 : Value} {v2 : Value} {v3 : Value} {a0 : Nat} {y1 : Int32} {x1 : Int32} : Rr 132 9 [v0, .int x1, v2, v3] [.ref a0, .int y1] h = Rr 132 10 [v0, .int x1, v2, v3] [.int x1, .ref a0, .int y1] h := R_step (x := (.iload_n 1, 1)) (by decide +kernel) rfl
theorem e132_10 {h : Hp} {v0 : Value} {v1 : Value} {v2 : Value} {v3 : Value} {y0 : Int32} {a1 : Nat} {y2 : Int32} : Rr 132 10 [v0, v1, v2, v3] [.int y0, .ref a1, .int y2] h = Rr 132 11 [v0, v1, v2, v3] [.int (nI 5), .int y0, .ref a1, .int y2] h := R_step (x := (.iconst 5, 1)) (by decide +kernel) rfl
theorem e132_11 {h : Hp} {v0 : Value} {v1 : Value} {v2 : Value} {v3 : Value} {y0 : Int32} {y1 : Int32} {a2 : Nat} {y3 : Int32} (c : Ins a2 h 5) : Rr 132 11 [v0, v1, v2, v3] [.int y0, .int y1, .ref a2, .int y3] h = (Den 28 [.ref a2, .int y1, .int y0] (enH 28 h)).bind (fun z => Rr 132 14 [v0, v1, v2, v3] (psh z.1 [.int y3]) (lvH 28 h z.2)) := R_vir (y := 28) (i := 23) (by decide +kernel) (by decide +kernel) (by decide +kernel) rfl rfl c ⟨Nat.le_of_ble_eq_true rfl, Nat.zero_le _, Nat.zero_le _⟩
theorem e132_14 {h : Hp} {v0 : Value} {v1 : Value} {v2 : Value} {v3 : Value} {y0 : Int32} {y1 : Int32} : Rr 132 14 [v0, v1, v2, v3] [.int y0, .int y1] h = if y1 < y0 then Rr 132 25 [v0, v1, v2, v3] [] h else Rr 132 17 [v0, v1, v2, v3] [] h := R_br (off := 11) (x := (.if_icmp .lt 11, 3)) (by decide +kernel) rfl (by decide) rfl
theorem e132_17 {h : Hp} {v1 : Value} {v2 : Value} {v3 : Value} {r0 : Nat} : Rr 132 17 [.ref r0, v1, v2, v3] [] h = Rr 132 18 [.ref r0, v1, v2, v3] [.ref r0] h := R_step (x := (.aload_n 0, 1)) (by decide +kernel) rfl
theorem e132_18 {h : Hp} {v0 : Value} {v2 : Value} {v3 : Value} {a0 : Nat} {x1 : Int32} : Rr 132 18 [v0, .int x1, v2, v3] [.ref a0] h = Rr 132 19 [v0, .int x1, v2, v3] [.int x1, .ref a0] h := R_step (x := (.iload_n 1, 1)) (by decide +kernel) rfl
theorem e132_19 {h : Hp} {v0 : Value} {v1 : Value} {v2 : Value} {v3 : Value} {y0 : Int32} {a1 : Nat} : Rr 132 19 [v0, v1, v2, v3] [.int y0, .ref a1] h = Rr 132 20 [v0, v1, v2, v3] [.int (nI 3), .int y0, .ref a1] h := R_step (x := (.iconst 3, 1)) (by decide +kernel) rfl
theorem e132_20 {h : Hp} {v0 : Value} {v1 : Value} {v2 : Value} {v3 : Value} {y0 : Int32} {y1 : Int32} {a2 : Nat} : Rr 132 20 [v0, v1, v2, v3] [.int y0, .int y1, .ref a2] h = Rr 132 21 [v0, v1, v2, v3] [.int ((-1)), .int y0, .int y1, .ref a2] h := R_step (x := (.iconst (-1), 1)) (by decide +kernel) rfl
theorem e132_21 {h : Hp} {v0 : Value} {v1 : Value} {v2 : Value} {v3 : Value} {y0 : Int32} {y1 : Int32} {y2 : Int32} {a3 : Nat} (c : Ins a3 h 5) : Rr 132 21 [v0, v1, v2, v3] [.int y0, .int y1, .int y2, .ref a3] h = (Den 68 [.ref a3, .int y2, .int y1, .int y0] (enH 68 h)).bind (fun z => Rr 132 24 [v0, v1, v2, v3] (psh z.1 []) (lvH 68 h z.2)) := R_vir (y := 68) (i := 27) (by decide +kernel) (by decide +kernel) (by decide +kernel) rfl rfl c ⟨Nat.le_of_ble_eq_true rfl, Nat.zero_le _, Nat.zero_le _⟩
theorem e132_24 {h : Hp} {v0 : Value} {v1 : Value} {v2 : Value} {v3 : Value} : Rr 132 24 [v0, v1, v2, v3] [] h = some (none, h) := R_retV (by decide +kernel) (by decide +kernel)
theorem e132_25 {h : Hp} {v1 : Value} {v2 : Value} {v3 : Value} {r0 : Nat} : Rr 132 25 [.ref r0, v1, v2, v3] [] h = Rr 132 26 [.ref r0, v1, v2, v3] [.ref r0] h := R_step (x := (.aload_n 0, 1)) (by decide +kernel) rfl
theorem e132_26 {h : Hp} {v0 : Value} {v2 : Value} {v3 : Value} {a0 : Nat} {x1 : Int32} : Rr 132 26 [v0, .int x1, v2, v3] [.ref a0] h = Rr 132 27 [v0, .int x1, v2, v3] [.int x1, .ref a0] h := R_step (x := (.iload_n 1, 1)) (by decide +kernel) rfl
theorem e132_27 {h : Hp} {v0 : Value} {v1 : Value} {v3 : Value} {y0 : Int32} {a1 : Nat} {x2 : Int32} : Rr 132 27 [v0, v1, .int x2, v3] [.int y0, .ref a1] h = Rr 132 28 [v0, v1, .int x2, v3] [.int x2, .int y0, .ref a1] h := R_step (x := (.iload_n 2, 1)) (by decide +kernel) rfl
theorem e132_28 {h : Hp} {v0 : Value} {v1 : Value} {v2 : Value} {v3 : Value} {y0 : Int32} {y1 : Int32} {a2 : Nat} : Rr 132 28 [v0, v1, v2, v3] [.int y0, .int y1, .ref a2] h = (Den 106 [.ref a2, .int y1, .int y0] (enH 106 h)).bind (fun z => Rr 132 31 [v0, v1, v2, v3] (psh z.1 []) (lvH 106 h z.2)) := R_sta (y := 106) (i := 31) (by decide +kernel) (by decide +kernel) (by decide +kernel) rfl rfl rfl ⟨Nat.le_of_ble_eq_true rfl, Nat.zero_le _, Nat.zero_le _⟩
theorem e132_31 {h : Hp} {v0 : Value} {v1 : Value} {v2 : Value} {v3 : Value} {y0 : Int32} : Rr 132 31 [v0, v1, v2, v3] [.int y0] h = Rr 132 32 [v0, v1, v2, .int y0] [] h := R_step (x := (.istore_n 3, 1)) (by decide +kernel) rfl
theorem e132_32 {h : Hp} {v1 : Value} {v2 : Value} {v3 : Value} {r0 : Nat} : Rr 132 32 [.ref r0, v1, v2, v3] [] h = Rr 132 33 [.ref r0, v1, v2, v3] [.ref r0] h := R_step (x := (.aload_n 0, 1)) (by decide +kernel) rfl
theorem e132_33 {h : Hp} {v0 : Value} {v2 : Value} {v3 : Value} {a0 : Nat} {x1 : Int32} : Rr 132 33 [v0, .int x1, v2, v3] [.ref a0] h = Rr 132 34 [v0, .int x1, v2, v3] [.int x1, .ref a0] h := R_step (x := (.iload_n 1, 1)) (by decide +kernel) rfl
theorem e132_34 {h : Hp} {v0 : Value} {v1 : Value} {v2 : Value} {v3 : Value} {y0 : Int32} {a1 : Nat} : Rr 132 34 [v0, v1, v2, v3] [.int y0, .ref a1] h = Rr 132 36 [v0, v1, v2, v3] [.int (nI 7), .int y0, .ref a1] h := R_step (x := (.bipush 7, 2)) (by decide +kernel) rfl
theorem e132_36 {h : Hp} {v0 : Value} {v1 : Value} {v2 : Value} {y0 : Int32} {y1 : Int32} {a2 : Nat} {x3 : Int32} : Rr 132 36 [v0, v1, v2, .int x3] [.int y0, .int y1, .ref a2] h = Rr 132 37 [v0, v1, v2, .int x3] [.int x3, .int y0, .int y1, .ref a2] h := R_step (x := (.iload_n 3, 1)) (by decide +kernel) rfl
theorem e132_37 {h : Hp} {v0 : Value} {v1 : Value} {v2 : Value} {v3 : Value} {y0 : Int32} {y1 : Int32} {y2 : Int32} {a3 : Nat} : Rr 132 37 [v0, v1, v2, v3] [.int y0, .int y1, .int y2, .ref a3] h = if y0 = 0 then Rr 132 44 [v0, v1, v2, v3] [.int y1, .int y2, .ref a3] h else Rr 132 40 [v0, v1, v2, v3] [.int y1, .int y2, .ref a3] h := R_br (off := 7) (x := (.ifCond .eq 7, 3)) (by decide +kernel) rfl (by decide) rfl
theorem e132_40 {h : Hp} {v0 : Value} {v1 : Value} {v2 : Value} {v3 : Value} {y0 : Int32} {y1 : Int32} {a2 : Nat} : Rr 132 40 [v0, v1, v2, v3] [.int y0, .int y1, .ref a2] h = Rr 132 41 [v0, v1, v2, v3] [.int (nI 1), .int y0, .int y1, .ref a2] h := R_step (x := (.iconst 1, 1)) (by decide +kernel) rfl
theorem e132_41 {h : Hp} {v0 : Value} {v1 : Value} {v2 : Value} {v3 : Value} {y0 : Int32} {y1 : Int32} {y2 : Int32} {a3 : Nat} : Rr 132 41 [v0, v1, v2, v3] [.int y0, .int y1, .int y2, .ref a3] h = Rr 132 45 [v0, v1, v2, v3] [.int y0, .int y1, .int y2, .ref a3] h := R_step (x := (.goto 4, 3)) (by decide +kernel) rfl
theorem e132_44 {h : Hp} {v0 : Value} {v1 : Value} {v2 : Value} {v3 : Value} {y0 : Int32} {y1 : Int32} {a2 : Nat} : Rr 132 44 [v0, v1, v2, v3] [.int y0, .int y1, .ref a2] h = Rr 132 45 [v0, v1, v2, v3] [.int (nI 0), .int y0, .int y1, .ref a2] h := R_step (x := (.iconst 0, 1)) (by decide +kernel) rfl
theorem e132_45 {h : Hp} {v0 : Value} {v1 : Value} {v2 : Value} {v3 : Value} {y0 : Int32} {y1 : Int32} {y2 : Int32} {a3 : Nat} (c : Ins a3 h 5) : Rr 132 45 [v0, v1, v2, v3] [.int y0, .int y1, .int y2, .ref a3] h = (Den 68 [.ref a3, .int y2, .int y1, .int y0] (enH 68 h)).bind (fun z => Rr 132 48 [v0, v1, v2, v3] (psh z.1 []) (lvH 68 h z.2)) := R_vir (y := 68) (i := 27) (by decide +kernel) (by decide +kernel) (by decide +kernel) rfl rfl c ⟨Nat.le_of_ble_eq_true rfl, Nat.zero_le _, Nat.zero_le _⟩
theorem e132_48 {h : Hp} {v1 : Value} {v2 : Value} {v3 : Value} {r0 : Nat} : Rr 132 48 [.ref r0, v1, v2, v3] [] h = Rr 132 49 [.ref r0, v1, v2, v3] [.ref r0] h := R_step (x := (.aload_n 0, 1)) (by decide +kernel) rfl
theorem e132_49 {h : Hp} {v0 : Value} {v2 : Value} {v3 : Value} {a0 : Nat} {x1 : Int32} : Rr 132 49 [v0, .int x1, v2, v3] [.ref a0] h = Rr 132 50 [v0, .int x1, v2, v3] [.int x1, .ref a0] h := R_step (x := (.iload_n 1, 1)) (by decide +kernel) rfl
theorem e132_50 {h : Hp} {v0 : Value} {v1 : Value} {v2 : Value} {v3 : Value} {y0 : Int32} {a1 : Nat} : Rr 132 50 [v0, v1, v2, v3] [.int y0, .ref a1] h = Rr 132 51 [v0, v1, v2, v3] [.int (nI 3), .int y0, .ref a1] h := R_step (x := (.iconst 3, 1)) (by decide +kernel) rfl
theorem e132_51 {h : Hp} {v1 : Value} {v2 : Value} {v3 : Value} {y0 : Int32} {y1 : Int32} {a2 : Nat} {r0 : Nat} : Rr 132 51 [.ref r0, v1, v2, v3] [.int y0, .int y1, .ref a2] h = Rr 132 52 [.ref r0, v1, v2, v3] [.ref r0, .int y0, .int y1, .ref a2] h := R_step (x := (.aload_n 0, 1)) (by decide +kernel) rfl
theorem e132_52 {h : Hp} {v0 : Value} {v2 : Value} {v3 : Value} {a0 : Nat} {y1 : Int32} {y2 : Int32} {a3 : Nat} {x1 : Int32} : Rr 132 52 [v0, .int x1, v2, v3] [.ref a0, .int y1, .int y2, .ref a3] h = Rr 132 53 [v0, .int x1, v2, v3] [.int x1, .ref a0, .int y1, .int y2, .ref a3] h := R_step (x := (.iload_n 1, 1)) (by decide +kernel) rfl
theorem e132_53 {h : Hp} {v0 : Value} {v1 : Value} {v3 : Value} {y0 : Int32} {a1 : Nat} {y2 : Int32} {y3 : Int32} {a4 : Nat} {x2 : Int32} : Rr 132 53 [v0, v1, .int x2, v3] [.int y0, .ref a1, .int y2, .int y3, .ref a4] h = Rr 132 54 [v0, v1, .int x2, v3] [.int x2, .int y0, .ref a1, .int y2, .int y3, .ref a4] h := R_step (x := (.iload_n 2, 1)) (by decide +kernel) rfl
theorem e132_54 {h : Hp} {v0 : Value} {v1 : Value} {v2 : Value} {y0 : Int32} {y1 : Int32} {a2 : Nat} {y3 : Int32} {y4 : Int32} {a5 : Nat} {x3 : Int32} : Rr 132 54 [v0, v1, v2, .int x3] [.int y0, .int y1, .ref a2, .int y3, .int y4, .ref a5] h = Rr 132 55 [v0, v1, v2, .int x3] [.int x3, .int y0, .int y1, .ref a2, .int y3, .int y4, .ref a5] h := R_step (x := (.iload_n 3, 1)) (by decide +kernel) rfl
theorem e132_55 {h : Hp} {v0 : Value} {v1 : Value} {v2 : Value} {v3 : Value} {y0 : Int32} {y1 : Int32} {y2 : Int32} {a3 : Nat} {y4 : Int32} {y5 : Int32} {a6 : Nat} : Rr 132 55 [v0, v1, v2, v3] [.int y0, .int y1, .int y2, .ref a3, .int y4, .int y5, .ref a6] h = (Den 104 [.ref a3, .int y2, .int y1, .int y0] (enH 104 h)).bind (fun z => Rr 132 58 [v0, v1, v2, v3] (psh z.1 [.int y4, .int y5, .ref a6]) (lvH 104 h z.2)) := R_sta (y := 104) (i := 37) (by decide +kernel) (by decide +kernel) (by decide +kernel) rfl rfl rfl ⟨Nat.le_of_ble_eq_true rfl, Nat.zero_le _, Nat.zero_le _⟩
theorem e132_58 {h : Hp} {v0 : Value} {v1 : Value} {v2 : Value} {v3 : Value} {y0 : Int32} {y1 : Int32} {y2 : Int32} {a3 : Nat} (c : Ins a3 h 5) : Rr 132 58 [v0, v1, v2, v3] [.int y0, .int y1, .int y2, .ref a3] h = (Den 68 [.ref a3, .int y2, .int y1, .int y0] (enH 68 h)).bind (fun z => Rr 132 61 [v0, v1, v2, v3] (psh z.1 []) (lvH 68 h z.2)) := R_vir (y := 68) (i := 27) (by decide +kernel) (by decide +kernel) (by decide +kernel) rfl rfl c ⟨Nat.le_of_ble_eq_true rfl, Nat.zero_le _, Nat.zero_le _⟩
theorem e132_61 {h : Hp} {v0 : Value} {v1 : Value} {v2 : Value} {x3 : Int32} : Rr 132 61 [v0, v1, v2, .int x3] [] h = Rr 132 62 [v0, v1, v2, .int x3] [.int x3] h := R_step (x := (.iload_n 3, 1)) (by decide +kernel) rfl
theorem e132_62 {h : Hp} {v0 : Value} {v1 : Value} {v2 : Value} {v3 : Value} {y0 : Int32} : Rr 132 62 [v0, v1, v2, v3] [.int y0] h = if ¬ y0 = 0 then Rr 132 78 [v0, v1, v2, v3] [] h else Rr 132 65 [v0, v1, v2, v3] [] h := R_br (off := 16) (x := (.ifCond .ne 16, 3)) (by decide +kernel) rfl (by decide) rfl
theorem e132_65 {h : Hp} {v1 : Value} {v2 : Value} {v3 : Value} {r0 : Nat} : Rr 132 65 [.ref r0, v1, v2, v3] [] h = Rr 132 66 [.ref r0, v1, v2, v3] [.ref r0] h := R_step (x := (.aload_n 0, 1)) (by decide +kernel) rfl
theorem e132_66 {h : Hp} {v0 : Value} {v2 : Value} {v3 : Value} {a0 : Nat} {x1 : Int32} : Rr 132 66 [v0, .int x1, v2, v3] [.ref a0] h = Rr 132 67 [v0, .int x1, v2, v3] [.int x1, .ref a0] h := R_step (x := (.iload_n 1, 1)) (by decide +kernel) rfl
theorem e132_67 {h : Hp} {v0 : Value} {v1 : Value} {v2 : Value} {v3 : Value} {y0 : Int32} {a1 : Nat} : Rr 132 67 [v0, v1, v2, v3] [.int y0, .ref a1] h = Rr 132 69 [v0, v1, v2, v3] [.int (nI 8), .int y0, .ref a1] h := R_step (x := (.bipush 8, 2)) (by decide +kernel) rfl
theorem e132_69 {h : Hp} {v1 : Value} {v2 : Value} {v3 : Value} {y0 : Int32} {y1 : Int32} {a2 : Nat} {r0 : Nat} : Rr 132 69 [.ref r0, v1, v2, v3] [.int y0, .int y1, .ref a2] h = Rr 132 70 [.ref r0, v1, v2, v3] [.ref r0, .int y0, .int y1, .ref a2] h := R_step (x := (.aload_n 0, 1)) (by decide +kernel) rfl
theorem e132_70 {h : Hp} {v0 : Value} {v2 : Value} {v3 : Value} {a0 : Nat} {y1 : Int32} {y2 : Int32} {a3 : Nat} {x1 : Int32} : Rr 132 70 [v0, .int x1, v2, v3] [.ref a0, .int y1, .int y2, .ref a3] h = Rr 132 71 [v0, .int x1, v2, v3] [.int x1, .ref a0, .int y1, .int y2, .ref a3] h := R_step (x := (.iload_n 1, 1)) (by decide +kernel) rfl
theorem e132_71 {h : Hp} {v0 : Value} {v1 : Value} {v3 : Value} {y0 : Int32} {a1 : Nat} {y2 : Int32} {y3 : Int32} {a4 : Nat} {x2 : Int32} : Rr 132 71 [v0, v1, .int x2, v3] [.int y0, .ref a1, .int y2, .int y3, .ref a4] h = Rr 132 72 [v0, v1, .int x2, v3] [.int x2, .int y0, .ref a1, .int y2, .int y3, .ref a4] h := R_step (x := (.iload_n 2, 1)) (by decide +kernel) rfl
theorem e132_72 {h : Hp} {v0 : Value} {v1 : Value} {v2 : Value} {v3 : Value} {y0 : Int32} {y1 : Int32} {a2 : Nat} {y3 : Int32} {y4 : Int32} {a5 : Nat} : Rr 132 72 [v0, v1, v2, v3] [.int y0, .int y1, .ref a2, .int y3, .int y4, .ref a5] h = (Den 105 [.ref a2, .int y1, .int y0] (enH 105 h)).bind (fun z => Rr 132 75 [v0, v1, v2, v3] (psh z.1 [.int y3, .int y4, .ref a5]) (lvH 105 h z.2)) := R_sta (y := 105) (i := 41) (by decide +kernel) (by decide +kernel) (by decide +kernel) rfl rfl rfl ⟨Nat.le_of_ble_eq_true rfl, Nat.zero_le _, Nat.zero_le _⟩
theorem e132_75 {h : Hp} {v0 : Value} {v1 : Value} {v2 : Value} {v3 : Value} {y0 : Int32} {y1 : Int32} {y2 : Int32} {a3 : Nat} (c : Ins a3 h 5) : Rr 132 75 [v0, v1, v2, v3] [.int y0, .int y1, .int y2, .ref a3] h = (Den 68 [.ref a3, .int y2, .int y1, .int y0] (enH 68 h)).bind (fun z => Rr 132 78 [v0, v1, v2, v3] (psh z.1 []) (lvH 68 h z.2)) := R_vir (y := 68) (i := 27) (by decide +kernel) (by decide +kernel) (by decide +kernel) rfl rfl c ⟨Nat.le_of_ble_eq_true rfl, Nat.zero_le _, Nat.zero_le _⟩
theorem e132_78 {h : Hp} {v0 : Value} {v1 : Value} {v2 : Value} {v3 : Value} : Rr 132 78 [v0, v1, v2, v3] [] h = some (none, h) := R_retV (by decide +kernel) (by decide +kernel)
end
section
/-! THE WORLD BEHIND THE CONSTRUCTORS: which cell is what -/
def f0 : Nat → Option Nat := fun _ => none
def SF (L j : Nat) : Shp :=
  if 10 ≤ j ∧ j < 51 then (0, 146, f0) else if 61 ≤ j ∧ j < 77 then (0, 146, f0)
  else if j = 1 then (9, 0, (upf (upf (upf (upf (upf (upf f0 0 (some 2)) 1 (some 4)) 2 (some 7)) 3 (some 58)) 4 (some 77)) 5 (some 83)))
  else if j = 2 then (7, 0, (upf f0 0 (some 3)))
  else if j = 3 then (0, 146, f0)
  else if j = 4 then (5, 0, (upf (upf f0 0 (some 5)) 1 (some 6)))
  else if j = 5 then (0, 7, f0)
  else if j = 6 then (0, 128, f0)
  else if j = 7 then (8, 0, (upf (upf (upf (upf (upf f0 0 (some 8)) 1 (some 51)) 2 (some 54)) 3 (some 56)) 4 (some 57)))
  else if j = 8 then (6, 0, (upf f0 0 (some 9)))
  else if j = 9 then (1, 41, fun i => if i < 41 then some (10 + i) else none)
  else if j = 51 then (6, 0, (upf f0 0 (some 52)))
  else if j = 52 then (1, 1, fun i => if i < 1 then some (53 + i) else none)
  else if j = 53 then (0, 146, f0)
  else if j = 54 then (7, 0, (upf f0 0 (some 55)))
  else if j = 55 then (0, 146, f0)
  else if j = 56 then (0, 41, f0)
  else if j = 57 then (0, 41, f0)
  else if j = 58 then (3, 0, (upf f0 0 (some 59)))
  else if j = 59 then (6, 0, (upf f0 0 (some 60)))
  else if j = 60 then (1, 16, fun i => if i < 16 then some (61 + i) else none)
  else if j = 77 then (4, 0, (upf (upf f0 0 (some 78)) 1 (some 82)))
  else if j = 78 then (6, 0, (upf f0 0 (some 79)))
  else if j = 79 then (1, 2, fun i => if i < 2 then some (80 + i) else none)
  else if j = 80 then (0, 146, f0)
  else if j = 81 then (0, 146, f0)
  else if j = 82 then (0, 2, f0)
  else if j = 83 then (2, 0, (upf (upf f0 0 (some 84)) 1 (some 85)))
  else if j = 84 then (0, 20, f0)
  else if j = 85 then (0, 20, f0)
  else if j = 86 then (10, 0, (upf (upf (upf (upf (upf (upf (upf f0 0 (some 87)) 4 (some 88)) 5 (some 89)) 6 (some 90)) 8 (some 91)) 9 (some 92)) 10 (some 93)))
  else if j = 87 then (0, 11360, f0)
  else if j = 88 then (0, 2, f0)
  else if j = 89 then (0, 20, f0)
  else if j = 90 then (0, 20, f0)
  else if j = 91 then (0, 512, f0)
  else if j = 92 then (0, 64, f0)
  else if j = 93 then (0, 64, f0)
  else (0, L, f0)
def Hq (n : Nat) (S : Nat → Shp) (g : Nat → Nat → Int32) : Hp := (n, 0, 0, S, g)
abbrev HP (L : Nat) (g : Nat → Nat → Int32) : Hp := Hq 93 (SF L) g
section BB
variable {L n : Nat} {S : Nat → Shp} {g : Nat → Nat → Int32}
theorem Hq_G {a : Nat} : Gt (Hq n S g) a = g a := rfl
theorem Hq_setG {a : Nat} {f : Nat → Int32} : setG (Hq n S g) a f = Hq n S (upf g a f) := rfl
theorem lvH_Hq {y : Nat} {g2 : Nat → Nat → Int32} : lvH y (Hq n S g) (Hq n S g2) = Hq n S g2 := by simp only [lvH, Hq, Nat.zero_sub]
theorem upf_same {α : Type} {f : Nat → α} {k : Nat} {v : α} : upf f k v k = v := if_pos rfl
theorem upf_ne {α : Type} {f : Nat → α} {k j : Nat} {v : α} (h : ¬ j = k) : upf f k v j = f j := if_neg h
theorem upf_upf {α : Type} {f : Nat → α} {k : Nat} {v w : α} : upf (upf f k v) k w = upf f k w := by
  funext j
  unfold upf
  split <;> rfl
theorem upf_id {α : Type} {f : Nat → α} {k : Nat} : upf f k (f k) = f := by
  funext j
  unfold upf
  split
  · rename_i h; rw [h]
  · rfl
theorem i_1 : Ins 1 (HP L g) 7 := ⟨by decide, Nat.le_of_ble_eq_true rfl, rfl⟩
theorem f_1_0 : Rf (HP L g) 1 0 = .ref 2 := rfl
theorem f_1_1 : Rf (HP L g) 1 1 = .ref 4 := rfl
theorem f_1_2 : Rf (HP L g) 1 2 = .ref 7 := rfl
theorem f_1_3 : Rf (HP L g) 1 3 = .ref 58 := rfl
theorem f_1_4 : Rf (HP L g) 1 4 = .ref 77 := rfl
theorem f_1_5 : Rf (HP L g) 1 5 = .ref 83 := rfl
theorem i_2 : Ins 2 (HP L g) 5 := ⟨by decide, Nat.le_of_ble_eq_true rfl, rfl⟩
theorem f_2_0 : Rf (HP L g) 2 0 = .ref 3 := rfl
theorem i_4 : Ins 4 (HP L g) 3 := ⟨by decide, Nat.le_of_ble_eq_true rfl, rfl⟩
theorem f_4_0 : Rf (HP L g) 4 0 = .ref 5 := rfl
theorem f_4_1 : Rf (HP L g) 4 1 = .ref 6 := rfl
theorem i_7 : Ins 7 (HP L g) 6 := ⟨by decide, Nat.le_of_ble_eq_true rfl, rfl⟩
theorem f_7_0 : Rf (HP L g) 7 0 = .ref 8 := rfl
theorem f_7_1 : Rf (HP L g) 7 1 = .ref 51 := rfl
theorem f_7_2 : Rf (HP L g) 7 2 = .ref 54 := rfl
theorem f_7_3 : Rf (HP L g) 7 3 = .ref 56 := rfl
theorem f_7_4 : Rf (HP L g) 7 4 = .ref 57 := rfl
theorem i_8 : Ins 8 (HP L g) 4 := ⟨by decide, Nat.le_of_ble_eq_true rfl, rfl⟩
theorem f_8_0 : Rf (HP L g) 8 0 = .ref 9 := rfl
theorem i_51 : Ins 51 (HP L g) 4 := ⟨by decide, Nat.le_of_ble_eq_true rfl, rfl⟩
theorem f_51_0 : Rf (HP L g) 51 0 = .ref 52 := rfl
theorem i_54 : Ins 54 (HP L g) 5 := ⟨by decide, Nat.le_of_ble_eq_true rfl, rfl⟩
theorem f_54_0 : Rf (HP L g) 54 0 = .ref 55 := rfl
theorem i_58 : Ins 58 (HP L g) 1 := ⟨by decide, Nat.le_of_ble_eq_true rfl, rfl⟩
theorem f_58_0 : Rf (HP L g) 58 0 = .ref 59 := rfl
theorem i_59 : Ins 59 (HP L g) 4 := ⟨by decide, Nat.le_of_ble_eq_true rfl, rfl⟩
theorem f_59_0 : Rf (HP L g) 59 0 = .ref 60 := rfl
theorem i_77 : Ins 77 (HP L g) 2 := ⟨by decide, Nat.le_of_ble_eq_true rfl, rfl⟩
theorem f_77_0 : Rf (HP L g) 77 0 = .ref 78 := rfl
theorem f_77_1 : Rf (HP L g) 77 1 = .ref 82 := rfl
theorem i_78 : Ins 78 (HP L g) 4 := ⟨by decide, Nat.le_of_ble_eq_true rfl, rfl⟩
theorem f_78_0 : Rf (HP L g) 78 0 = .ref 79 := rfl
theorem i_83 : Ins 83 (HP L g) 0 := ⟨by decide, Nat.le_of_ble_eq_true rfl, rfl⟩
theorem f_83_0 : Rf (HP L g) 83 0 = .ref 84 := rfl
theorem f_83_1 : Rf (HP L g) 83 1 = .ref 85 := rfl
theorem i_86 : Ins 86 (HP L g) 8 := ⟨by decide, Nat.le_of_ble_eq_true rfl, rfl⟩
theorem f_86_0 : Rf (HP L g) 86 0 = .ref 87 := rfl
theorem f_86_4 : Rf (HP L g) 86 4 = .ref 88 := rfl
theorem f_86_5 : Rf (HP L g) 86 5 = .ref 89 := rfl
theorem f_86_6 : Rf (HP L g) 86 6 = .ref 90 := rfl
theorem f_86_8 : Rf (HP L g) 86 8 = .ref 91 := rfl
theorem f_86_9 : Rf (HP L g) 86 9 = .ref 92 := rfl
theorem f_86_10 : Rf (HP L g) 86 10 = .ref 93 := rfl
theorem a_3 : Arr 3 (HP L g) := ⟨Nat.le_of_ble_eq_true rfl, rfl⟩
theorem b_3 : ArW 3 (HP L g) := ⟨by decide, Nat.le_of_ble_eq_true rfl, rfl⟩
theorem n_3 : Lng (HP L g) 3 = 146 := rfl
theorem l_3 : ArL 3 (HP L g) := ⟨Nat.le_of_ble_eq_true rfl, Or.inl rfl⟩
theorem a_5 : Arr 5 (HP L g) := ⟨Nat.le_of_ble_eq_true rfl, rfl⟩
theorem b_5 : ArW 5 (HP L g) := ⟨by decide, Nat.le_of_ble_eq_true rfl, rfl⟩
theorem n_5 : Lng (HP L g) 5 = 7 := rfl
theorem l_5 : ArL 5 (HP L g) := ⟨Nat.le_of_ble_eq_true rfl, Or.inl rfl⟩
theorem a_6 : Arr 6 (HP L g) := ⟨Nat.le_of_ble_eq_true rfl, rfl⟩
theorem b_6 : ArW 6 (HP L g) := ⟨by decide, Nat.le_of_ble_eq_true rfl, rfl⟩
theorem n_6 : Lng (HP L g) 6 = 128 := rfl
theorem l_6 : ArL 6 (HP L g) := ⟨Nat.le_of_ble_eq_true rfl, Or.inl rfl⟩
theorem a_53 : Arr 53 (HP L g) := ⟨Nat.le_of_ble_eq_true rfl, rfl⟩
theorem b_53 : ArW 53 (HP L g) := ⟨by decide, Nat.le_of_ble_eq_true rfl, rfl⟩
theorem n_53 : Lng (HP L g) 53 = 146 := rfl
theorem l_53 : ArL 53 (HP L g) := ⟨Nat.le_of_ble_eq_true rfl, Or.inl rfl⟩
theorem a_55 : Arr 55 (HP L g) := ⟨Nat.le_of_ble_eq_true rfl, rfl⟩
theorem b_55 : ArW 55 (HP L g) := ⟨by decide, Nat.le_of_ble_eq_true rfl, rfl⟩
theorem n_55 : Lng (HP L g) 55 = 146 := rfl
theorem l_55 : ArL 55 (HP L g) := ⟨Nat.le_of_ble_eq_true rfl, Or.inl rfl⟩
theorem a_56 : Arr 56 (HP L g) := ⟨Nat.le_of_ble_eq_true rfl, rfl⟩
theorem b_56 : ArW 56 (HP L g) := ⟨by decide, Nat.le_of_ble_eq_true rfl, rfl⟩
theorem n_56 : Lng (HP L g) 56 = 41 := rfl
theorem l_56 : ArL 56 (HP L g) := ⟨Nat.le_of_ble_eq_true rfl, Or.inl rfl⟩
theorem a_57 : Arr 57 (HP L g) := ⟨Nat.le_of_ble_eq_true rfl, rfl⟩
theorem b_57 : ArW 57 (HP L g) := ⟨by decide, Nat.le_of_ble_eq_true rfl, rfl⟩
theorem n_57 : Lng (HP L g) 57 = 41 := rfl
theorem l_57 : ArL 57 (HP L g) := ⟨Nat.le_of_ble_eq_true rfl, Or.inl rfl⟩
theorem a_80 : Arr 80 (HP L g) := ⟨Nat.le_of_ble_eq_true rfl, rfl⟩
theorem b_80 : ArW 80 (HP L g) := ⟨by decide, Nat.le_of_ble_eq_true rfl, rfl⟩
theorem n_80 : Lng (HP L g) 80 = 146 := rfl
theorem l_80 : ArL 80 (HP L g) := ⟨Nat.le_of_ble_eq_true rfl, Or.inl rfl⟩
theorem a_81 : Arr 81 (HP L g) := ⟨Nat.le_of_ble_eq_true rfl, rfl⟩
theorem b_81 : ArW 81 (HP L g) := ⟨by decide, Nat.le_of_ble_eq_true rfl, rfl⟩
theorem n_81 : Lng (HP L g) 81 = 146 := rfl
theorem l_81 : ArL 81 (HP L g) := ⟨Nat.le_of_ble_eq_true rfl, Or.inl rfl⟩
theorem a_82 : Arr 82 (HP L g) := ⟨Nat.le_of_ble_eq_true rfl, rfl⟩
theorem b_82 : ArW 82 (HP L g) := ⟨by decide, Nat.le_of_ble_eq_true rfl, rfl⟩
theorem n_82 : Lng (HP L g) 82 = 2 := rfl
theorem l_82 : ArL 82 (HP L g) := ⟨Nat.le_of_ble_eq_true rfl, Or.inl rfl⟩
theorem a_84 : Arr 84 (HP L g) := ⟨Nat.le_of_ble_eq_true rfl, rfl⟩
theorem b_84 : ArW 84 (HP L g) := ⟨by decide, Nat.le_of_ble_eq_true rfl, rfl⟩
theorem n_84 : Lng (HP L g) 84 = 20 := rfl
theorem l_84 : ArL 84 (HP L g) := ⟨Nat.le_of_ble_eq_true rfl, Or.inl rfl⟩
theorem a_85 : Arr 85 (HP L g) := ⟨Nat.le_of_ble_eq_true rfl, rfl⟩
theorem b_85 : ArW 85 (HP L g) := ⟨by decide, Nat.le_of_ble_eq_true rfl, rfl⟩
theorem n_85 : Lng (HP L g) 85 = 20 := rfl
theorem l_85 : ArL 85 (HP L g) := ⟨Nat.le_of_ble_eq_true rfl, Or.inl rfl⟩
theorem a_87 : Arr 87 (HP L g) := ⟨Nat.le_of_ble_eq_true rfl, rfl⟩
theorem b_87 : ArW 87 (HP L g) := ⟨by decide, Nat.le_of_ble_eq_true rfl, rfl⟩
theorem n_87 : Lng (HP L g) 87 = 11360 := rfl
theorem l_87 : ArL 87 (HP L g) := ⟨Nat.le_of_ble_eq_true rfl, Or.inl rfl⟩
theorem a_88 : Arr 88 (HP L g) := ⟨Nat.le_of_ble_eq_true rfl, rfl⟩
theorem b_88 : ArW 88 (HP L g) := ⟨by decide, Nat.le_of_ble_eq_true rfl, rfl⟩
theorem n_88 : Lng (HP L g) 88 = 2 := rfl
theorem l_88 : ArL 88 (HP L g) := ⟨Nat.le_of_ble_eq_true rfl, Or.inl rfl⟩
theorem a_89 : Arr 89 (HP L g) := ⟨Nat.le_of_ble_eq_true rfl, rfl⟩
theorem b_89 : ArW 89 (HP L g) := ⟨by decide, Nat.le_of_ble_eq_true rfl, rfl⟩
theorem n_89 : Lng (HP L g) 89 = 20 := rfl
theorem l_89 : ArL 89 (HP L g) := ⟨Nat.le_of_ble_eq_true rfl, Or.inl rfl⟩
theorem a_90 : Arr 90 (HP L g) := ⟨Nat.le_of_ble_eq_true rfl, rfl⟩
theorem b_90 : ArW 90 (HP L g) := ⟨by decide, Nat.le_of_ble_eq_true rfl, rfl⟩
theorem n_90 : Lng (HP L g) 90 = 20 := rfl
theorem l_90 : ArL 90 (HP L g) := ⟨Nat.le_of_ble_eq_true rfl, Or.inl rfl⟩
theorem a_91 : Arr 91 (HP L g) := ⟨Nat.le_of_ble_eq_true rfl, rfl⟩
theorem b_91 : ArW 91 (HP L g) := ⟨by decide, Nat.le_of_ble_eq_true rfl, rfl⟩
theorem n_91 : Lng (HP L g) 91 = 512 := rfl
theorem l_91 : ArL 91 (HP L g) := ⟨Nat.le_of_ble_eq_true rfl, Or.inl rfl⟩
theorem a_92 : Arr 92 (HP L g) := ⟨Nat.le_of_ble_eq_true rfl, rfl⟩
theorem b_92 : ArW 92 (HP L g) := ⟨by decide, Nat.le_of_ble_eq_true rfl, rfl⟩
theorem n_92 : Lng (HP L g) 92 = 64 := rfl
theorem l_92 : ArL 92 (HP L g) := ⟨Nat.le_of_ble_eq_true rfl, Or.inl rfl⟩
theorem a_93 : Arr 93 (HP L g) := ⟨Nat.le_of_ble_eq_true rfl, rfl⟩
theorem b_93 : ArW 93 (HP L g) := ⟨by decide, Nat.le_of_ble_eq_true rfl, rfl⟩
theorem n_93 : Lng (HP L g) 93 = 64 := rfl
theorem l_93 : ArL 93 (HP L g) := ⟨Nat.le_of_ble_eq_true rfl, Or.inl rfl⟩
theorem c_9 : Rws 9 (HP L g) := ⟨by decide, Nat.le_of_ble_eq_true rfl, rfl⟩
theorem n_9 : Lng (HP L g) 9 = 41 := rfl
theorem l_9 : ArL 9 (HP L g) := ⟨Nat.le_of_ble_eq_true rfl, Or.inr ⟨rfl, by decide⟩⟩
theorem r_9 {i : Nat} (h : i < 41) : Rf (HP L g) 9 i = .ref (10 + i) := by
  show rv (if i < 41 then some (10 + i) else none) = _
  rw [if_pos h]
  rfl
theorem c_52 : Rws 52 (HP L g) := ⟨by decide, Nat.le_of_ble_eq_true rfl, rfl⟩
theorem n_52 : Lng (HP L g) 52 = 1 := rfl
theorem l_52 : ArL 52 (HP L g) := ⟨Nat.le_of_ble_eq_true rfl, Or.inr ⟨rfl, by decide⟩⟩
theorem r_52 {i : Nat} (h : i < 1) : Rf (HP L g) 52 i = .ref (53 + i) := by
  show rv (if i < 1 then some (53 + i) else none) = _
  rw [if_pos h]
  rfl
theorem c_60 : Rws 60 (HP L g) := ⟨by decide, Nat.le_of_ble_eq_true rfl, rfl⟩
theorem n_60 : Lng (HP L g) 60 = 16 := rfl
theorem l_60 : ArL 60 (HP L g) := ⟨Nat.le_of_ble_eq_true rfl, Or.inr ⟨rfl, by decide⟩⟩
theorem r_60 {i : Nat} (h : i < 16) : Rf (HP L g) 60 i = .ref (61 + i) := by
  show rv (if i < 16 then some (61 + i) else none) = _
  rw [if_pos h]
  rfl
theorem c_79 : Rws 79 (HP L g) := ⟨by decide, Nat.le_of_ble_eq_true rfl, rfl⟩
theorem n_79 : Lng (HP L g) 79 = 2 := rfl
theorem l_79 : ArL 79 (HP L g) := ⟨Nat.le_of_ble_eq_true rfl, Or.inr ⟨rfl, by decide⟩⟩
theorem r_79 {i : Nat} (h : i < 2) : Rf (HP L g) 79 i = .ref (80 + i) := by
  show rv (if i < 2 then some (80 + i) else none) = _
  rw [if_pos h]
  rfl
/-- p is a State, its row the cell q -/
def St (n : Nat) (S : Nat → Shp) (p q : Nat) : Prop := ∀ g : Nat → Nat → Int32, Ins p (Hq n S g) 5 ∧ Rf (Hq n S g) p 0 = .ref q ∧ Arr q (Hq n S g) ∧ ArW q (Hq n S g) ∧ ArL q (Hq n S g) ∧ Lng (Hq n S g) q = 146
theorem St.i {p q : Nat} (h : St n S p q) : Ins p (Hq n S g) 5 := (h g).1
theorem St.f {p q : Nat} (h : St n S p q) : Rf (Hq n S g) p 0 = .ref q := (h g).2.1
theorem St.a {p q : Nat} (h : St n S p q) : Arr q (Hq n S g) := (h g).2.2.1
theorem St.b {p q : Nat} (h : St n S p q) : ArW q (Hq n S g) := (h g).2.2.2.1
theorem St.l {p q : Nat} (h : St n S p q) : ArL q (Hq n S g) := (h g).2.2.2.2.1
theorem St.len {p q : Nat} (h : St n S p q) : Lng (Hq n S g) q = 146 := (h g).2.2.2.2.2
theorem st_2 : St 93 (SF L) 2 3 := fun g => ⟨i_2, f_2_0, a_3, b_3, l_3, n_3⟩
theorem st_54 : St 93 (SF L) 54 55 := fun g => ⟨i_54, f_54_0, a_55, b_55, l_55, n_55⟩
theorem en_0 : enH 0 (Hq n S g) = Hq n S g := rfl
theorem en_1 : enH 1 (Hq n S g) = Hq n S g := rfl
theorem en_2 : enH 2 (Hq n S g) = Hq n S g := rfl
theorem en_4 : enH 4 (Hq n S g) = Hq n S g := rfl
theorem en_5 : enH 5 (Hq n S g) = Hq n S g := rfl
theorem en_6 : enH 6 (Hq n S g) = Hq n S g := rfl
theorem en_7 : enH 7 (Hq n S g) = Hq n S g := rfl
theorem en_8 : enH 8 (Hq n S g) = Hq n S g := rfl
theorem en_9 : enH 9 (Hq n S g) = Hq n S g := rfl
theorem en_10 : enH 10 (Hq n S g) = Hq n S g := rfl
theorem en_11 : enH 11 (Hq n S g) = Hq n S g := rfl
theorem en_12 : enH 12 (Hq n S g) = Hq n S g := rfl
theorem en_13 : enH 13 (Hq n S g) = Hq n S g := rfl
theorem en_14 : enH 14 (Hq n S g) = Hq n S g := rfl
theorem en_15 : enH 15 (Hq n S g) = Hq n S g := rfl
theorem en_16 : enH 16 (Hq n S g) = Hq n S g := rfl
theorem en_17 : enH 17 (Hq n S g) = Hq n S g := rfl
theorem en_18 : enH 18 (Hq n S g) = Hq n S g := rfl
theorem en_20 : enH 20 (Hq n S g) = Hq n S g := rfl
theorem en_21 : enH 21 (Hq n S g) = Hq n S g := rfl
theorem en_23 : enH 23 (Hq n S g) = Hq n S g := rfl
theorem en_24 : enH 24 (Hq n S g) = Hq n S g := rfl
theorem en_25 : enH 25 (Hq n S g) = Hq n S g := rfl
theorem en_26 : enH 26 (Hq n S g) = Hq n S g := rfl
theorem en_28 : enH 28 (Hq n S g) = Hq n S g := rfl
theorem en_29 : enH 29 (Hq n S g) = Hq n S g := rfl
theorem en_30 : enH 30 (Hq n S g) = Hq n S g := rfl
theorem en_31 : enH 31 (Hq n S g) = Hq n S g := rfl
theorem en_32 : enH 32 (Hq n S g) = Hq n S g := rfl
theorem en_33 : enH 33 (Hq n S g) = Hq n S g := rfl
theorem en_34 : enH 34 (Hq n S g) = Hq n S g := rfl
theorem en_35 : enH 35 (Hq n S g) = Hq n S g := rfl
theorem en_36 : enH 36 (Hq n S g) = Hq n S g := rfl
theorem en_37 : enH 37 (Hq n S g) = Hq n S g := rfl
theorem en_38 : enH 38 (Hq n S g) = Hq n S g := rfl
theorem en_39 : enH 39 (Hq n S g) = Hq n S g := rfl
theorem en_40 : enH 40 (Hq n S g) = Hq n S g := rfl
theorem en_41 : enH 41 (Hq n S g) = Hq n S g := rfl
theorem en_42 : enH 42 (Hq n S g) = Hq n S g := rfl
theorem en_43 : enH 43 (Hq n S g) = Hq n S g := rfl
theorem en_44 : enH 44 (Hq n S g) = Hq n S g := rfl
theorem en_45 : enH 45 (Hq n S g) = Hq n S g := rfl
theorem en_46 : enH 46 (Hq n S g) = Hq n S g := rfl
theorem en_47 : enH 47 (Hq n S g) = Hq n S g := rfl
theorem en_48 : enH 48 (Hq n S g) = Hq n S g := rfl
theorem en_49 : enH 49 (Hq n S g) = Hq n S g := rfl
theorem en_50 : enH 50 (Hq n S g) = Hq n S g := rfl
theorem en_52 : enH 52 (Hq n S g) = Hq n S g := rfl
theorem en_54 : enH 54 (Hq n S g) = Hq n S g := rfl
theorem en_55 : enH 55 (Hq n S g) = Hq n S g := rfl
theorem en_56 : enH 56 (Hq n S g) = Hq n S g := rfl
theorem en_57 : enH 57 (Hq n S g) = Hq n S g := rfl
theorem en_58 : enH 58 (Hq n S g) = Hq n S g := rfl
theorem en_59 : enH 59 (Hq n S g) = Hq n S g := rfl
theorem en_60 : enH 60 (Hq n S g) = Hq n S g := rfl
theorem en_61 : enH 61 (Hq n S g) = Hq n S g := rfl
theorem en_62 : enH 62 (Hq n S g) = Hq n S g := rfl
theorem en_63 : enH 63 (Hq n S g) = Hq n S g := rfl
theorem en_64 : enH 64 (Hq n S g) = Hq n S g := rfl
theorem en_65 : enH 65 (Hq n S g) = Hq n S g := rfl
theorem en_66 : enH 66 (Hq n S g) = Hq n S g := rfl
theorem en_67 : enH 67 (Hq n S g) = Hq n S g := rfl
theorem en_68 : enH 68 (Hq n S g) = Hq n S g := rfl
theorem en_69 : enH 69 (Hq n S g) = Hq n S g := rfl
theorem en_70 : enH 70 (Hq n S g) = Hq n S g := rfl
theorem en_71 : enH 71 (Hq n S g) = Hq n S g := rfl
theorem en_72 : enH 72 (Hq n S g) = Hq n S g := rfl
theorem en_73 : enH 73 (Hq n S g) = Hq n S g := rfl
theorem en_74 : enH 74 (Hq n S g) = Hq n S g := rfl
theorem en_76 : enH 76 (Hq n S g) = Hq n S g := rfl
theorem en_77 : enH 77 (Hq n S g) = Hq n S g := rfl
theorem en_78 : enH 78 (Hq n S g) = Hq n S g := rfl
theorem en_79 : enH 79 (Hq n S g) = Hq n S g := rfl
theorem en_80 : enH 80 (Hq n S g) = Hq n S g := rfl
theorem en_81 : enH 81 (Hq n S g) = Hq n S g := rfl
theorem en_82 : enH 82 (Hq n S g) = Hq n S g := rfl
theorem en_84 : enH 84 (Hq n S g) = Hq n S g := rfl
theorem en_85 : enH 85 (Hq n S g) = Hq n S g := rfl
theorem en_86 : enH 86 (Hq n S g) = Hq n S g := rfl
theorem en_87 : enH 87 (Hq n S g) = Hq n S g := rfl
theorem en_88 : enH 88 (Hq n S g) = Hq n S g := rfl
theorem en_89 : enH 89 (Hq n S g) = Hq n S g := rfl
theorem en_90 : enH 90 (Hq n S g) = Hq n S g := rfl
theorem en_91 : enH 91 (Hq n S g) = Hq n S g := rfl
theorem en_92 : enH 92 (Hq n S g) = Hq n S g := rfl
theorem en_93 : enH 93 (Hq n S g) = Hq n S g := rfl
theorem en_94 : enH 94 (Hq n S g) = Hq n S g := rfl
theorem en_95 : enH 95 (Hq n S g) = Hq n S g := rfl
theorem en_96 : enH 96 (Hq n S g) = Hq n S g := rfl
theorem en_97 : enH 97 (Hq n S g) = Hq n S g := rfl
theorem en_98 : enH 98 (Hq n S g) = Hq n S g := rfl
theorem en_99 : enH 99 (Hq n S g) = Hq n S g := rfl
theorem en_100 : enH 100 (Hq n S g) = Hq n S g := rfl
theorem en_101 : enH 101 (Hq n S g) = Hq n S g := rfl
theorem en_102 : enH 102 (Hq n S g) = Hq n S g := rfl
theorem en_103 : enH 103 (Hq n S g) = Hq n S g := rfl
theorem en_104 : enH 104 (Hq n S g) = Hq n S g := rfl
theorem en_105 : enH 105 (Hq n S g) = Hq n S g := rfl
theorem en_106 : enH 106 (Hq n S g) = Hq n S g := rfl
theorem en_107 : enH 107 (Hq n S g) = Hq n S g := rfl
theorem en_108 : enH 108 (Hq n S g) = Hq n S g := rfl
theorem en_109 : enH 109 (Hq n S g) = Hq n S g := rfl
theorem en_110 : enH 110 (Hq n S g) = Hq n S g := rfl
theorem en_111 : enH 111 (Hq n S g) = Hq n S g := rfl
theorem en_112 : enH 112 (Hq n S g) = Hq n S g := rfl
theorem en_113 : enH 113 (Hq n S g) = Hq n S g := rfl
theorem en_114 : enH 114 (Hq n S g) = Hq n S g := rfl
theorem en_115 : enH 115 (Hq n S g) = Hq n S g := rfl
theorem en_116 : enH 116 (Hq n S g) = Hq n S g := rfl
theorem en_117 : enH 117 (Hq n S g) = Hq n S g := rfl
theorem en_118 : enH 118 (Hq n S g) = Hq n S g := rfl
theorem en_119 : enH 119 (Hq n S g) = Hq n S g := rfl
theorem en_120 : enH 120 (Hq n S g) = Hq n S g := rfl
theorem en_121 : enH 121 (Hq n S g) = Hq n S g := rfl
theorem en_122 : enH 122 (Hq n S g) = Hq n S g := rfl
theorem en_123 : enH 123 (Hq n S g) = Hq n S g := rfl
theorem en_124 : enH 124 (Hq n S g) = Hq n S g := rfl
theorem en_125 : enH 125 (Hq n S g) = Hq n S g := rfl
theorem en_126 : enH 126 (Hq n S g) = Hq n S g := rfl
theorem en_127 : enH 127 (Hq n S g) = Hq n S g := rfl
theorem en_128 : enH 128 (Hq n S g) = Hq n S g := rfl
theorem en_129 : enH 129 (Hq n S g) = Hq n S g := rfl
theorem en_130 : enH 130 (Hq n S g) = Hq n S g := rfl
theorem en_131 : enH 131 (Hq n S g) = Hq n S g := rfl
theorem en_132 : enH 132 (Hq n S g) = Hq n S g := rfl
theorem en_133 : enH 133 (Hq n S g) = Hq n S g := rfl
theorem en_134 : enH 134 (Hq n S g) = Hq n S g := rfl
theorem en_135 : enH 135 (Hq n S g) = Hq n S g := rfl
theorem en_136 : enH 136 (Hq n S g) = Hq n S g := rfl
theorem en_137 : enH 137 (Hq n S g) = Hq n S g := rfl
theorem en_138 : enH 138 (Hq n S g) = Hq n S g := rfl
theorem en_140 : enH 140 (Hq n S g) = Hq n S g := rfl
theorem en_141 : enH 141 (Hq n S g) = Hq n S g := rfl
theorem en_142 : enH 142 (Hq n S g) = Hq n S g := rfl
theorem en_143 : enH 143 (Hq n S g) = Hq n S g := rfl
theorem en_144 : enH 144 (Hq n S g) = Hq n S g := rfl
theorem en_145 : enH 145 (Hq n S g) = Hq n S g := rfl
theorem en_146 : enH 146 (Hq n S g) = Hq n S g := rfl
theorem en_147 : enH 147 (Hq n S g) = Hq n S g := rfl
theorem en_148 : enH 148 (Hq n S g) = Hq n S g := rfl
theorem en_149 : enH 149 (Hq n S g) = Hq n S g := rfl
theorem en_150 : enH 150 (Hq n S g) = Hq n S g := rfl
theorem en_151 : enH 151 (Hq n S g) = Hq n S g := rfl
theorem en_152 : enH 152 (Hq n S g) = Hq n S g := rfl
theorem en_153 : enH 153 (Hq n S g) = Hq n S g := rfl
theorem en_154 : enH 154 (Hq n S g) = Hq n S g := rfl
theorem en_155 : enH 155 (Hq n S g) = Hq n S g := rfl
theorem en_156 : enH 156 (Hq n S g) = Hq n S g := rfl
theorem en_157 : enH 157 (Hq n S g) = Hq n S g := rfl
theorem en_158 : enH 158 (Hq n S g) = Hq n S g := rfl
theorem en_159 : enH 159 (Hq n S g) = Hq n S g := rfl
theorem en_160 : enH 160 (Hq n S g) = Hq n S g := rfl
theorem en_161 : enH 161 (Hq n S g) = Hq n S g := rfl
theorem en_162 : enH 162 (Hq n S g) = Hq n S g := rfl
theorem en_163 : enH 163 (Hq n S g) = Hq n S g := rfl
theorem en_164 : enH 164 (Hq n S g) = Hq n S g := rfl
theorem en_165 : enH 165 (Hq n S g) = Hq n S g := rfl
theorem en_166 : enH 166 (Hq n S g) = Hq n S g := rfl
theorem en_167 : enH 167 (Hq n S g) = Hq n S g := rfl
theorem en_168 : enH 168 (Hq n S g) = Hq n S g := rfl
theorem en_169 : enH 169 (Hq n S g) = Hq n S g := rfl
theorem en_170 : enH 170 (Hq n S g) = Hq n S g := rfl
theorem en_171 : enH 171 (Hq n S g) = Hq n S g := rfl
theorem en_172 : enH 172 (Hq n S g) = Hq n S g := rfl
theorem en_173 : enH 173 (Hq n S g) = Hq n S g := rfl
theorem en_174 : enH 174 (Hq n S g) = Hq n S g := rfl
theorem en_175 : enH 175 (Hq n S g) = Hq n S g := rfl
theorem en_176 : enH 176 (Hq n S g) = Hq n S g := rfl
theorem en_177 : enH 177 (Hq n S g) = Hq n S g := rfl
theorem en_178 : enH 178 (Hq n S g) = Hq n S g := rfl
theorem en_179 : enH 179 (Hq n S g) = Hq n S g := rfl
theorem en_180 : enH 180 (Hq n S g) = Hq n S g := rfl
theorem en_181 : enH 181 (Hq n S g) = Hq n S g := rfl
theorem en_182 : enH 182 (Hq n S g) = Hq n S g := rfl
theorem en_183 : enH 183 (Hq n S g) = Hq n S g := rfl
theorem en_184 : enH 184 (Hq n S g) = Hq n S g := rfl
theorem en_185 : enH 185 (Hq n S g) = Hq n S g := rfl
theorem en_186 : enH 186 (Hq n S g) = Hq n S g := rfl
theorem en_187 : enH 187 (Hq n S g) = Hq n S g := rfl
theorem en_188 : enH 188 (Hq n S g) = Hq n S g := rfl
theorem en_189 : enH 189 (Hq n S g) = Hq n S g := rfl
theorem en_190 : enH 190 (Hq n S g) = Hq n S g := rfl
theorem en_191 : enH 191 (Hq n S g) = Hq n S g := rfl
theorem en_192 : enH 192 (Hq n S g) = Hq n S g := rfl
theorem en_193 : enH 193 (Hq n S g) = Hq n S g := rfl
theorem en_194 : enH 194 (Hq n S g) = Hq n S g := rfl
theorem en_195 : enH 195 (Hq n S g) = Hq n S g := rfl
theorem en_196 : enH 196 (Hq n S g) = Hq n S g := rfl
theorem en_197 : enH 197 (Hq n S g) = Hq n S g := rfl
theorem en_198 : enH 198 (Hq n S g) = Hq n S g := rfl
end BB
end
section
/-! each method from its start -/
theorem D0_0 {h : Hp} {r0 : Nat} {x1 : Int32} : Den 0 [.ref r0, .int x1] h = Rr 0 0 [.ref r0, .int x1, .retAddr 0, .retAddr 0] [] h := Den_start ⟨Nat.le_of_ble_eq_true rfl, fun _ => List.forall_mem_cons.mpr ⟨rfl, List.forall_mem_cons.mpr ⟨rfl, fun _ h => absurd h List.not_mem_nil⟩⟩⟩ rfl
theorem D0_1 {h : Hp} {r0 : Nat} {x1 : Int32} {x2 : Int32} : Den 1 [.ref r0, .int x1, .int x2] h = Rr 1 0 [.ref r0, .int x1, .int x2] [] h := Den_start ⟨Nat.le_of_ble_eq_true rfl, fun _ => List.forall_mem_cons.mpr ⟨rfl, List.forall_mem_cons.mpr ⟨rfl, List.forall_mem_cons.mpr ⟨rfl, fun _ h => absurd h List.not_mem_nil⟩⟩⟩⟩ rfl
theorem D0_2 {h : Hp} {r0 : Nat} : Den 2 [.ref r0] h = Rr 2 0 [.ref r0] [] h := Den_start ⟨Nat.le_of_ble_eq_true rfl, fun _ => List.forall_mem_cons.mpr ⟨rfl, fun _ h => absurd h List.not_mem_nil⟩⟩ rfl
theorem D0_3 {h : Hp} {r0 : Nat} : Den 3 [.ref r0] h = Rr 3 0 [.ref r0] [] h := Den_start ⟨Nat.le_of_ble_eq_true rfl, fun _ => List.forall_mem_cons.mpr ⟨rfl, fun _ h => absurd h List.not_mem_nil⟩⟩ rfl
theorem D0_4 {h : Hp} {r0 : Nat} : Den 4 [.ref r0] h = Rr 4 0 [.ref r0] [] h := Den_start ⟨Nat.le_of_ble_eq_true rfl, fun _ => List.forall_mem_cons.mpr ⟨rfl, fun _ h => absurd h List.not_mem_nil⟩⟩ rfl
theorem D0_5 {h : Hp} {r0 : Nat} : Den 5 [.ref r0] h = Rr 5 0 [.ref r0] [] h := Den_start ⟨Nat.le_of_ble_eq_true rfl, fun _ => List.forall_mem_cons.mpr ⟨rfl, fun _ h => absurd h List.not_mem_nil⟩⟩ rfl
theorem D0_6 {h : Hp} {r0 : Nat} {x1 : Int32} {x2 : Int32} : Den 6 [.ref r0, .int x1, .int x2] h = Rr 6 0 [.ref r0, .int x1, .int x2, .retAddr 0] [] h := Den_start ⟨Nat.le_of_ble_eq_true rfl, fun _ => List.forall_mem_cons.mpr ⟨rfl, List.forall_mem_cons.mpr ⟨rfl, List.forall_mem_cons.mpr ⟨rfl, fun _ h => absurd h List.not_mem_nil⟩⟩⟩⟩ rfl
theorem D0_7 {h : Hp} {r0 : Nat} : Den 7 [.ref r0] h = Rr 7 0 [.ref r0, .retAddr 0] [] h := Den_start ⟨Nat.le_of_ble_eq_true rfl, fun _ => List.forall_mem_cons.mpr ⟨rfl, fun _ h => absurd h List.not_mem_nil⟩⟩ rfl
theorem D0_8 {h : Hp} {r0 : Nat} {x1 : Int32} {x2 : Int32} : Den 8 [.ref r0, .int x1, .int x2] h = Rr 8 0 [.ref r0, .int x1, .int x2, .retAddr 0] [] h := Den_start ⟨Nat.le_of_ble_eq_true rfl, fun _ => List.forall_mem_cons.mpr ⟨rfl, List.forall_mem_cons.mpr ⟨rfl, List.forall_mem_cons.mpr ⟨rfl, fun _ h => absurd h List.not_mem_nil⟩⟩⟩⟩ rfl
theorem D0_9 {h : Hp} {r0 : Nat} {x1 : Int32} : Den 9 [.ref r0, .int x1] h = Rr 9 0 [.ref r0, .int x1] [] h := Den_start ⟨Nat.le_of_ble_eq_true rfl, fun _ => List.forall_mem_cons.mpr ⟨rfl, List.forall_mem_cons.mpr ⟨rfl, fun _ h => absurd h List.not_mem_nil⟩⟩⟩ rfl
theorem D0_10 {h : Hp} {w0 : Int64} {w1 : Int64} {w2 : Int64} : Den 10 [.long w0, .long w1, .long w2] h = Rr 10 0 [.long w0, .retAddr 0, .long w1, .retAddr 0, .long w2, .retAddr 0] [] h := Den_start ⟨Nat.le_of_ble_eq_true rfl, fun q => absurd q (by decide)⟩ rfl
theorem D0_11 {h : Hp} {r0 : Nat} {x1 : Int32} {x2 : Int32} : Den 11 [.ref r0, .int x1, .int x2] h = Rr 11 0 [.ref r0, .int x1, .int x2] [] h := Den_start ⟨Nat.le_of_ble_eq_true rfl, fun _ => List.forall_mem_cons.mpr ⟨rfl, List.forall_mem_cons.mpr ⟨rfl, List.forall_mem_cons.mpr ⟨rfl, fun _ h => absurd h List.not_mem_nil⟩⟩⟩⟩ rfl
theorem D0_12 {h : Hp} {r0 : Nat} {x1 : Int32} {x2 : Int32} : Den 12 [.ref r0, .int x1, .int x2] h = Rr 12 0 [.ref r0, .int x1, .int x2] [] h := Den_start ⟨Nat.le_of_ble_eq_true rfl, fun _ => List.forall_mem_cons.mpr ⟨rfl, List.forall_mem_cons.mpr ⟨rfl, List.forall_mem_cons.mpr ⟨rfl, fun _ h => absurd h List.not_mem_nil⟩⟩⟩⟩ rfl
theorem D0_13 {h : Hp} {r0 : Nat} {x1 : Int32} : Den 13 [.ref r0, .int x1] h = Rr 13 0 [.ref r0, .int x1, .retAddr 0] [] h := Den_start ⟨Nat.le_of_ble_eq_true rfl, fun _ => List.forall_mem_cons.mpr ⟨rfl, List.forall_mem_cons.mpr ⟨rfl, fun _ h => absurd h List.not_mem_nil⟩⟩⟩ rfl
theorem D0_14 {h : Hp} {r0 : Nat} : Den 14 [.ref r0] h = Rr 14 0 [.ref r0, .retAddr 0] [] h := Den_start ⟨Nat.le_of_ble_eq_true rfl, fun _ => List.forall_mem_cons.mpr ⟨rfl, fun _ h => absurd h List.not_mem_nil⟩⟩ rfl
theorem D0_15 {h : Hp} {r0 : Nat} : Den 15 [.ref r0] h = Rr 15 0 [.ref r0] [] h := Den_start ⟨Nat.le_of_ble_eq_true rfl, fun _ => List.forall_mem_cons.mpr ⟨rfl, fun _ h => absurd h List.not_mem_nil⟩⟩ rfl
theorem D0_16 {h : Hp} {r0 : Nat} : Den 16 [.ref r0] h = Rr 16 0 [.ref r0] [] h := Den_start ⟨Nat.le_of_ble_eq_true rfl, fun _ => List.forall_mem_cons.mpr ⟨rfl, fun _ h => absurd h List.not_mem_nil⟩⟩ rfl
theorem D0_17 {h : Hp} {r0 : Nat} : Den 17 [.ref r0] h = Rr 17 0 [.ref r0] [] h := Den_start ⟨Nat.le_of_ble_eq_true rfl, fun _ => List.forall_mem_cons.mpr ⟨rfl, fun _ h => absurd h List.not_mem_nil⟩⟩ rfl
theorem D0_18 {h : Hp} {r0 : Nat} {x1 : Int32} : Den 18 [.ref r0, .int x1] h = Rr 18 0 [.ref r0, .int x1] [] h := Den_start ⟨Nat.le_of_ble_eq_true rfl, fun _ => List.forall_mem_cons.mpr ⟨rfl, List.forall_mem_cons.mpr ⟨rfl, fun _ h => absurd h List.not_mem_nil⟩⟩⟩ rfl
theorem D0_19 {h : Hp} {r0 : Nat} : Den 19 [.ref r0] h = Rr 19 0 [.ref r0] [] h := Den_start ⟨Nat.le_of_ble_eq_true rfl, fun _ => List.forall_mem_cons.mpr ⟨rfl, fun _ h => absurd h List.not_mem_nil⟩⟩ rfl
theorem D0_20 {h : Hp} {x0 : Int32} {x1 : Int32} {x2 : Int32} {x3 : Int32} : Den 20 [.int x0, .int x1, .int x2, .int x3] h = Rr 20 0 [.int x0, .int x1, .int x2, .int x3] [] h := Den_start ⟨Nat.le_of_ble_eq_true rfl, fun _ => List.forall_mem_cons.mpr ⟨rfl, List.forall_mem_cons.mpr ⟨rfl, List.forall_mem_cons.mpr ⟨rfl, List.forall_mem_cons.mpr ⟨rfl, fun _ h => absurd h List.not_mem_nil⟩⟩⟩⟩⟩ rfl
theorem D0_21 {h : Hp} {x0 : Int32} {x1 : Int32} {x2 : Int32} : Den 21 [.int x0, .int x1, .int x2] h = Rr 21 0 [.int x0, .int x1, .int x2] [] h := Den_start ⟨Nat.le_of_ble_eq_true rfl, fun _ => List.forall_mem_cons.mpr ⟨rfl, List.forall_mem_cons.mpr ⟨rfl, List.forall_mem_cons.mpr ⟨rfl, fun _ h => absurd h List.not_mem_nil⟩⟩⟩⟩ rfl
theorem D0_22 {h : Hp} {r0 : Nat} {x1 : Int32} : Den 22 [.ref r0, .int x1] h = Rr 22 0 [.ref r0, .int x1] [] h := Den_start ⟨Nat.le_of_ble_eq_true rfl, fun _ => List.forall_mem_cons.mpr ⟨rfl, List.forall_mem_cons.mpr ⟨rfl, fun _ h => absurd h List.not_mem_nil⟩⟩⟩ rfl
theorem D0_23 {h : Hp} {r0 : Nat} {x1 : Int32} {r2 : Nat} : Den 23 [.ref r0, .int x1, .ref r2] h = Rr 23 0 [.ref r0, .int x1, .ref r2] [] h := Den_start ⟨Nat.le_of_ble_eq_true rfl, fun _ => List.forall_mem_cons.mpr ⟨rfl, List.forall_mem_cons.mpr ⟨rfl, List.forall_mem_cons.mpr ⟨rfl, fun _ h => absurd h List.not_mem_nil⟩⟩⟩⟩ rfl
theorem D0_24 {h : Hp} {r0 : Nat} {x1 : Int32} {r2 : Nat} : Den 24 [.ref r0, .int x1, .ref r2] h = Rr 24 0 [.ref r0, .int x1, .ref r2] [] h := Den_start ⟨Nat.le_of_ble_eq_true rfl, fun _ => List.forall_mem_cons.mpr ⟨rfl, List.forall_mem_cons.mpr ⟨rfl, List.forall_mem_cons.mpr ⟨rfl, fun _ h => absurd h List.not_mem_nil⟩⟩⟩⟩ rfl
theorem D0_25 {h : Hp} {r0 : Nat} {x1 : Int32} : Den 25 [.ref r0, .int x1] h = Rr 25 0 [.ref r0, .int x1] [] h := Den_start ⟨Nat.le_of_ble_eq_true rfl, fun _ => List.forall_mem_cons.mpr ⟨rfl, List.forall_mem_cons.mpr ⟨rfl, fun _ h => absurd h List.not_mem_nil⟩⟩⟩ rfl
theorem D0_26 {h : Hp} {r0 : Nat} {x1 : Int32} : Den 26 [.ref r0, .int x1] h = Rr 26 0 [.ref r0, .int x1, .retAddr 0] [] h := Den_start ⟨Nat.le_of_ble_eq_true rfl, fun _ => List.forall_mem_cons.mpr ⟨rfl, List.forall_mem_cons.mpr ⟨rfl, fun _ h => absurd h List.not_mem_nil⟩⟩⟩ rfl
theorem D0_27 {h : Hp} {r0 : Nat} : Den 27 [.ref r0] h = Rr 27 0 [.ref r0] [] h := Den_start ⟨Nat.le_of_ble_eq_true rfl, fun _ => List.forall_mem_cons.mpr ⟨rfl, fun _ h => absurd h List.not_mem_nil⟩⟩ rfl
theorem D0_28 {h : Hp} {r0 : Nat} {x1 : Int32} {x2 : Int32} : Den 28 [.ref r0, .int x1, .int x2] h = Rr 28 0 [.ref r0, .int x1, .int x2, .retAddr 0] [] h := Den_start ⟨Nat.le_of_ble_eq_true rfl, fun _ => List.forall_mem_cons.mpr ⟨rfl, List.forall_mem_cons.mpr ⟨rfl, List.forall_mem_cons.mpr ⟨rfl, fun _ h => absurd h List.not_mem_nil⟩⟩⟩⟩ rfl
theorem D0_29 {h : Hp} {r0 : Nat} {x1 : Int32} {x2 : Int32} : Den 29 [.ref r0, .int x1, .int x2] h = Rr 29 0 [.ref r0, .int x1, .int x2, .retAddr 0] [] h := Den_start ⟨Nat.le_of_ble_eq_true rfl, fun _ => List.forall_mem_cons.mpr ⟨rfl, List.forall_mem_cons.mpr ⟨rfl, List.forall_mem_cons.mpr ⟨rfl, fun _ h => absurd h List.not_mem_nil⟩⟩⟩⟩ rfl
theorem D0_30 {h : Hp} {r0 : Nat} {x1 : Int32} {x2 : Int32} : Den 30 [.ref r0, .int x1, .int x2] h = Rr 30 0 [.ref r0, .int x1, .int x2] [] h := Den_start ⟨Nat.le_of_ble_eq_true rfl, fun _ => List.forall_mem_cons.mpr ⟨rfl, List.forall_mem_cons.mpr ⟨rfl, List.forall_mem_cons.mpr ⟨rfl, fun _ h => absurd h List.not_mem_nil⟩⟩⟩⟩ rfl
theorem D0_31 {h : Hp} {r0 : Nat} : Den 31 [.ref r0] h = Rr 31 0 [.ref r0] [] h := Den_start ⟨Nat.le_of_ble_eq_true rfl, fun _ => List.forall_mem_cons.mpr ⟨rfl, fun _ h => absurd h List.not_mem_nil⟩⟩ rfl
theorem D0_32 {h : Hp} {r0 : Nat} {x1 : Int32} : Den 32 [.ref r0, .int x1] h = Rr 32 0 [.ref r0, .int x1] [] h := Den_start ⟨Nat.le_of_ble_eq_true rfl, fun _ => List.forall_mem_cons.mpr ⟨rfl, List.forall_mem_cons.mpr ⟨rfl, fun _ h => absurd h List.not_mem_nil⟩⟩⟩ rfl
theorem D0_33 {h : Hp} {r0 : Nat} {x1 : Int32} : Den 33 [.ref r0, .int x1] h = Rr 33 0 [.ref r0, .int x1] [] h := Den_start ⟨Nat.le_of_ble_eq_true rfl, fun _ => List.forall_mem_cons.mpr ⟨rfl, List.forall_mem_cons.mpr ⟨rfl, fun _ h => absurd h List.not_mem_nil⟩⟩⟩ rfl
theorem D0_34 {h : Hp} {r0 : Nat} {x1 : Int32} : Den 34 [.ref r0, .int x1] h = Rr 34 0 [.ref r0, .int x1, .retAddr 0] [] h := Den_start ⟨Nat.le_of_ble_eq_true rfl, fun _ => List.forall_mem_cons.mpr ⟨rfl, List.forall_mem_cons.mpr ⟨rfl, fun _ h => absurd h List.not_mem_nil⟩⟩⟩ rfl
theorem D0_35 {h : Hp} {x0 : Int32} {x1 : Int32} {x2 : Int32} : Den 35 [.int x0, .int x1, .int x2] h = Rr 35 0 [.int x0, .int x1, .int x2] [] h := Den_start ⟨Nat.le_of_ble_eq_true rfl, fun _ => List.forall_mem_cons.mpr ⟨rfl, List.forall_mem_cons.mpr ⟨rfl, List.forall_mem_cons.mpr ⟨rfl, fun _ h => absurd h List.not_mem_nil⟩⟩⟩⟩ rfl
theorem D0_36 {h : Hp} {r0 : Nat} {r1 : Nat} : Den 36 [.ref r0, .ref r1] h = Rr 36 0 [.ref r0, .ref r1, .retAddr 0] [] h := Den_start ⟨Nat.le_of_ble_eq_true rfl, fun _ => List.forall_mem_cons.mpr ⟨rfl, List.forall_mem_cons.mpr ⟨rfl, fun _ h => absurd h List.not_mem_nil⟩⟩⟩ rfl
theorem D0_37 {h : Hp} {r0 : Nat} {x1 : Int32} : Den 37 [.ref r0, .int x1] h = Rr 37 0 [.ref r0, .int x1] [] h := Den_start ⟨Nat.le_of_ble_eq_true rfl, fun _ => List.forall_mem_cons.mpr ⟨rfl, List.forall_mem_cons.mpr ⟨rfl, fun _ h => absurd h List.not_mem_nil⟩⟩⟩ rfl
theorem D0_38 {h : Hp} {r0 : Nat} {x1 : Int32} : Den 38 [.ref r0, .int x1] h = Rr 38 0 [.ref r0, .int x1] [] h := Den_start ⟨Nat.le_of_ble_eq_true rfl, fun _ => List.forall_mem_cons.mpr ⟨rfl, List.forall_mem_cons.mpr ⟨rfl, fun _ h => absurd h List.not_mem_nil⟩⟩⟩ rfl
theorem D0_39 {h : Hp} {r0 : Nat} {x1 : Int32} {x2 : Int32} : Den 39 [.ref r0, .int x1, .int x2] h = Rr 39 0 [.ref r0, .int x1, .int x2] [] h := Den_start ⟨Nat.le_of_ble_eq_true rfl, fun _ => List.forall_mem_cons.mpr ⟨rfl, List.forall_mem_cons.mpr ⟨rfl, List.forall_mem_cons.mpr ⟨rfl, fun _ h => absurd h List.not_mem_nil⟩⟩⟩⟩ rfl
theorem D0_40 {h : Hp} {r0 : Nat} {x1 : Int32} : Den 40 [.ref r0, .int x1] h = Rr 40 0 [.ref r0, .int x1] [] h := Den_start ⟨Nat.le_of_ble_eq_true rfl, fun _ => List.forall_mem_cons.mpr ⟨rfl, List.forall_mem_cons.mpr ⟨rfl, fun _ h => absurd h List.not_mem_nil⟩⟩⟩ rfl
theorem D0_41 {h : Hp} {r0 : Nat} {x1 : Int32} : Den 41 [.ref r0, .int x1] h = Rr 41 0 [.ref r0, .int x1] [] h := Den_start ⟨Nat.le_of_ble_eq_true rfl, fun _ => List.forall_mem_cons.mpr ⟨rfl, List.forall_mem_cons.mpr ⟨rfl, fun _ h => absurd h List.not_mem_nil⟩⟩⟩ rfl
theorem D0_42 {h : Hp} {r0 : Nat} {x1 : Int32} {x2 : Int32} : Den 42 [.ref r0, .int x1, .int x2] h = Rr 42 0 [.ref r0, .int x1, .int x2] [] h := Den_start ⟨Nat.le_of_ble_eq_true rfl, fun _ => List.forall_mem_cons.mpr ⟨rfl, List.forall_mem_cons.mpr ⟨rfl, List.forall_mem_cons.mpr ⟨rfl, fun _ h => absurd h List.not_mem_nil⟩⟩⟩⟩ rfl
theorem D0_43 {h : Hp} {r0 : Nat} {x1 : Int32} : Den 43 [.ref r0, .int x1] h = Rr 43 0 [.ref r0, .int x1] [] h := Den_start ⟨Nat.le_of_ble_eq_true rfl, fun _ => List.forall_mem_cons.mpr ⟨rfl, List.forall_mem_cons.mpr ⟨rfl, fun _ h => absurd h List.not_mem_nil⟩⟩⟩ rfl
theorem D0_44 {h : Hp} {r0 : Nat} {x1 : Int32} {x2 : Int32} {x3 : Int32} {x4 : Int32} {x5 : Int32} : Den 44 [.ref r0, .int x1, .int x2, .int x3, .int x4, .int x5] h = Rr 44 0 [.ref r0, .int x1, .int x2, .int x3, .int x4, .int x5, .retAddr 0] [] h := Den_start ⟨Nat.le_of_ble_eq_true rfl, fun _ => List.forall_mem_cons.mpr ⟨rfl, List.forall_mem_cons.mpr ⟨rfl, List.forall_mem_cons.mpr ⟨rfl, List.forall_mem_cons.mpr ⟨rfl, List.forall_mem_cons.mpr ⟨rfl, List.forall_mem_cons.mpr ⟨rfl, fun _ h => absurd h List.not_mem_nil⟩⟩⟩⟩⟩⟩⟩ rfl
theorem D0_45 {h : Hp} {r0 : Nat} {x1 : Int32} {x2 : Int32} {x3 : Int32} : Den 45 [.ref r0, .int x1, .int x2, .int x3] h = Rr 45 0 [.ref r0, .int x1, .int x2, .int x3] [] h := Den_start ⟨Nat.le_of_ble_eq_true rfl, fun _ => List.forall_mem_cons.mpr ⟨rfl, List.forall_mem_cons.mpr ⟨rfl, List.forall_mem_cons.mpr ⟨rfl, List.forall_mem_cons.mpr ⟨rfl, fun _ h => absurd h List.not_mem_nil⟩⟩⟩⟩⟩ rfl
theorem D0_46 {h : Hp} {r0 : Nat} : Den 46 [.ref r0] h = Rr 46 0 [.ref r0] [] h := Den_start ⟨Nat.le_of_ble_eq_true rfl, fun _ => List.forall_mem_cons.mpr ⟨rfl, fun _ h => absurd h List.not_mem_nil⟩⟩ rfl
theorem D0_47 {h : Hp} {r0 : Nat} : Den 47 [.ref r0] h = Rr 47 0 [.ref r0, .retAddr 0] [] h := Den_start ⟨Nat.le_of_ble_eq_true rfl, fun _ => List.forall_mem_cons.mpr ⟨rfl, fun _ h => absurd h List.not_mem_nil⟩⟩ rfl
theorem D0_48 {h : Hp} {r0 : Nat} : Den 48 [.ref r0] h = Rr 48 0 [.ref r0, .retAddr 0, .retAddr 0] [] h := Den_start ⟨Nat.le_of_ble_eq_true rfl, fun _ => List.forall_mem_cons.mpr ⟨rfl, fun _ h => absurd h List.not_mem_nil⟩⟩ rfl
theorem D0_49 {h : Hp} {r0 : Nat} {x1 : Int32} : Den 49 [.ref r0, .int x1] h = Rr 49 0 [.ref r0, .int x1, .retAddr 0] [] h := Den_start ⟨Nat.le_of_ble_eq_true rfl, fun _ => List.forall_mem_cons.mpr ⟨rfl, List.forall_mem_cons.mpr ⟨rfl, fun _ h => absurd h List.not_mem_nil⟩⟩⟩ rfl
theorem D0_50 {h : Hp} {r0 : Nat} {r1 : Nat} : Den 50 [.ref r0, .ref r1] h = Rr 50 0 [.ref r0, .ref r1] [] h := Den_start ⟨Nat.le_of_ble_eq_true rfl, fun _ => List.forall_mem_cons.mpr ⟨rfl, List.forall_mem_cons.mpr ⟨rfl, fun _ h => absurd h List.not_mem_nil⟩⟩⟩ rfl
theorem D0_51 {h : Hp} {r0 : Nat} : Den 51 [.ref r0] h = Rr 51 0 [.ref r0] [] h := Den_start ⟨Nat.le_of_ble_eq_true rfl, fun _ => List.forall_mem_cons.mpr ⟨rfl, fun _ h => absurd h List.not_mem_nil⟩⟩ rfl
theorem D0_52 {h : Hp} {r0 : Nat} {x1 : Int32} {r2 : Nat} : Den 52 [.ref r0, .int x1, .ref r2] h = Rr 52 0 [.ref r0, .int x1, .ref r2] [] h := Den_start ⟨Nat.le_of_ble_eq_true rfl, fun _ => List.forall_mem_cons.mpr ⟨rfl, List.forall_mem_cons.mpr ⟨rfl, List.forall_mem_cons.mpr ⟨rfl, fun _ h => absurd h List.not_mem_nil⟩⟩⟩⟩ rfl
theorem D0_53 {h : Hp} {r0 : Nat} : Den 53 [.ref r0] h = Rr 53 0 [.ref r0] [] h := Den_start ⟨Nat.le_of_ble_eq_true rfl, fun _ => List.forall_mem_cons.mpr ⟨rfl, fun _ h => absurd h List.not_mem_nil⟩⟩ rfl
theorem D0_54 {h : Hp} {r0 : Nat} {x1 : Int32} {r2 : Nat} : Den 54 [.ref r0, .int x1, .ref r2] h = Rr 54 0 [.ref r0, .int x1, .ref r2] [] h := Den_start ⟨Nat.le_of_ble_eq_true rfl, fun _ => List.forall_mem_cons.mpr ⟨rfl, List.forall_mem_cons.mpr ⟨rfl, List.forall_mem_cons.mpr ⟨rfl, fun _ h => absurd h List.not_mem_nil⟩⟩⟩⟩ rfl
theorem D0_55 {h : Hp} {r0 : Nat} {x1 : Int32} : Den 55 [.ref r0, .int x1] h = Rr 55 0 [.ref r0, .int x1] [] h := Den_start ⟨Nat.le_of_ble_eq_true rfl, fun _ => List.forall_mem_cons.mpr ⟨rfl, List.forall_mem_cons.mpr ⟨rfl, fun _ h => absurd h List.not_mem_nil⟩⟩⟩ rfl
theorem D0_56 {h : Hp} {r0 : Nat} {x1 : Int32} {r2 : Nat} {x3 : Int32} : Den 56 [.ref r0, .int x1, .ref r2, .int x3] h = Rr 56 0 [.ref r0, .int x1, .ref r2, .int x3] [] h := Den_start ⟨Nat.le_of_ble_eq_true rfl, fun _ => List.forall_mem_cons.mpr ⟨rfl, List.forall_mem_cons.mpr ⟨rfl, List.forall_mem_cons.mpr ⟨rfl, List.forall_mem_cons.mpr ⟨rfl, fun _ h => absurd h List.not_mem_nil⟩⟩⟩⟩⟩ rfl
theorem D0_57 {h : Hp} {r0 : Nat} {x1 : Int32} : Den 57 [.ref r0, .int x1] h = Rr 57 0 [.ref r0, .int x1] [] h := Den_start ⟨Nat.le_of_ble_eq_true rfl, fun _ => List.forall_mem_cons.mpr ⟨rfl, List.forall_mem_cons.mpr ⟨rfl, fun _ h => absurd h List.not_mem_nil⟩⟩⟩ rfl
theorem D0_58 {h : Hp} {r0 : Nat} {x1 : Int32} {x2 : Int32} : Den 58 [.ref r0, .int x1, .int x2] h = Rr 58 0 [.ref r0, .int x1, .int x2, .retAddr 0] [] h := Den_start ⟨Nat.le_of_ble_eq_true rfl, fun _ => List.forall_mem_cons.mpr ⟨rfl, List.forall_mem_cons.mpr ⟨rfl, List.forall_mem_cons.mpr ⟨rfl, fun _ h => absurd h List.not_mem_nil⟩⟩⟩⟩ rfl
theorem D0_59 {h : Hp} {r0 : Nat} {x1 : Int32} : Den 59 [.ref r0, .int x1] h = Rr 59 0 [.ref r0, .int x1] [] h := Den_start ⟨Nat.le_of_ble_eq_true rfl, fun _ => List.forall_mem_cons.mpr ⟨rfl, List.forall_mem_cons.mpr ⟨rfl, fun _ h => absurd h List.not_mem_nil⟩⟩⟩ rfl
theorem D0_60 {h : Hp} {r0 : Nat} {x1 : Int32} {x2 : Int32} : Den 60 [.ref r0, .int x1, .int x2] h = Rr 60 0 [.ref r0, .int x1, .int x2] [] h := Den_start ⟨Nat.le_of_ble_eq_true rfl, fun _ => List.forall_mem_cons.mpr ⟨rfl, List.forall_mem_cons.mpr ⟨rfl, List.forall_mem_cons.mpr ⟨rfl, fun _ h => absurd h List.not_mem_nil⟩⟩⟩⟩ rfl
theorem D0_61 {h : Hp} {x0 : Int32} {x1 : Int32} {x2 : Int32} : Den 61 [.int x0, .int x1, .int x2] h = Rr 61 0 [.int x0, .int x1, .int x2, .retAddr 0] [] h := Den_start ⟨Nat.le_of_ble_eq_true rfl, fun _ => List.forall_mem_cons.mpr ⟨rfl, List.forall_mem_cons.mpr ⟨rfl, List.forall_mem_cons.mpr ⟨rfl, fun _ h => absurd h List.not_mem_nil⟩⟩⟩⟩ rfl
theorem D0_62 {h : Hp} {r0 : Nat} {x1 : Int32} : Den 62 [.ref r0, .int x1] h = Rr 62 0 [.ref r0, .int x1] [] h := Den_start ⟨Nat.le_of_ble_eq_true rfl, fun _ => List.forall_mem_cons.mpr ⟨rfl, List.forall_mem_cons.mpr ⟨rfl, fun _ h => absurd h List.not_mem_nil⟩⟩⟩ rfl
theorem D0_63 {h : Hp} {r0 : Nat} : Den 63 [.ref r0] h = Rr 63 0 [.ref r0] [] h := Den_start ⟨Nat.le_of_ble_eq_true rfl, fun _ => List.forall_mem_cons.mpr ⟨rfl, fun _ h => absurd h List.not_mem_nil⟩⟩ rfl
theorem D0_64 {h : Hp} {r0 : Nat} {x1 : Int32} {x2 : Int32} : Den 64 [.ref r0, .int x1, .int x2] h = Rr 64 0 [.ref r0, .int x1, .int x2] [] h := Den_start ⟨Nat.le_of_ble_eq_true rfl, fun _ => List.forall_mem_cons.mpr ⟨rfl, List.forall_mem_cons.mpr ⟨rfl, List.forall_mem_cons.mpr ⟨rfl, fun _ h => absurd h List.not_mem_nil⟩⟩⟩⟩ rfl
theorem D0_65 {h : Hp} {r0 : Nat} : Den 65 [.ref r0] h = Rr 65 0 [.ref r0] [] h := Den_start ⟨Nat.le_of_ble_eq_true rfl, fun _ => List.forall_mem_cons.mpr ⟨rfl, fun _ h => absurd h List.not_mem_nil⟩⟩ rfl
theorem D0_66 {h : Hp} {r0 : Nat} {x1 : Int32} : Den 66 [.ref r0, .int x1] h = Rr 66 0 [.ref r0, .int x1] [] h := Den_start ⟨Nat.le_of_ble_eq_true rfl, fun _ => List.forall_mem_cons.mpr ⟨rfl, List.forall_mem_cons.mpr ⟨rfl, fun _ h => absurd h List.not_mem_nil⟩⟩⟩ rfl
theorem D0_67 {h : Hp} {r0 : Nat} {x1 : Int32} : Den 67 [.ref r0, .int x1] h = Rr 67 0 [.ref r0, .int x1] [] h := Den_start ⟨Nat.le_of_ble_eq_true rfl, fun _ => List.forall_mem_cons.mpr ⟨rfl, List.forall_mem_cons.mpr ⟨rfl, fun _ h => absurd h List.not_mem_nil⟩⟩⟩ rfl
theorem D0_68 {h : Hp} {r0 : Nat} {x1 : Int32} {x2 : Int32} {x3 : Int32} : Den 68 [.ref r0, .int x1, .int x2, .int x3] h = Rr 68 0 [.ref r0, .int x1, .int x2, .int x3] [] h := Den_start ⟨Nat.le_of_ble_eq_true rfl, fun _ => List.forall_mem_cons.mpr ⟨rfl, List.forall_mem_cons.mpr ⟨rfl, List.forall_mem_cons.mpr ⟨rfl, List.forall_mem_cons.mpr ⟨rfl, fun _ h => absurd h List.not_mem_nil⟩⟩⟩⟩⟩ rfl
theorem D0_69 {h : Hp} {r0 : Nat} {x1 : Int32} {x2 : Int32} {x3 : Int32} : Den 69 [.ref r0, .int x1, .int x2, .int x3] h = Rr 69 0 [.ref r0, .int x1, .int x2, .int x3] [] h := Den_start ⟨Nat.le_of_ble_eq_true rfl, fun _ => List.forall_mem_cons.mpr ⟨rfl, List.forall_mem_cons.mpr ⟨rfl, List.forall_mem_cons.mpr ⟨rfl, List.forall_mem_cons.mpr ⟨rfl, fun _ h => absurd h List.not_mem_nil⟩⟩⟩⟩⟩ rfl
theorem D0_70 {h : Hp} {r0 : Nat} {x1 : Int32} {x2 : Int32} {x3 : Int32} {x4 : Int32} {x5 : Int32} : Den 70 [.ref r0, .int x1, .int x2, .int x3, .int x4, .int x5] h = Rr 70 0 [.ref r0, .int x1, .int x2, .int x3, .int x4, .int x5] [] h := Den_start ⟨Nat.le_of_ble_eq_true rfl, fun _ => List.forall_mem_cons.mpr ⟨rfl, List.forall_mem_cons.mpr ⟨rfl, List.forall_mem_cons.mpr ⟨rfl, List.forall_mem_cons.mpr ⟨rfl, List.forall_mem_cons.mpr ⟨rfl, List.forall_mem_cons.mpr ⟨rfl, fun _ h => absurd h List.not_mem_nil⟩⟩⟩⟩⟩⟩⟩ rfl
theorem D0_71 {h : Hp} {r0 : Nat} : Den 71 [.ref r0] h = Rr 71 0 [.ref r0] [] h := Den_start ⟨Nat.le_of_ble_eq_true rfl, fun _ => List.forall_mem_cons.mpr ⟨rfl, fun _ h => absurd h List.not_mem_nil⟩⟩ rfl
theorem D0_72 {h : Hp} {r0 : Nat} {x1 : Int32} {x2 : Int32} : Den 72 [.ref r0, .int x1, .int x2] h = Rr 72 0 [.ref r0, .int x1, .int x2, .retAddr 0, .retAddr 0] [] h := Den_start ⟨Nat.le_of_ble_eq_true rfl, fun _ => List.forall_mem_cons.mpr ⟨rfl, List.forall_mem_cons.mpr ⟨rfl, List.forall_mem_cons.mpr ⟨rfl, fun _ h => absurd h List.not_mem_nil⟩⟩⟩⟩ rfl
theorem D0_73 {h : Hp} {r0 : Nat} : Den 73 [.ref r0] h = Rr 73 0 [.ref r0] [] h := Den_start ⟨Nat.le_of_ble_eq_true rfl, fun _ => List.forall_mem_cons.mpr ⟨rfl, fun _ h => absurd h List.not_mem_nil⟩⟩ rfl
theorem D0_74 {h : Hp} {r0 : Nat} {r1 : Nat} : Den 74 [.ref r0, .ref r1] h = Rr 74 0 [.ref r0, .ref r1] [] h := Den_start ⟨Nat.le_of_ble_eq_true rfl, fun _ => List.forall_mem_cons.mpr ⟨rfl, List.forall_mem_cons.mpr ⟨rfl, fun _ h => absurd h List.not_mem_nil⟩⟩⟩ rfl
theorem D0_75 {h : Hp} {r0 : Nat} : Den 75 [.ref r0] h = Rr 75 0 [.ref r0] [] h := Den_start ⟨Nat.le_of_ble_eq_true rfl, fun _ => List.forall_mem_cons.mpr ⟨rfl, fun _ h => absurd h List.not_mem_nil⟩⟩ rfl
theorem D0_76 {h : Hp} {r0 : Nat} {x1 : Int32} : Den 76 [.ref r0, .int x1] h = Rr 76 0 [.ref r0, .int x1] [] h := Den_start ⟨Nat.le_of_ble_eq_true rfl, fun _ => List.forall_mem_cons.mpr ⟨rfl, List.forall_mem_cons.mpr ⟨rfl, fun _ h => absurd h List.not_mem_nil⟩⟩⟩ rfl
theorem D0_77 {h : Hp} {r0 : Nat} : Den 77 [.ref r0] h = Rr 77 0 [.ref r0, .retAddr 0] [] h := Den_start ⟨Nat.le_of_ble_eq_true rfl, fun _ => List.forall_mem_cons.mpr ⟨rfl, fun _ h => absurd h List.not_mem_nil⟩⟩ rfl
theorem D0_78 {h : Hp} {r0 : Nat} {x1 : Int32} {x2 : Int32} : Den 78 [.ref r0, .int x1, .int x2] h = Rr 78 0 [.ref r0, .int x1, .int x2, .retAddr 0, .retAddr 0] [] h := Den_start ⟨Nat.le_of_ble_eq_true rfl, fun _ => List.forall_mem_cons.mpr ⟨rfl, List.forall_mem_cons.mpr ⟨rfl, List.forall_mem_cons.mpr ⟨rfl, fun _ h => absurd h List.not_mem_nil⟩⟩⟩⟩ rfl
theorem D0_79 {h : Hp} {r0 : Nat} {x1 : Int32} {x2 : Int32} {x3 : Int32} {x4 : Int32} {x5 : Int32} : Den 79 [.ref r0, .int x1, .int x2, .int x3, .int x4, .int x5] h = Rr 79 0 [.ref r0, .int x1, .int x2, .int x3, .int x4, .int x5, .retAddr 0, .retAddr 0] [] h := Den_start ⟨Nat.le_of_ble_eq_true rfl, fun _ => List.forall_mem_cons.mpr ⟨rfl, List.forall_mem_cons.mpr ⟨rfl, List.forall_mem_cons.mpr ⟨rfl, List.forall_mem_cons.mpr ⟨rfl, List.forall_mem_cons.mpr ⟨rfl, List.forall_mem_cons.mpr ⟨rfl, fun _ h => absurd h List.not_mem_nil⟩⟩⟩⟩⟩⟩⟩ rfl
theorem D0_80 {h : Hp} {r0 : Nat} {x1 : Int32} : Den 80 [.ref r0, .int x1] h = Rr 80 0 [.ref r0, .int x1, .retAddr 0, .retAddr 0] [] h := Den_start ⟨Nat.le_of_ble_eq_true rfl, fun _ => List.forall_mem_cons.mpr ⟨rfl, List.forall_mem_cons.mpr ⟨rfl, fun _ h => absurd h List.not_mem_nil⟩⟩⟩ rfl
theorem D0_81 {h : Hp} {r0 : Nat} : Den 81 [.ref r0] h = Rr 81 0 [.ref r0, .retAddr 0] [] h := Den_start ⟨Nat.le_of_ble_eq_true rfl, fun _ => List.forall_mem_cons.mpr ⟨rfl, fun _ h => absurd h List.not_mem_nil⟩⟩ rfl
theorem D0_82 {h : Hp} {r0 : Nat} {x1 : Int32} {x2 : Int32} : Den 82 [.ref r0, .int x1, .int x2] h = Rr 82 0 [.ref r0, .int x1, .int x2, .retAddr 0] [] h := Den_start ⟨Nat.le_of_ble_eq_true rfl, fun _ => List.forall_mem_cons.mpr ⟨rfl, List.forall_mem_cons.mpr ⟨rfl, List.forall_mem_cons.mpr ⟨rfl, fun _ h => absurd h List.not_mem_nil⟩⟩⟩⟩ rfl
theorem D0_83 {h : Hp} {r0 : Nat} : Den 83 [.ref r0] h = Rr 83 0 [.ref r0] [] h := Den_start ⟨Nat.le_of_ble_eq_true rfl, fun _ => List.forall_mem_cons.mpr ⟨rfl, fun _ h => absurd h List.not_mem_nil⟩⟩ rfl
theorem D0_84 {h : Hp} {r0 : Nat} {x1 : Int32} {x2 : Int32} : Den 84 [.ref r0, .int x1, .int x2] h = Rr 84 0 [.ref r0, .int x1, .int x2] [] h := Den_start ⟨Nat.le_of_ble_eq_true rfl, fun _ => List.forall_mem_cons.mpr ⟨rfl, List.forall_mem_cons.mpr ⟨rfl, List.forall_mem_cons.mpr ⟨rfl, fun _ h => absurd h List.not_mem_nil⟩⟩⟩⟩ rfl
theorem D0_85 {h : Hp} {r0 : Nat} {x1 : Int32} : Den 85 [.ref r0, .int x1] h = Rr 85 0 [.ref r0, .int x1] [] h := Den_start ⟨Nat.le_of_ble_eq_true rfl, fun _ => List.forall_mem_cons.mpr ⟨rfl, List.forall_mem_cons.mpr ⟨rfl, fun _ h => absurd h List.not_mem_nil⟩⟩⟩ rfl
theorem D0_86 {h : Hp} {r0 : Nat} {x1 : Int32} : Den 86 [.ref r0, .int x1] h = Rr 86 0 [.ref r0, .int x1] [] h := Den_start ⟨Nat.le_of_ble_eq_true rfl, fun _ => List.forall_mem_cons.mpr ⟨rfl, List.forall_mem_cons.mpr ⟨rfl, fun _ h => absurd h List.not_mem_nil⟩⟩⟩ rfl
theorem D0_87 {h : Hp} {r0 : Nat} {x1 : Int32} : Den 87 [.ref r0, .int x1] h = Rr 87 0 [.ref r0, .int x1, .retAddr 0] [] h := Den_start ⟨Nat.le_of_ble_eq_true rfl, fun _ => List.forall_mem_cons.mpr ⟨rfl, List.forall_mem_cons.mpr ⟨rfl, fun _ h => absurd h List.not_mem_nil⟩⟩⟩ rfl
theorem D0_88 {h : Hp} {r0 : Nat} {x1 : Int32} : Den 88 [.ref r0, .int x1] h = Rr 88 0 [.ref r0, .int x1] [] h := Den_start ⟨Nat.le_of_ble_eq_true rfl, fun _ => List.forall_mem_cons.mpr ⟨rfl, List.forall_mem_cons.mpr ⟨rfl, fun _ h => absurd h List.not_mem_nil⟩⟩⟩ rfl
theorem D0_89 {h : Hp} {r0 : Nat} {x1 : Int32} {x2 : Int32} : Den 89 [.ref r0, .int x1, .int x2] h = Rr 89 0 [.ref r0, .int x1, .int x2] [] h := Den_start ⟨Nat.le_of_ble_eq_true rfl, fun _ => List.forall_mem_cons.mpr ⟨rfl, List.forall_mem_cons.mpr ⟨rfl, List.forall_mem_cons.mpr ⟨rfl, fun _ h => absurd h List.not_mem_nil⟩⟩⟩⟩ rfl
theorem D0_90 {h : Hp} {r0 : Nat} {x1 : Int32} {x2 : Int32} {x3 : Int32} : Den 90 [.ref r0, .int x1, .int x2, .int x3] h = Rr 90 0 [.ref r0, .int x1, .int x2, .int x3, .retAddr 0] [] h := Den_start ⟨Nat.le_of_ble_eq_true rfl, fun _ => List.forall_mem_cons.mpr ⟨rfl, List.forall_mem_cons.mpr ⟨rfl, List.forall_mem_cons.mpr ⟨rfl, List.forall_mem_cons.mpr ⟨rfl, fun _ h => absurd h List.not_mem_nil⟩⟩⟩⟩⟩ rfl
theorem D0_91 {h : Hp} {r0 : Nat} {x1 : Int32} {x2 : Int32} : Den 91 [.ref r0, .int x1, .int x2] h = Rr 91 0 [.ref r0, .int x1, .int x2, .retAddr 0, .retAddr 0, .retAddr 0, .retAddr 0, .retAddr 0, .retAddr 0] [] h := Den_start ⟨Nat.le_of_ble_eq_true rfl, fun _ => List.forall_mem_cons.mpr ⟨rfl, List.forall_mem_cons.mpr ⟨rfl, List.forall_mem_cons.mpr ⟨rfl, fun _ h => absurd h List.not_mem_nil⟩⟩⟩⟩ rfl
theorem D0_92 {h : Hp} {r0 : Nat} {x1 : Int32} : Den 92 [.ref r0, .int x1] h = Rr 92 0 [.ref r0, .int x1] [] h := Den_start ⟨Nat.le_of_ble_eq_true rfl, fun _ => List.forall_mem_cons.mpr ⟨rfl, List.forall_mem_cons.mpr ⟨rfl, fun _ h => absurd h List.not_mem_nil⟩⟩⟩ rfl
theorem D0_93 {h : Hp} {r0 : Nat} {x1 : Int32} : Den 93 [.ref r0, .int x1] h = Rr 93 0 [.ref r0, .int x1] [] h := Den_start ⟨Nat.le_of_ble_eq_true rfl, fun _ => List.forall_mem_cons.mpr ⟨rfl, List.forall_mem_cons.mpr ⟨rfl, fun _ h => absurd h List.not_mem_nil⟩⟩⟩ rfl
theorem D0_94 {h : Hp} {r0 : Nat} {x1 : Int32} {x2 : Int32} : Den 94 [.ref r0, .int x1, .int x2] h = Rr 94 0 [.ref r0, .int x1, .int x2] [] h := Den_start ⟨Nat.le_of_ble_eq_true rfl, fun _ => List.forall_mem_cons.mpr ⟨rfl, List.forall_mem_cons.mpr ⟨rfl, List.forall_mem_cons.mpr ⟨rfl, fun _ h => absurd h List.not_mem_nil⟩⟩⟩⟩ rfl
theorem D0_95 {h : Hp} {r0 : Nat} : Den 95 [.ref r0] h = Rr 95 0 [.ref r0, .retAddr 0] [] h := Den_start ⟨Nat.le_of_ble_eq_true rfl, fun _ => List.forall_mem_cons.mpr ⟨rfl, fun _ h => absurd h List.not_mem_nil⟩⟩ rfl
theorem D0_96 {h : Hp} {r0 : Nat} {x1 : Int32} : Den 96 [.ref r0, .int x1] h = Rr 96 0 [.ref r0, .int x1] [] h := Den_start ⟨Nat.le_of_ble_eq_true rfl, fun _ => List.forall_mem_cons.mpr ⟨rfl, List.forall_mem_cons.mpr ⟨rfl, fun _ h => absurd h List.not_mem_nil⟩⟩⟩ rfl
theorem D0_97 {h : Hp} {r0 : Nat} {x1 : Int32} : Den 97 [.ref r0, .int x1] h = Rr 97 0 [.ref r0, .int x1, .retAddr 0, .retAddr 0] [] h := Den_start ⟨Nat.le_of_ble_eq_true rfl, fun _ => List.forall_mem_cons.mpr ⟨rfl, List.forall_mem_cons.mpr ⟨rfl, fun _ h => absurd h List.not_mem_nil⟩⟩⟩ rfl
theorem D0_98 {h : Hp} {r0 : Nat} {x1 : Int32} : Den 98 [.ref r0, .int x1] h = Rr 98 0 [.ref r0, .int x1, .retAddr 0, .retAddr 0] [] h := Den_start ⟨Nat.le_of_ble_eq_true rfl, fun _ => List.forall_mem_cons.mpr ⟨rfl, List.forall_mem_cons.mpr ⟨rfl, fun _ h => absurd h List.not_mem_nil⟩⟩⟩ rfl
theorem D0_99 {h : Hp} {r0 : Nat} {r1 : Nat} {x2 : Int32} : Den 99 [.ref r0, .ref r1, .int x2] h = Rr 99 0 [.ref r0, .ref r1, .int x2] [] h := Den_start ⟨Nat.le_of_ble_eq_true rfl, fun _ => List.forall_mem_cons.mpr ⟨rfl, List.forall_mem_cons.mpr ⟨rfl, List.forall_mem_cons.mpr ⟨rfl, fun _ h => absurd h List.not_mem_nil⟩⟩⟩⟩ rfl
theorem D0_100 {h : Hp} {r0 : Nat} {x1 : Int32} : Den 100 [.ref r0, .int x1] h = Rr 100 0 [.ref r0, .int x1, .retAddr 0, .retAddr 0] [] h := Den_start ⟨Nat.le_of_ble_eq_true rfl, fun _ => List.forall_mem_cons.mpr ⟨rfl, List.forall_mem_cons.mpr ⟨rfl, fun _ h => absurd h List.not_mem_nil⟩⟩⟩ rfl
theorem D0_101 {h : Hp} {r0 : Nat} {r1 : Nat} {x2 : Int32} {x3 : Int32} : Den 101 [.ref r0, .ref r1, .int x2, .int x3] h = Rr 101 0 [.ref r0, .ref r1, .int x2, .int x3, .retAddr 0] [] h := Den_start ⟨Nat.le_of_ble_eq_true rfl, fun _ => List.forall_mem_cons.mpr ⟨rfl, List.forall_mem_cons.mpr ⟨rfl, List.forall_mem_cons.mpr ⟨rfl, List.forall_mem_cons.mpr ⟨rfl, fun _ h => absurd h List.not_mem_nil⟩⟩⟩⟩⟩ rfl
theorem D0_102 {h : Hp} {r0 : Nat} {x1 : Int32} {x2 : Int32} : Den 102 [.ref r0, .int x1, .int x2] h = Rr 102 0 [.ref r0, .int x1, .int x2] [] h := Den_start ⟨Nat.le_of_ble_eq_true rfl, fun _ => List.forall_mem_cons.mpr ⟨rfl, List.forall_mem_cons.mpr ⟨rfl, List.forall_mem_cons.mpr ⟨rfl, fun _ h => absurd h List.not_mem_nil⟩⟩⟩⟩ rfl
theorem D0_103 {h : Hp} {r0 : Nat} {x1 : Int32} {x2 : Int32} : Den 103 [.ref r0, .int x1, .int x2] h = Rr 103 0 [.ref r0, .int x1, .int x2, .retAddr 0, .retAddr 0, .retAddr 0] [] h := Den_start ⟨Nat.le_of_ble_eq_true rfl, fun _ => List.forall_mem_cons.mpr ⟨rfl, List.forall_mem_cons.mpr ⟨rfl, List.forall_mem_cons.mpr ⟨rfl, fun _ h => absurd h List.not_mem_nil⟩⟩⟩⟩ rfl
theorem D0_104 {h : Hp} {r0 : Nat} {x1 : Int32} {x2 : Int32} {x3 : Int32} : Den 104 [.ref r0, .int x1, .int x2, .int x3] h = Rr 104 0 [.ref r0, .int x1, .int x2, .int x3, .retAddr 0] [] h := Den_start ⟨Nat.le_of_ble_eq_true rfl, fun _ => List.forall_mem_cons.mpr ⟨rfl, List.forall_mem_cons.mpr ⟨rfl, List.forall_mem_cons.mpr ⟨rfl, List.forall_mem_cons.mpr ⟨rfl, fun _ h => absurd h List.not_mem_nil⟩⟩⟩⟩⟩ rfl
theorem D0_105 {h : Hp} {r0 : Nat} {x1 : Int32} {x2 : Int32} : Den 105 [.ref r0, .int x1, .int x2] h = Rr 105 0 [.ref r0, .int x1, .int x2, .retAddr 0, .retAddr 0] [] h := Den_start ⟨Nat.le_of_ble_eq_true rfl, fun _ => List.forall_mem_cons.mpr ⟨rfl, List.forall_mem_cons.mpr ⟨rfl, List.forall_mem_cons.mpr ⟨rfl, fun _ h => absurd h List.not_mem_nil⟩⟩⟩⟩ rfl
theorem D0_106 {h : Hp} {r0 : Nat} {x1 : Int32} {x2 : Int32} : Den 106 [.ref r0, .int x1, .int x2] h = Rr 106 0 [.ref r0, .int x1, .int x2, .retAddr 0] [] h := Den_start ⟨Nat.le_of_ble_eq_true rfl, fun _ => List.forall_mem_cons.mpr ⟨rfl, List.forall_mem_cons.mpr ⟨rfl, List.forall_mem_cons.mpr ⟨rfl, fun _ h => absurd h List.not_mem_nil⟩⟩⟩⟩ rfl
theorem D0_107 {h : Hp} {r0 : Nat} : Den 107 [.ref r0] h = Rr 107 0 [.ref r0] [] h := Den_start ⟨Nat.le_of_ble_eq_true rfl, fun _ => List.forall_mem_cons.mpr ⟨rfl, fun _ h => absurd h List.not_mem_nil⟩⟩ rfl
theorem D0_108 {h : Hp} {r0 : Nat} : Den 108 [.ref r0] h = Rr 108 0 [.ref r0] [] h := Den_start ⟨Nat.le_of_ble_eq_true rfl, fun _ => List.forall_mem_cons.mpr ⟨rfl, fun _ h => absurd h List.not_mem_nil⟩⟩ rfl
theorem D0_109 {h : Hp} {r0 : Nat} : Den 109 [.ref r0] h = Rr 109 0 [.ref r0, .retAddr 0] [] h := Den_start ⟨Nat.le_of_ble_eq_true rfl, fun _ => List.forall_mem_cons.mpr ⟨rfl, fun _ h => absurd h List.not_mem_nil⟩⟩ rfl
theorem D0_110 {h : Hp} {r0 : Nat} : Den 110 [.ref r0] h = Rr 110 0 [.ref r0, .retAddr 0, .retAddr 0] [] h := Den_start ⟨Nat.le_of_ble_eq_true rfl, fun _ => List.forall_mem_cons.mpr ⟨rfl, fun _ h => absurd h List.not_mem_nil⟩⟩ rfl
theorem D0_111 {h : Hp} {r0 : Nat} {x1 : Int32} {x2 : Int32} : Den 111 [.ref r0, .int x1, .int x2] h = Rr 111 0 [.ref r0, .int x1, .int x2, .retAddr 0, .retAddr 0] [] h := Den_start ⟨Nat.le_of_ble_eq_true rfl, fun _ => List.forall_mem_cons.mpr ⟨rfl, List.forall_mem_cons.mpr ⟨rfl, List.forall_mem_cons.mpr ⟨rfl, fun _ h => absurd h List.not_mem_nil⟩⟩⟩⟩ rfl
theorem D0_112 {h : Hp} {r0 : Nat} {x1 : Int32} : Den 112 [.ref r0, .int x1] h = Rr 112 0 [.ref r0, .int x1] [] h := Den_start ⟨Nat.le_of_ble_eq_true rfl, fun _ => List.forall_mem_cons.mpr ⟨rfl, List.forall_mem_cons.mpr ⟨rfl, fun _ h => absurd h List.not_mem_nil⟩⟩⟩ rfl
theorem D0_113 {h : Hp} {r0 : Nat} {x1 : Int32} : Den 113 [.ref r0, .int x1] h = Rr 113 0 [.ref r0, .int x1, .retAddr 0] [] h := Den_start ⟨Nat.le_of_ble_eq_true rfl, fun _ => List.forall_mem_cons.mpr ⟨rfl, List.forall_mem_cons.mpr ⟨rfl, fun _ h => absurd h List.not_mem_nil⟩⟩⟩ rfl
theorem D0_114 {h : Hp} {r0 : Nat} {x1 : Int32} {x2 : Int32} : Den 114 [.ref r0, .int x1, .int x2] h = Rr 114 0 [.ref r0, .int x1, .int x2, .retAddr 0, .retAddr 0, .retAddr 0] [] h := Den_start ⟨Nat.le_of_ble_eq_true rfl, fun _ => List.forall_mem_cons.mpr ⟨rfl, List.forall_mem_cons.mpr ⟨rfl, List.forall_mem_cons.mpr ⟨rfl, fun _ h => absurd h List.not_mem_nil⟩⟩⟩⟩ rfl
theorem D0_115 {h : Hp} {r0 : Nat} {x1 : Int32} {x2 : Int32} : Den 115 [.ref r0, .int x1, .int x2] h = Rr 115 0 [.ref r0, .int x1, .int x2] [] h := Den_start ⟨Nat.le_of_ble_eq_true rfl, fun _ => List.forall_mem_cons.mpr ⟨rfl, List.forall_mem_cons.mpr ⟨rfl, List.forall_mem_cons.mpr ⟨rfl, fun _ h => absurd h List.not_mem_nil⟩⟩⟩⟩ rfl
theorem D0_116 {h : Hp} {r0 : Nat} {x1 : Int32} : Den 116 [.ref r0, .int x1] h = Rr 116 0 [.ref r0, .int x1, .retAddr 0] [] h := Den_start ⟨Nat.le_of_ble_eq_true rfl, fun _ => List.forall_mem_cons.mpr ⟨rfl, List.forall_mem_cons.mpr ⟨rfl, fun _ h => absurd h List.not_mem_nil⟩⟩⟩ rfl
theorem D0_117 {h : Hp} {r0 : Nat} {x1 : Int32} : Den 117 [.ref r0, .int x1] h = Rr 117 0 [.ref r0, .int x1] [] h := Den_start ⟨Nat.le_of_ble_eq_true rfl, fun _ => List.forall_mem_cons.mpr ⟨rfl, List.forall_mem_cons.mpr ⟨rfl, fun _ h => absurd h List.not_mem_nil⟩⟩⟩ rfl
theorem D0_118 {h : Hp} {r0 : Nat} : Den 118 [.ref r0] h = Rr 118 0 [.ref r0] [] h := Den_start ⟨Nat.le_of_ble_eq_true rfl, fun _ => List.forall_mem_cons.mpr ⟨rfl, fun _ h => absurd h List.not_mem_nil⟩⟩ rfl
theorem D0_119 {h : Hp} {r0 : Nat} {x1 : Int32} : Den 119 [.ref r0, .int x1] h = Rr 119 0 [.ref r0, .int x1] [] h := Den_start ⟨Nat.le_of_ble_eq_true rfl, fun _ => List.forall_mem_cons.mpr ⟨rfl, List.forall_mem_cons.mpr ⟨rfl, fun _ h => absurd h List.not_mem_nil⟩⟩⟩ rfl
theorem D0_120 {h : Hp} {r0 : Nat} {x1 : Int32} {x2 : Int32} : Den 120 [.ref r0, .int x1, .int x2] h = Rr 120 0 [.ref r0, .int x1, .int x2] [] h := Den_start ⟨Nat.le_of_ble_eq_true rfl, fun _ => List.forall_mem_cons.mpr ⟨rfl, List.forall_mem_cons.mpr ⟨rfl, List.forall_mem_cons.mpr ⟨rfl, fun _ h => absurd h List.not_mem_nil⟩⟩⟩⟩ rfl
theorem D0_121 {h : Hp} {r0 : Nat} {x1 : Int32} {x2 : Int32} : Den 121 [.ref r0, .int x1, .int x2] h = Rr 121 0 [.ref r0, .int x1, .int x2, .retAddr 0, .retAddr 0] [] h := Den_start ⟨Nat.le_of_ble_eq_true rfl, fun _ => List.forall_mem_cons.mpr ⟨rfl, List.forall_mem_cons.mpr ⟨rfl, List.forall_mem_cons.mpr ⟨rfl, fun _ h => absurd h List.not_mem_nil⟩⟩⟩⟩ rfl
theorem D0_122 {h : Hp} {r0 : Nat} {x1 : Int32} : Den 122 [.ref r0, .int x1] h = Rr 122 0 [.ref r0, .int x1, .retAddr 0, .retAddr 0] [] h := Den_start ⟨Nat.le_of_ble_eq_true rfl, fun _ => List.forall_mem_cons.mpr ⟨rfl, List.forall_mem_cons.mpr ⟨rfl, fun _ h => absurd h List.not_mem_nil⟩⟩⟩ rfl
theorem D0_123 {h : Hp} {r0 : Nat} {x1 : Int32} {x2 : Int32} {x3 : Int32} : Den 123 [.ref r0, .int x1, .int x2, .int x3] h = Rr 123 0 [.ref r0, .int x1, .int x2, .int x3] [] h := Den_start ⟨Nat.le_of_ble_eq_true rfl, fun _ => List.forall_mem_cons.mpr ⟨rfl, List.forall_mem_cons.mpr ⟨rfl, List.forall_mem_cons.mpr ⟨rfl, List.forall_mem_cons.mpr ⟨rfl, fun _ h => absurd h List.not_mem_nil⟩⟩⟩⟩⟩ rfl
theorem D0_124 {h : Hp} {r0 : Nat} : Den 124 [.ref r0] h = Rr 124 0 [.ref r0, .retAddr 0, .retAddr 0] [] h := Den_start ⟨Nat.le_of_ble_eq_true rfl, fun _ => List.forall_mem_cons.mpr ⟨rfl, fun _ h => absurd h List.not_mem_nil⟩⟩ rfl
theorem D0_125 {h : Hp} {r0 : Nat} {x1 : Int32} : Den 125 [.ref r0, .int x1] h = Rr 125 0 [.ref r0, .int x1] [] h := Den_start ⟨Nat.le_of_ble_eq_true rfl, fun _ => List.forall_mem_cons.mpr ⟨rfl, List.forall_mem_cons.mpr ⟨rfl, fun _ h => absurd h List.not_mem_nil⟩⟩⟩ rfl
theorem D0_126 {h : Hp} {r0 : Nat} {x1 : Int32} : Den 126 [.ref r0, .int x1] h = Rr 126 0 [.ref r0, .int x1] [] h := Den_start ⟨Nat.le_of_ble_eq_true rfl, fun _ => List.forall_mem_cons.mpr ⟨rfl, List.forall_mem_cons.mpr ⟨rfl, fun _ h => absurd h List.not_mem_nil⟩⟩⟩ rfl
theorem D0_127 {h : Hp} {r0 : Nat} {x1 : Int32} : Den 127 [.ref r0, .int x1] h = Rr 127 0 [.ref r0, .int x1, .retAddr 0, .retAddr 0] [] h := Den_start ⟨Nat.le_of_ble_eq_true rfl, fun _ => List.forall_mem_cons.mpr ⟨rfl, List.forall_mem_cons.mpr ⟨rfl, fun _ h => absurd h List.not_mem_nil⟩⟩⟩ rfl
theorem D0_128 {h : Hp} {r0 : Nat} : Den 128 [.ref r0] h = Rr 128 0 [.ref r0, .retAddr 0, .retAddr 0] [] h := Den_start ⟨Nat.le_of_ble_eq_true rfl, fun _ => List.forall_mem_cons.mpr ⟨rfl, fun _ h => absurd h List.not_mem_nil⟩⟩ rfl
theorem D0_129 {h : Hp} {r0 : Nat} {r1 : Nat} : Den 129 [.ref r0, .ref r1] h = Rr 129 0 [.ref r0, .ref r1, .retAddr 0, .retAddr 0, .retAddr 0, .retAddr 0] [] h := Den_start ⟨Nat.le_of_ble_eq_true rfl, fun _ => List.forall_mem_cons.mpr ⟨rfl, List.forall_mem_cons.mpr ⟨rfl, fun _ h => absurd h List.not_mem_nil⟩⟩⟩ rfl
theorem D0_130 {h : Hp} {r0 : Nat} {x1 : Int32} {x2 : Int32} : Den 130 [.ref r0, .int x1, .int x2] h = Rr 130 0 [.ref r0, .int x1, .int x2] [] h := Den_start ⟨Nat.le_of_ble_eq_true rfl, fun _ => List.forall_mem_cons.mpr ⟨rfl, List.forall_mem_cons.mpr ⟨rfl, List.forall_mem_cons.mpr ⟨rfl, fun _ h => absurd h List.not_mem_nil⟩⟩⟩⟩ rfl
theorem D0_131 {h : Hp} {r0 : Nat} {x1 : Int32} : Den 131 [.ref r0, .int x1] h = Rr 131 0 [.ref r0, .int x1, .retAddr 0] [] h := Den_start ⟨Nat.le_of_ble_eq_true rfl, fun _ => List.forall_mem_cons.mpr ⟨rfl, List.forall_mem_cons.mpr ⟨rfl, fun _ h => absurd h List.not_mem_nil⟩⟩⟩ rfl
theorem D0_132 {h : Hp} {r0 : Nat} {x1 : Int32} : Den 132 [.ref r0, .int x1] h = Rr 132 0 [.ref r0, .int x1, .retAddr 0, .retAddr 0] [] h := Den_start ⟨Nat.le_of_ble_eq_true rfl, fun _ => List.forall_mem_cons.mpr ⟨rfl, List.forall_mem_cons.mpr ⟨rfl, fun _ h => absurd h List.not_mem_nil⟩⟩⟩ rfl
theorem D0_133 {h : Hp} {r0 : Nat} : Den 133 [.ref r0] h = Rr 133 0 [.ref r0, .retAddr 0, .retAddr 0] [] h := Den_start ⟨Nat.le_of_ble_eq_true rfl, fun _ => List.forall_mem_cons.mpr ⟨rfl, fun _ h => absurd h List.not_mem_nil⟩⟩ rfl
theorem D0_134 {h : Hp} {r0 : Nat} {x1 : Int32} : Den 134 [.ref r0, .int x1] h = Rr 134 0 [.ref r0, .int x1, .retAddr 0, .retAddr 0, .retAddr 0, .retAddr 0] [] h := Den_start ⟨Nat.le_of_ble_eq_true rfl, fun _ => List.forall_mem_cons.mpr ⟨rfl, List.forall_mem_cons.mpr ⟨rfl, fun _ h => absurd h List.not_mem_nil⟩⟩⟩ rfl
theorem D0_135 {h : Hp} {r0 : Nat} {x1 : Int32} {x2 : Int32} : Den 135 [.ref r0, .int x1, .int x2] h = Rr 135 0 [.ref r0, .int x1, .int x2, .retAddr 0, .retAddr 0] [] h := Den_start ⟨Nat.le_of_ble_eq_true rfl, fun _ => List.forall_mem_cons.mpr ⟨rfl, List.forall_mem_cons.mpr ⟨rfl, List.forall_mem_cons.mpr ⟨rfl, fun _ h => absurd h List.not_mem_nil⟩⟩⟩⟩ rfl
theorem D0_136 {h : Hp} {r0 : Nat} : Den 136 [.ref r0] h = Rr 136 0 [.ref r0] [] h := Den_start ⟨Nat.le_of_ble_eq_true rfl, fun _ => List.forall_mem_cons.mpr ⟨rfl, fun _ h => absurd h List.not_mem_nil⟩⟩ rfl
theorem D0_137 {h : Hp} {r0 : Nat} {x1 : Int32} : Den 137 [.ref r0, .int x1] h = Rr 137 0 [.ref r0, .int x1] [] h := Den_start ⟨Nat.le_of_ble_eq_true rfl, fun _ => List.forall_mem_cons.mpr ⟨rfl, List.forall_mem_cons.mpr ⟨rfl, fun _ h => absurd h List.not_mem_nil⟩⟩⟩ rfl
theorem D0_138 {h : Hp} {r0 : Nat} {x1 : Int32} : Den 138 [.ref r0, .int x1] h = Rr 138 0 [.ref r0, .int x1] [] h := Den_start ⟨Nat.le_of_ble_eq_true rfl, fun _ => List.forall_mem_cons.mpr ⟨rfl, List.forall_mem_cons.mpr ⟨rfl, fun _ h => absurd h List.not_mem_nil⟩⟩⟩ rfl
theorem D0_139 {h : Hp} {r0 : Nat} : Den 139 [.ref r0] h = Rr 139 0 [.ref r0] [] h := Den_start ⟨Nat.le_of_ble_eq_true rfl, fun _ => List.forall_mem_cons.mpr ⟨rfl, fun _ h => absurd h List.not_mem_nil⟩⟩ rfl
theorem D0_140 {h : Hp} {r0 : Nat} {x1 : Int32} : Den 140 [.ref r0, .int x1] h = Rr 140 0 [.ref r0, .int x1] [] h := Den_start ⟨Nat.le_of_ble_eq_true rfl, fun _ => List.forall_mem_cons.mpr ⟨rfl, List.forall_mem_cons.mpr ⟨rfl, fun _ h => absurd h List.not_mem_nil⟩⟩⟩ rfl
theorem D0_141 {h : Hp} {r0 : Nat} {x1 : Int32} {x2 : Int32} : Den 141 [.ref r0, .int x1, .int x2] h = Rr 141 0 [.ref r0, .int x1, .int x2] [] h := Den_start ⟨Nat.le_of_ble_eq_true rfl, fun _ => List.forall_mem_cons.mpr ⟨rfl, List.forall_mem_cons.mpr ⟨rfl, List.forall_mem_cons.mpr ⟨rfl, fun _ h => absurd h List.not_mem_nil⟩⟩⟩⟩ rfl
theorem D0_142 {h : Hp} {r0 : Nat} {x1 : Int32} : Den 142 [.ref r0, .int x1] h = Rr 142 0 [.ref r0, .int x1] [] h := Den_start ⟨Nat.le_of_ble_eq_true rfl, fun _ => List.forall_mem_cons.mpr ⟨rfl, List.forall_mem_cons.mpr ⟨rfl, fun _ h => absurd h List.not_mem_nil⟩⟩⟩ rfl
theorem D0_143 {h : Hp} {r0 : Nat} {x1 : Int32} : Den 143 [.ref r0, .int x1] h = Rr 143 0 [.ref r0, .int x1] [] h := Den_start ⟨Nat.le_of_ble_eq_true rfl, fun _ => List.forall_mem_cons.mpr ⟨rfl, List.forall_mem_cons.mpr ⟨rfl, fun _ h => absurd h List.not_mem_nil⟩⟩⟩ rfl
theorem D0_144 {h : Hp} {r0 : Nat} {x1 : Int32} : Den 144 [.ref r0, .int x1] h = Rr 144 0 [.ref r0, .int x1, .retAddr 0, .retAddr 0, .retAddr 0] [] h := Den_start ⟨Nat.le_of_ble_eq_true rfl, fun _ => List.forall_mem_cons.mpr ⟨rfl, List.forall_mem_cons.mpr ⟨rfl, fun _ h => absurd h List.not_mem_nil⟩⟩⟩ rfl
theorem D0_145 {h : Hp} {r0 : Nat} {x1 : Int32} {x2 : Int32} {x3 : Int32} {x4 : Int32} : Den 145 [.ref r0, .int x1, .int x2, .int x3, .int x4] h = Rr 145 0 [.ref r0, .int x1, .int x2, .int x3, .int x4, .retAddr 0, .retAddr 0] [] h := Den_start ⟨Nat.le_of_ble_eq_true rfl, fun _ => List.forall_mem_cons.mpr ⟨rfl, List.forall_mem_cons.mpr ⟨rfl, List.forall_mem_cons.mpr ⟨rfl, List.forall_mem_cons.mpr ⟨rfl, List.forall_mem_cons.mpr ⟨rfl, fun _ h => absurd h List.not_mem_nil⟩⟩⟩⟩⟩⟩ rfl
theorem D0_146 {h : Hp} {r0 : Nat} {x1 : Int32} {x2 : Int32} : Den 146 [.ref r0, .int x1, .int x2] h = Rr 146 0 [.ref r0, .int x1, .int x2] [] h := Den_start ⟨Nat.le_of_ble_eq_true rfl, fun _ => List.forall_mem_cons.mpr ⟨rfl, List.forall_mem_cons.mpr ⟨rfl, List.forall_mem_cons.mpr ⟨rfl, fun _ h => absurd h List.not_mem_nil⟩⟩⟩⟩ rfl
theorem D0_147 {h : Hp} {r0 : Nat} {x1 : Int32} : Den 147 [.ref r0, .int x1] h = Rr 147 0 [.ref r0, .int x1, .retAddr 0] [] h := Den_start ⟨Nat.le_of_ble_eq_true rfl, fun _ => List.forall_mem_cons.mpr ⟨rfl, List.forall_mem_cons.mpr ⟨rfl, fun _ h => absurd h List.not_mem_nil⟩⟩⟩ rfl
theorem D0_148 {h : Hp} {r0 : Nat} {x1 : Int32} : Den 148 [.ref r0, .int x1] h = Rr 148 0 [.ref r0, .int x1, .retAddr 0] [] h := Den_start ⟨Nat.le_of_ble_eq_true rfl, fun _ => List.forall_mem_cons.mpr ⟨rfl, List.forall_mem_cons.mpr ⟨rfl, fun _ h => absurd h List.not_mem_nil⟩⟩⟩ rfl
theorem D0_149 {h : Hp} {r0 : Nat} {r1 : Nat} {x2 : Int32} : Den 149 [.ref r0, .ref r1, .int x2] h = Rr 149 0 [.ref r0, .ref r1, .int x2, .retAddr 0] [] h := Den_start ⟨Nat.le_of_ble_eq_true rfl, fun _ => List.forall_mem_cons.mpr ⟨rfl, List.forall_mem_cons.mpr ⟨rfl, List.forall_mem_cons.mpr ⟨rfl, fun _ h => absurd h List.not_mem_nil⟩⟩⟩⟩ rfl
theorem D0_150 {h : Hp} {r0 : Nat} {x1 : Int32} {x2 : Int32} : Den 150 [.ref r0, .int x1, .int x2] h = Rr 150 0 [.ref r0, .int x1, .int x2, .retAddr 0] [] h := Den_start ⟨Nat.le_of_ble_eq_true rfl, fun _ => List.forall_mem_cons.mpr ⟨rfl, List.forall_mem_cons.mpr ⟨rfl, List.forall_mem_cons.mpr ⟨rfl, fun _ h => absurd h List.not_mem_nil⟩⟩⟩⟩ rfl
theorem D0_151 {h : Hp} {r0 : Nat} {x1 : Int32} {x2 : Int32} : Den 151 [.ref r0, .int x1, .int x2] h = Rr 151 0 [.ref r0, .int x1, .int x2, .retAddr 0] [] h := Den_start ⟨Nat.le_of_ble_eq_true rfl, fun _ => List.forall_mem_cons.mpr ⟨rfl, List.forall_mem_cons.mpr ⟨rfl, List.forall_mem_cons.mpr ⟨rfl, fun _ h => absurd h List.not_mem_nil⟩⟩⟩⟩ rfl
theorem D0_152 {h : Hp} {r0 : Nat} {x1 : Int32} {r2 : Nat} : Den 152 [.ref r0, .int x1, .ref r2] h = Rr 152 0 [.ref r0, .int x1, .ref r2] [] h := Den_start ⟨Nat.le_of_ble_eq_true rfl, fun _ => List.forall_mem_cons.mpr ⟨rfl, List.forall_mem_cons.mpr ⟨rfl, List.forall_mem_cons.mpr ⟨rfl, fun _ h => absurd h List.not_mem_nil⟩⟩⟩⟩ rfl
theorem D0_153 {h : Hp} {r0 : Nat} {x1 : Int32} {x2 : Int32} {x3 : Int32} {x4 : Int32} {x5 : Int32} : Den 153 [.ref r0, .int x1, .int x2, .int x3, .int x4, .int x5] h = Rr 153 0 [.ref r0, .int x1, .int x2, .int x3, .int x4, .int x5] [] h := Den_start ⟨Nat.le_of_ble_eq_true rfl, fun _ => List.forall_mem_cons.mpr ⟨rfl, List.forall_mem_cons.mpr ⟨rfl, List.forall_mem_cons.mpr ⟨rfl, List.forall_mem_cons.mpr ⟨rfl, List.forall_mem_cons.mpr ⟨rfl, List.forall_mem_cons.mpr ⟨rfl, fun _ h => absurd h List.not_mem_nil⟩⟩⟩⟩⟩⟩⟩ rfl
theorem D0_154 {h : Hp} {r0 : Nat} : Den 154 [.ref r0] h = Rr 154 0 [.ref r0, .retAddr 0] [] h := Den_start ⟨Nat.le_of_ble_eq_true rfl, fun _ => List.forall_mem_cons.mpr ⟨rfl, fun _ h => absurd h List.not_mem_nil⟩⟩ rfl
theorem D0_155 {h : Hp} {r0 : Nat} {x1 : Int32} {x2 : Int32} : Den 155 [.ref r0, .int x1, .int x2] h = Rr 155 0 [.ref r0, .int x1, .int x2] [] h := Den_start ⟨Nat.le_of_ble_eq_true rfl, fun _ => List.forall_mem_cons.mpr ⟨rfl, List.forall_mem_cons.mpr ⟨rfl, List.forall_mem_cons.mpr ⟨rfl, fun _ h => absurd h List.not_mem_nil⟩⟩⟩⟩ rfl
theorem D0_156 {h : Hp} {r0 : Nat} {x1 : Int32} : Den 156 [.ref r0, .int x1] h = Rr 156 0 [.ref r0, .int x1] [] h := Den_start ⟨Nat.le_of_ble_eq_true rfl, fun _ => List.forall_mem_cons.mpr ⟨rfl, List.forall_mem_cons.mpr ⟨rfl, fun _ h => absurd h List.not_mem_nil⟩⟩⟩ rfl
theorem D0_157 {h : Hp} {r0 : Nat} {x1 : Int32} {x2 : Int32} : Den 157 [.ref r0, .int x1, .int x2] h = Rr 157 0 [.ref r0, .int x1, .int x2] [] h := Den_start ⟨Nat.le_of_ble_eq_true rfl, fun _ => List.forall_mem_cons.mpr ⟨rfl, List.forall_mem_cons.mpr ⟨rfl, List.forall_mem_cons.mpr ⟨rfl, fun _ h => absurd h List.not_mem_nil⟩⟩⟩⟩ rfl
theorem D0_158 {h : Hp} {r0 : Nat} {x1 : Int32} : Den 158 [.ref r0, .int x1] h = Rr 158 0 [.ref r0, .int x1, .retAddr 0, .retAddr 0, .retAddr 0, .retAddr 0, .retAddr 0, .retAddr 0] [] h := Den_start ⟨Nat.le_of_ble_eq_true rfl, fun _ => List.forall_mem_cons.mpr ⟨rfl, List.forall_mem_cons.mpr ⟨rfl, fun _ h => absurd h List.not_mem_nil⟩⟩⟩ rfl
theorem D0_159 {h : Hp} {r0 : Nat} {x1 : Int32} : Den 159 [.ref r0, .int x1] h = Rr 159 0 [.ref r0, .int x1, .retAddr 0] [] h := Den_start ⟨Nat.le_of_ble_eq_true rfl, fun _ => List.forall_mem_cons.mpr ⟨rfl, List.forall_mem_cons.mpr ⟨rfl, fun _ h => absurd h List.not_mem_nil⟩⟩⟩ rfl
theorem D0_160 {h : Hp} {r0 : Nat} {x1 : Int32} : Den 160 [.ref r0, .int x1] h = Rr 160 0 [.ref r0, .int x1] [] h := Den_start ⟨Nat.le_of_ble_eq_true rfl, fun _ => List.forall_mem_cons.mpr ⟨rfl, List.forall_mem_cons.mpr ⟨rfl, fun _ h => absurd h List.not_mem_nil⟩⟩⟩ rfl
theorem D0_161 {h : Hp} {r0 : Nat} {x1 : Int32} {x2 : Int32} : Den 161 [.ref r0, .int x1, .int x2] h = Rr 161 0 [.ref r0, .int x1, .int x2, .retAddr 0] [] h := Den_start ⟨Nat.le_of_ble_eq_true rfl, fun _ => List.forall_mem_cons.mpr ⟨rfl, List.forall_mem_cons.mpr ⟨rfl, List.forall_mem_cons.mpr ⟨rfl, fun _ h => absurd h List.not_mem_nil⟩⟩⟩⟩ rfl
theorem D0_162 {h : Hp} {r0 : Nat} {r1 : Nat} : Den 162 [.ref r0, .ref r1] h = Rr 162 0 [.ref r0, .ref r1, .retAddr 0] [] h := Den_start ⟨Nat.le_of_ble_eq_true rfl, fun _ => List.forall_mem_cons.mpr ⟨rfl, List.forall_mem_cons.mpr ⟨rfl, fun _ h => absurd h List.not_mem_nil⟩⟩⟩ rfl
theorem D0_163 {h : Hp} {r0 : Nat} {r1 : Nat} {x2 : Int32} : Den 163 [.ref r0, .ref r1, .int x2] h = Rr 163 0 [.ref r0, .ref r1, .int x2, .retAddr 0, .retAddr 0] [] h := Den_start ⟨Nat.le_of_ble_eq_true rfl, fun _ => List.forall_mem_cons.mpr ⟨rfl, List.forall_mem_cons.mpr ⟨rfl, List.forall_mem_cons.mpr ⟨rfl, fun _ h => absurd h List.not_mem_nil⟩⟩⟩⟩ rfl
theorem D0_164 {h : Hp} {r0 : Nat} {r1 : Nat} {x2 : Int32} : Den 164 [.ref r0, .ref r1, .int x2] h = Rr 164 0 [.ref r0, .ref r1, .int x2] [] h := Den_start ⟨Nat.le_of_ble_eq_true rfl, fun _ => List.forall_mem_cons.mpr ⟨rfl, List.forall_mem_cons.mpr ⟨rfl, List.forall_mem_cons.mpr ⟨rfl, fun _ h => absurd h List.not_mem_nil⟩⟩⟩⟩ rfl
theorem D0_165 {h : Hp} {r0 : Nat} {x1 : Int32} : Den 165 [.ref r0, .int x1] h = Rr 165 0 [.ref r0, .int x1, .retAddr 0, .retAddr 0] [] h := Den_start ⟨Nat.le_of_ble_eq_true rfl, fun _ => List.forall_mem_cons.mpr ⟨rfl, List.forall_mem_cons.mpr ⟨rfl, fun _ h => absurd h List.not_mem_nil⟩⟩⟩ rfl
theorem D0_166 {h : Hp} {r0 : Nat} {x1 : Int32} {x2 : Int32} : Den 166 [.ref r0, .int x1, .int x2] h = Rr 166 0 [.ref r0, .int x1, .int x2] [] h := Den_start ⟨Nat.le_of_ble_eq_true rfl, fun _ => List.forall_mem_cons.mpr ⟨rfl, List.forall_mem_cons.mpr ⟨rfl, List.forall_mem_cons.mpr ⟨rfl, fun _ h => absurd h List.not_mem_nil⟩⟩⟩⟩ rfl
theorem D0_167 {h : Hp} {r0 : Nat} : Den 167 [.ref r0] h = Rr 167 0 [.ref r0, .retAddr 0, .retAddr 0] [] h := Den_start ⟨Nat.le_of_ble_eq_true rfl, fun _ => List.forall_mem_cons.mpr ⟨rfl, fun _ h => absurd h List.not_mem_nil⟩⟩ rfl
theorem D0_168 {h : Hp} {r0 : Nat} : Den 168 [.ref r0] h = Rr 168 0 [.ref r0, .retAddr 0, .retAddr 0, .retAddr 0] [] h := Den_start ⟨Nat.le_of_ble_eq_true rfl, fun _ => List.forall_mem_cons.mpr ⟨rfl, fun _ h => absurd h List.not_mem_nil⟩⟩ rfl
theorem D0_169 {h : Hp} {r0 : Nat} {x1 : Int32} {x2 : Int32} : Den 169 [.ref r0, .int x1, .int x2] h = Rr 169 0 [.ref r0, .int x1, .int x2] [] h := Den_start ⟨Nat.le_of_ble_eq_true rfl, fun _ => List.forall_mem_cons.mpr ⟨rfl, List.forall_mem_cons.mpr ⟨rfl, List.forall_mem_cons.mpr ⟨rfl, fun _ h => absurd h List.not_mem_nil⟩⟩⟩⟩ rfl
theorem D0_170 {h : Hp} {r0 : Nat} {x1 : Int32} : Den 170 [.ref r0, .int x1] h = Rr 170 0 [.ref r0, .int x1, .retAddr 0, .retAddr 0, .retAddr 0, .retAddr 0] [] h := Den_start ⟨Nat.le_of_ble_eq_true rfl, fun _ => List.forall_mem_cons.mpr ⟨rfl, List.forall_mem_cons.mpr ⟨rfl, fun _ h => absurd h List.not_mem_nil⟩⟩⟩ rfl
theorem D0_171 {h : Hp} {r0 : Nat} {x1 : Int32} : Den 171 [.ref r0, .int x1] h = Rr 171 0 [.ref r0, .int x1, .retAddr 0] [] h := Den_start ⟨Nat.le_of_ble_eq_true rfl, fun _ => List.forall_mem_cons.mpr ⟨rfl, List.forall_mem_cons.mpr ⟨rfl, fun _ h => absurd h List.not_mem_nil⟩⟩⟩ rfl
theorem D0_172 {h : Hp} {r0 : Nat} {x1 : Int32} {x2 : Int32} : Den 172 [.ref r0, .int x1, .int x2] h = Rr 172 0 [.ref r0, .int x1, .int x2, .retAddr 0, .retAddr 0, .retAddr 0] [] h := Den_start ⟨Nat.le_of_ble_eq_true rfl, fun _ => List.forall_mem_cons.mpr ⟨rfl, List.forall_mem_cons.mpr ⟨rfl, List.forall_mem_cons.mpr ⟨rfl, fun _ h => absurd h List.not_mem_nil⟩⟩⟩⟩ rfl
theorem D0_173 {h : Hp} {r0 : Nat} {x1 : Int32} : Den 173 [.ref r0, .int x1] h = Rr 173 0 [.ref r0, .int x1] [] h := Den_start ⟨Nat.le_of_ble_eq_true rfl, fun _ => List.forall_mem_cons.mpr ⟨rfl, List.forall_mem_cons.mpr ⟨rfl, fun _ h => absurd h List.not_mem_nil⟩⟩⟩ rfl
theorem D0_174 {h : Hp} {r0 : Nat} {x1 : Int32} : Den 174 [.ref r0, .int x1] h = Rr 174 0 [.ref r0, .int x1, .retAddr 0, .retAddr 0] [] h := Den_start ⟨Nat.le_of_ble_eq_true rfl, fun _ => List.forall_mem_cons.mpr ⟨rfl, List.forall_mem_cons.mpr ⟨rfl, fun _ h => absurd h List.not_mem_nil⟩⟩⟩ rfl
theorem D0_175 {h : Hp} {r0 : Nat} {x1 : Int32} : Den 175 [.ref r0, .int x1] h = Rr 175 0 [.ref r0, .int x1, .retAddr 0, .retAddr 0] [] h := Den_start ⟨Nat.le_of_ble_eq_true rfl, fun _ => List.forall_mem_cons.mpr ⟨rfl, List.forall_mem_cons.mpr ⟨rfl, fun _ h => absurd h List.not_mem_nil⟩⟩⟩ rfl
theorem D0_176 {h : Hp} {r0 : Nat} {x1 : Int32} {x2 : Int32} : Den 176 [.ref r0, .int x1, .int x2] h = Rr 176 0 [.ref r0, .int x1, .int x2, .retAddr 0, .retAddr 0, .retAddr 0] [] h := Den_start ⟨Nat.le_of_ble_eq_true rfl, fun _ => List.forall_mem_cons.mpr ⟨rfl, List.forall_mem_cons.mpr ⟨rfl, List.forall_mem_cons.mpr ⟨rfl, fun _ h => absurd h List.not_mem_nil⟩⟩⟩⟩ rfl
theorem D0_177 {h : Hp} {r0 : Nat} {r1 : Nat} : Den 177 [.ref r0, .ref r1] h = Rr 177 0 [.ref r0, .ref r1, .retAddr 0] [] h := Den_start ⟨Nat.le_of_ble_eq_true rfl, fun _ => List.forall_mem_cons.mpr ⟨rfl, List.forall_mem_cons.mpr ⟨rfl, fun _ h => absurd h List.not_mem_nil⟩⟩⟩ rfl
theorem D0_178 {h : Hp} {r0 : Nat} {r1 : Nat} : Den 178 [.ref r0, .ref r1] h = Rr 178 0 [.ref r0, .ref r1, .retAddr 0] [] h := Den_start ⟨Nat.le_of_ble_eq_true rfl, fun _ => List.forall_mem_cons.mpr ⟨rfl, List.forall_mem_cons.mpr ⟨rfl, fun _ h => absurd h List.not_mem_nil⟩⟩⟩ rfl
theorem D0_179 {h : Hp} {r0 : Nat} {r1 : Nat} {r2 : Nat} : Den 179 [.ref r0, .ref r1, .ref r2] h = Rr 179 0 [.ref r0, .ref r1, .ref r2, .retAddr 0, .retAddr 0] [] h := Den_start ⟨Nat.le_of_ble_eq_true rfl, fun _ => List.forall_mem_cons.mpr ⟨rfl, List.forall_mem_cons.mpr ⟨rfl, List.forall_mem_cons.mpr ⟨rfl, fun _ h => absurd h List.not_mem_nil⟩⟩⟩⟩ rfl
theorem D0_180 {h : Hp} {r0 : Nat} {x1 : Int32} {x2 : Int32} : Den 180 [.ref r0, .int x1, .int x2] h = Rr 180 0 [.ref r0, .int x1, .int x2, .retAddr 0] [] h := Den_start ⟨Nat.le_of_ble_eq_true rfl, fun _ => List.forall_mem_cons.mpr ⟨rfl, List.forall_mem_cons.mpr ⟨rfl, List.forall_mem_cons.mpr ⟨rfl, fun _ h => absurd h List.not_mem_nil⟩⟩⟩⟩ rfl
theorem D0_181 {h : Hp} {r0 : Nat} {x1 : Int32} : Den 181 [.ref r0, .int x1] h = Rr 181 0 [.ref r0, .int x1, .retAddr 0] [] h := Den_start ⟨Nat.le_of_ble_eq_true rfl, fun _ => List.forall_mem_cons.mpr ⟨rfl, List.forall_mem_cons.mpr ⟨rfl, fun _ h => absurd h List.not_mem_nil⟩⟩⟩ rfl
theorem D0_182 {h : Hp} {r0 : Nat} {x1 : Int32} {x2 : Int32} : Den 182 [.ref r0, .int x1, .int x2] h = Rr 182 0 [.ref r0, .int x1, .int x2] [] h := Den_start ⟨Nat.le_of_ble_eq_true rfl, fun _ => List.forall_mem_cons.mpr ⟨rfl, List.forall_mem_cons.mpr ⟨rfl, List.forall_mem_cons.mpr ⟨rfl, fun _ h => absurd h List.not_mem_nil⟩⟩⟩⟩ rfl
theorem D0_183 {h : Hp} {r0 : Nat} {x1 : Int32} : Den 183 [.ref r0, .int x1] h = Rr 183 0 [.ref r0, .int x1, .retAddr 0, .retAddr 0, .retAddr 0] [] h := Den_start ⟨Nat.le_of_ble_eq_true rfl, fun _ => List.forall_mem_cons.mpr ⟨rfl, List.forall_mem_cons.mpr ⟨rfl, fun _ h => absurd h List.not_mem_nil⟩⟩⟩ rfl
theorem D0_184 {h : Hp} {r0 : Nat} {x1 : Int32} {x2 : Int32} : Den 184 [.ref r0, .int x1, .int x2] h = Rr 184 0 [.ref r0, .int x1, .int x2, .retAddr 0] [] h := Den_start ⟨Nat.le_of_ble_eq_true rfl, fun _ => List.forall_mem_cons.mpr ⟨rfl, List.forall_mem_cons.mpr ⟨rfl, List.forall_mem_cons.mpr ⟨rfl, fun _ h => absurd h List.not_mem_nil⟩⟩⟩⟩ rfl
theorem D0_185 {h : Hp} {r0 : Nat} : Den 185 [.ref r0] h = Rr 185 0 [.ref r0, .retAddr 0] [] h := Den_start ⟨Nat.le_of_ble_eq_true rfl, fun _ => List.forall_mem_cons.mpr ⟨rfl, fun _ h => absurd h List.not_mem_nil⟩⟩ rfl
theorem D0_186 {h : Hp} {r0 : Nat} {x1 : Int32} : Den 186 [.ref r0, .int x1] h = Rr 186 0 [.ref r0, .int x1] [] h := Den_start ⟨Nat.le_of_ble_eq_true rfl, fun _ => List.forall_mem_cons.mpr ⟨rfl, List.forall_mem_cons.mpr ⟨rfl, fun _ h => absurd h List.not_mem_nil⟩⟩⟩ rfl
theorem D0_187 {h : Hp} {r0 : Nat} {x1 : Int32} : Den 187 [.ref r0, .int x1] h = Rr 187 0 [.ref r0, .int x1] [] h := Den_start ⟨Nat.le_of_ble_eq_true rfl, fun _ => List.forall_mem_cons.mpr ⟨rfl, List.forall_mem_cons.mpr ⟨rfl, fun _ h => absurd h List.not_mem_nil⟩⟩⟩ rfl
theorem D0_188 {h : Hp} {r0 : Nat} : Den 188 [.ref r0] h = Rr 188 0 [.ref r0, .retAddr 0, .retAddr 0] [] h := Den_start ⟨Nat.le_of_ble_eq_true rfl, fun _ => List.forall_mem_cons.mpr ⟨rfl, fun _ h => absurd h List.not_mem_nil⟩⟩ rfl
theorem D0_189 {h : Hp} {r0 : Nat} {x1 : Int32} : Den 189 [.ref r0, .int x1] h = Rr 189 0 [.ref r0, .int x1, .retAddr 0] [] h := Den_start ⟨Nat.le_of_ble_eq_true rfl, fun _ => List.forall_mem_cons.mpr ⟨rfl, List.forall_mem_cons.mpr ⟨rfl, fun _ h => absurd h List.not_mem_nil⟩⟩⟩ rfl
theorem D0_190 {h : Hp} {r0 : Nat} : Den 190 [.ref r0] h = Rr 190 0 [.ref r0, .retAddr 0, .retAddr 0] [] h := Den_start ⟨Nat.le_of_ble_eq_true rfl, fun _ => List.forall_mem_cons.mpr ⟨rfl, fun _ h => absurd h List.not_mem_nil⟩⟩ rfl
theorem D0_191 {h : Hp} {r0 : Nat} {x1 : Int32} {x2 : Int32} : Den 191 [.ref r0, .int x1, .int x2] h = Rr 191 0 [.ref r0, .int x1, .int x2, .retAddr 0, .retAddr 0, .retAddr 0] [] h := Den_start ⟨Nat.le_of_ble_eq_true rfl, fun _ => List.forall_mem_cons.mpr ⟨rfl, List.forall_mem_cons.mpr ⟨rfl, List.forall_mem_cons.mpr ⟨rfl, fun _ h => absurd h List.not_mem_nil⟩⟩⟩⟩ rfl
theorem D0_192 {h : Hp} {r0 : Nat} {x1 : Int32} {x2 : Int32} : Den 192 [.ref r0, .int x1, .int x2] h = Rr 192 0 [.ref r0, .int x1, .int x2] [] h := Den_start ⟨Nat.le_of_ble_eq_true rfl, fun _ => List.forall_mem_cons.mpr ⟨rfl, List.forall_mem_cons.mpr ⟨rfl, List.forall_mem_cons.mpr ⟨rfl, fun _ h => absurd h List.not_mem_nil⟩⟩⟩⟩ rfl
theorem D0_193 {h : Hp} {r0 : Nat} : Den 193 [.ref r0] h = Rr 193 0 [.ref r0, .retAddr 0] [] h := Den_start ⟨Nat.le_of_ble_eq_true rfl, fun _ => List.forall_mem_cons.mpr ⟨rfl, fun _ h => absurd h List.not_mem_nil⟩⟩ rfl
theorem D0_194 {h : Hp} {r0 : Nat} {x1 : Int32} : Den 194 [.ref r0, .int x1] h = Rr 194 0 [.ref r0, .int x1, .retAddr 0] [] h := Den_start ⟨Nat.le_of_ble_eq_true rfl, fun _ => List.forall_mem_cons.mpr ⟨rfl, List.forall_mem_cons.mpr ⟨rfl, fun _ h => absurd h List.not_mem_nil⟩⟩⟩ rfl
theorem D0_195 {h : Hp} {r0 : Nat} : Den 195 [.ref r0] h = Rr 195 0 [.ref r0] [] h := Den_start ⟨Nat.le_of_ble_eq_true rfl, fun _ => List.forall_mem_cons.mpr ⟨rfl, fun _ h => absurd h List.not_mem_nil⟩⟩ rfl
theorem D0_196 {h : Hp} {r0 : Nat} {x1 : Int32} : Den 196 [.ref r0, .int x1] h = Rr 196 0 [.ref r0, .int x1] [] h := Den_start ⟨Nat.le_of_ble_eq_true rfl, fun _ => List.forall_mem_cons.mpr ⟨rfl, List.forall_mem_cons.mpr ⟨rfl, fun _ h => absurd h List.not_mem_nil⟩⟩⟩ rfl
theorem D0_197 {h : Hp} {r0 : Nat} {x1 : Int32} : Den 197 [.ref r0, .int x1] h = Rr 197 0 [.ref r0, .int x1, .retAddr 0] [] h := Den_start ⟨Nat.le_of_ble_eq_true rfl, fun _ => List.forall_mem_cons.mpr ⟨rfl, List.forall_mem_cons.mpr ⟨rfl, fun _ h => absurd h List.not_mem_nil⟩⟩⟩ rfl
theorem D0_198 {h : Hp} {r0 : Nat} {x1 : Int32} : Den 198 [.ref r0, .int x1] h = Rr 198 0 [.ref r0, .int x1] [] h := Den_start ⟨Nat.le_of_ble_eq_true rfl, fun _ => List.forall_mem_cons.mpr ⟨rfl, List.forall_mem_cons.mpr ⟨rfl, fun _ h => absurd h List.not_mem_nil⟩⟩⟩ rfl
theorem D0_199 {h : Hp} {r0 : Nat} : Den 199 [.ref r0] h = Rr 199 0 [.ref r0, .retAddr 0, .retAddr 0, .retAddr 0] [] h := Den_start ⟨Nat.le_of_ble_eq_true rfl, fun _ => List.forall_mem_cons.mpr ⟨rfl, fun _ h => absurd h List.not_mem_nil⟩⟩ rfl
end
section
/-! class State: what its methods answer and leave -/
abbrev Row : Type := Nat → Int32
def oP (r : Row) (p k : Nat) : Int32 := r (51 + 19 * p + k)
def oA (r : Row) (a k : Nat) : Int32 := r (16 + 5 * a + k)
def oC (r : Row) (c : Nat) : Int32 := r (7 + c)
def sP (r : Row) (p k : Nat) (v : Int32) : Row := upd r (51 + 19 * p + k) v
def sA (r : Row) (a k : Nat) (v : Int32) : Row := upd r (16 + 5 * a + k) v
def sC (r : Row) (c : Nat) (v : Int32) : Row := upd r (7 + c) v
def b2 (q : Prop) [Decidable q] : Int32 := if q then nI 1 else nI 0
theorem b2_0 {q : Prop} [Decidable q] : (b2 q = 0) = ¬ q := by
  unfold b2
  split <;> simp_all [show ¬ nI 1 = 0 by decide, show nI 0 = 0 by decide]
theorem b2_01 {q : Prop} [Decidable q] : b2 q = 0 ∨ b2 q = 1 := by
  unfold b2
  split
  · exact Or.inr rfl
  · exact Or.inl rfl
theorem one_01 : nI 1 = 0 ∨ nI 1 = 1 := Or.inr rfl
theorem zero_01 : nI 0 = 0 ∨ nI 0 = 1 := Or.inl rfl
theorem ite_ret {q : Prop} [Decidable q] {h : Hp} : (if q then some (some (nI 1), h) else some (some (nI 0), h)) = some (some (b2 q), h) := by
  unfold b2
  split <;> rfl
theorem ite_retN {q : Prop} [Decidable q] {h : Hp} : (if q then some (some (nI 0), h) else some (some (nI 1), h)) = some (some (b2 (¬ q)), h) := by
  unfold b2
  by_cases hq : q <;> simp [hq]
section ST
variable {n : Nat} {S : Nat → Shp} {g : Nat → Nat → Int32} {p q : Nat}
theorem D_get (hs : St n S p q) {i : Nat} (hi : i < 146) : Den 25 [.ref p, .int (nI i)] (Hq n S g) = some (some (g q i), Hq n S g) := by
  have h1 : ¬ nI i < 0 := nI_pos (by omega)
  have h2 : ¬ nI 146 ≤ nI i := nI_ge hi (by omega)
  have h3 : (nI i).toNatClampNeg = i := nI_clamp (by omega)
  have h4 : ¬ 146 ≤ i := by omega
  rw [D0_25]
  simp only [e25_0, e25_1, e25_4, e25_5, e25_6, e25_9, e25_10, e25_13, e25_14, e25_17, e25_18, e25_19, e25_22, e25_23, hs.i, hs.f, hs.a, hs.len, hs.l, h1, h2, h3, h4, or_self, not_false_eq_true, if_false, if_true, Hq_G]
theorem D_put (hs : St n S p q) {i : Nat} (hi : i < 146) {v : Int32} : Den 30 [.ref p, .int (nI i), .int v] (Hq n S g) = some (none, Hq n S (upf g q (upd (g q) i v))) := by
  have h1 : ¬ nI i < 0 := nI_pos (by omega)
  have h2 : ¬ nI 146 ≤ nI i := nI_ge hi (by omega)
  have h3 : (nI i).toNatClampNeg = i := nI_clamp (by omega)
  have h4 : ¬ 146 ≤ i := by omega
  rw [D0_30]
  simp only [e30_0, e30_1, e30_4, e30_5, e30_6, e30_9, e30_10, e30_13, e30_14, e30_17, e30_18, e30_19, e30_20, hs.i, hs.f, hs.b, hs.len, hs.l, h1, h2, h3, h4, or_self, not_false_eq_true, if_false, if_true, Hq_G, Hq_setG]
theorem D_held (hs : St n S p q) {c : Nat} (hi : c < 9) : Den 26 [.ref p, .int (nI c)] (Hq n S g) = some (some (oC (g q) c), Hq n S g) := by
  have h0 : nI 7 + nI c = nI (7 + c) := nI_add 7 c
  have h1 : ¬ nI (7 + c) < 0 := nI_pos (by omega)
  have h2 : ¬ nI 146 ≤ nI (7 + c) := nI_ge (by omega) (by omega)
  have h3 : (nI (7 + c)).toNatClampNeg = 7 + c := nI_clamp (by omega)
  have h4 : ¬ 146 ≤ 7 + c := by omega
  rw [D0_26]
  simp only [e26_0, e26_2, e26_3, e26_4, e26_5, e26_6, e26_9, e26_10, e26_11, e26_14, e26_15, e26_18, e26_19, e26_22, e26_23, e26_24, e26_27, e26_28, hs.i, hs.f, hs.a, hs.len, hs.l, h0, h1, h2, h3, h4, or_self, not_false_eq_true, if_false, if_true, Hq_G]
  rfl
theorem D_hold (hs : St n S p q) {c : Nat} (hi : c < 9) {v : Int32} : Den 64 [.ref p, .int (nI c), .int v] (Hq n S g) = some (none, Hq n S (upf g q (sC (g q) c v))) := by
  have h0 : nI 7 + nI c = nI (7 + c) := nI_add 7 c
  rw [D0_64]
  simp only [e64_0, e64_1, e64_3, e64_4, e64_5, e64_6, e64_9, hs.i, h0, en_30, D_put hs (show 7 + c < 146 by omega), lvH_Hq, Option.bind_some, psh_i, psh_n, Hq_G, Hq_setG, upf_same, upf_upf]
  rfl
theorem ix_P {p k : Nat} : nI 51 + nI p * nI 19 + nI k = nI (51 + 19 * p + k) := by
  rw [pk_mul, nI_add, nI_add, Nat.mul_comm p 19]
theorem ix_A {p k : Nat} : nI 16 + nI p * nI 5 + nI k = nI (16 + 5 * p + k) := by
  rw [pk_mul, nI_add, nI_add, Nat.mul_comm p 5]
theorem D_of (hs : St n S p q) {a k : Nat} (ha : a < 5) (hk : k < 19) : Den 28 [.ref p, .int (nI a), .int (nI k)] (Hq n S g) = some (some (oP (g q) a k), Hq n S g) := by
  have h0 := @ix_P a k
  have h1 : ¬ nI (51 + 19 * a + k) < 0 := nI_pos (by omega)
  have h2 : ¬ nI 146 ≤ nI (51 + 19 * a + k) := nI_ge (by omega) (by omega)
  have h3 : (nI (51 + 19 * a + k)).toNatClampNeg = 51 + 19 * a + k := nI_clamp (by omega)
  have h4 : ¬ 146 ≤ 51 + 19 * a + k := by omega
  rw [D0_28]
  simp only [e28_0, e28_2, e28_3, e28_5, e28_6, e28_7, e28_8, e28_9, e28_10, e28_11, e28_14, e28_15, e28_16, e28_19, e28_20, e28_23, e28_24, e28_27, e28_28, e28_29, e28_32, e28_33, hs.i, hs.f, hs.a, hs.len, hs.l, h0, h1, h2, h3, h4, or_self, not_false_eq_true, if_false, if_true, Hq_G]
  rfl
theorem D_ofAct (hs : St n S p q) {a k : Nat} (ha : a < 7) (hk : k < 5) : Den 29 [.ref p, .int (nI a), .int (nI k)] (Hq n S g) = some (some (oA (g q) a k), Hq n S g) := by
  have h0 := @ix_A a k
  have h1 : ¬ nI (16 + 5 * a + k) < 0 := nI_pos (by omega)
  have h2 : ¬ nI 146 ≤ nI (16 + 5 * a + k) := nI_ge (by omega) (by omega)
  have h3 : (nI (16 + 5 * a + k)).toNatClampNeg = 16 + 5 * a + k := nI_clamp (by omega)
  have h4 : ¬ 146 ≤ 16 + 5 * a + k := by omega
  rw [D0_29]
  simp only [e29_0, e29_2, e29_3, e29_4, e29_5, e29_6, e29_7, e29_8, e29_9, e29_10, e29_13, e29_14, e29_15, e29_18, e29_19, e29_22, e29_23, e29_26, e29_27, e29_28, e29_31, e29_32, hs.i, hs.f, hs.a, hs.len, hs.l, h0, h1, h2, h3, h4, or_self, not_false_eq_true, if_false, if_true, Hq_G]
  rfl
theorem D_set (hs : St n S p q) {a k : Nat} (ha : a < 5) (hk : k < 19) {v : Int32} : Den 68 [.ref p, .int (nI a), .int (nI k), .int v] (Hq n S g) = some (none, Hq n S (upf g q (sP (g q) a k v))) := by
  rw [D0_68]
  simp only [e68_0, e68_1, e68_3, e68_4, e68_6, e68_7, e68_8, e68_9, e68_10, e68_11, e68_14, hs.i, ix_P, en_30, D_put hs (show 51 + 19 * a + k < 146 by omega), lvH_Hq, Option.bind_some, psh_i, psh_n, Hq_G, Hq_setG, upf_same, upf_upf]
  rfl
theorem D_setAct (hs : St n S p q) {a k : Nat} (ha : a < 7) (hk : k < 5) {v : Int32} : Den 69 [.ref p, .int (nI a), .int (nI k), .int v] (Hq n S g) = some (none, Hq n S (upf g q (sA (g q) a k v))) := by
  rw [D0_69]
  simp only [e69_0, e69_1, e69_3, e69_4, e69_5, e69_6, e69_7, e69_8, e69_9, e69_10, e69_13, hs.i, ix_A, en_30, D_put hs (show 16 + 5 * a + k < 146 by omega), lvH_Hq, Option.bind_some, psh_i, psh_n, Hq_G, Hq_setG, upf_same, upf_upf]
  rfl
def shp5 (r : Row) (b po ba rr rd : Int32) : Row := upd (upd (upd (upd (upd r 0 b) 1 po) 2 ba) 3 rr) 4 rd
theorem D_shape (hs : St n S p q) {b po ba rr rd : Int32} : Den 70 [.ref p, .int b, .int po, .int ba, .int rr, .int rd] (Hq n S g) = some (none, Hq n S (upf g q (shp5 (g q) b po ba rr rd))) := by
  rw [D0_70]
  simp only [e70_0, e70_1, e70_2, e70_3, e70_6, e70_7, e70_8, e70_9, e70_12, e70_13, e70_14, e70_15, e70_18, e70_19, e70_20, e70_22, e70_25, e70_26, e70_27, e70_29, e70_32, hs.i, en_30, D_put hs (show 0 < 146 by omega), D_put hs (show 1 < 146 by omega), D_put hs (show 2 < 146 by omega), D_put hs (show 3 < 146 by omega), D_put hs (show 4 < 146 by omega), lvH_Hq, Option.bind_some, psh_i, psh_n, Hq_G, Hq_setG, upf_same, upf_upf]
  rfl
theorem D_isPoor (hs : St n S p q) : Den 65 [.ref p] (Hq n S g) = some (some (b2 (g q 1 = nI 1)), Hq n S g) := by
  rw [D0_65]
  simp only [e65_0, e65_1, e65_2, e65_5, e65_6, e65_9, e65_10, e65_13, e65_14, hs.i, en_25, D_get hs (show 1 < 146 by omega), lvH_Hq, Option.bind_some, psh_i, psh_n, Hq_G, Hq_setG, upf_same, upf_upf, one_01, zero_01, ite_ret, ite_retN, Classical.not_not]
theorem D_writers (hs : St n S p q) : Den 71 [.ref p] (Hq n S g) = some (some (if g q 0 = nI 5 then nI 2 else nI 1), Hq n S g) := by
  rw [D0_71]
  simp only [e71_0, e71_1, e71_2, e71_5, e71_6, e71_9, e71_10, e71_13, e71_14, hs.i, en_25, D_get hs (show 0 < 146 by omega), lvH_Hq, Option.bind_some, psh_i, psh_n, Hq_G, Hq_setG, upf_same, upf_upf]
  split <;> simp_all
theorem D_isWriter (hs : St n S p q) {x : Int32} : Den 67 [.ref p, .int x] (Hq n S g) = some (some (b2 (x < if g q 0 = nI 5 then nI 2 else nI 1)), Hq n S g) := by
  rw [D0_67]
  simp only [e67_0, e67_1, e67_2, e67_3, e67_6, e67_7, e67_10, e67_11, e67_14, e67_15, e67_18, e67_19, e67_22, e67_23, hs.i, en_25, D_get hs (show 0 < 146 by omega), lvH_Hq, Option.bind_some, psh_i, psh_n, Hq_G, Hq_setG, upf_same, upf_upf, one_01, zero_01]
  unfold b2
  repeat' split
  all_goals simp_all
theorem D_processes (hs : St n S p q) : Den 108 [.ref p] (Hq n S g) = some (some ((if g q 0 = nI 5 then nI 2 else nI 1) + g q 4), Hq n S g) := by
  rw [D0_108]
  simp only [e108_0, e108_1, e108_4, e108_5, e108_6, e108_9, e108_10, hs.i, en_25, en_71, D_writers hs, D_get hs (show 4 < 146 by omega), lvH_Hq, Option.bind_some, psh_i, psh_n, Hq_G, Hq_setG, upf_same, upf_upf]
theorem D_cells (hs : St n S p q) : Den 107 [.ref p] (Hq n S g) = some (some (if g q 0 = nI 2 then g q 3 else if g q 0 = nI 4 then g q 4 * g q 4 else if g q 0 = nI 5 then nI 2 else nI 1), Hq n S g) := by
  rw [D0_107]
  simp only [e107_0, e107_1, e107_2, e107_5, e107_36, e107_37, e107_38, e107_41, e107_42, e107_43, e107_44, e107_47, e107_48, e107_49, e107_52, e107_53, e107_54, e107_55, e107_58, e107_59, e107_60, hs.i, en_25, en_71, D_writers hs, D_get hs (show 0 < 146 by omega), D_get hs (show 3 < 146 by omega), D_get hs (show 4 < 146 by omega), lvH_Hq, Option.bind_some, psh_i, psh_n, Hq_G, Hq_setG, upf_same, upf_upf]
  repeat' split
  all_goals simp_all
theorem D_isUnderWay (hs : St n S p q) {a : Nat} (ha : a < 5) : Den 66 [.ref p, .int (nI a)] (Hq n S g) = some (some (b2 (¬ oP (g q) a 0 = -1)), Hq n S g) := by
  rw [D0_66]
  simp only [e66_0, e66_1, e66_2, e66_3, e66_6, e66_7, e66_10, e66_11, e66_14, e66_15, hs.i, en_28, D_of hs ha (show 0 < 19 by omega), lvH_Hq, Option.bind_some, psh_i, psh_n, Hq_G, Hq_setG, upf_same, upf_upf, one_01, zero_01, ite_ret, ite_retN]
theorem D_hasRoom (hs : St n S p q) : Den 63 [.ref p] (Hq n S g) = some (some (b2 (g q 6 < nI 7)), Hq n S g) := by
  rw [D0_63]
  simp only [e63_0, e63_1, e63_3, e63_6, e63_8, e63_11, e63_12, e63_15, e63_16, hs.i, en_25, D_get hs (show 6 < 146 by omega), lvH_Hq, Option.bind_some, psh_i, psh_n, Hq_G, Hq_setG, upf_same, upf_upf, one_01, zero_01, ite_ret, ite_retN]
  unfold b2
  repeat' split
  all_goals simp_all
end ST
end
section
theorem i_vc : Claimed_1_1 ∧ Claimed_1_2 := sorry
end
