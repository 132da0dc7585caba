section
-- ===== PART A: goes FIRST, ahead of the names: the tables' words, and 'selects' of the private methods out of them =====
/-- a private method of a class that the tables say can be made, by its rows of tables_1 -/
def lw_okq (q : MethodName × Nat) : Prop := (q.1.cls ≠ "java/lang/invoke/MethodHandle" ∧ q.1.cls ≠ "java/lang/invoke/VarHandle") ∧ Cond.instantiable q.1.cls q.2 ∈ tables_1 ∧ Cond.privateMethod q.1 ∈ tables_1 ∧ Cond.instanceMethod q.1 ∈ tables_1
theorem lw_p0 : lw_okq (⟨"ShadowTable$History", "slotOf", "(I)I"⟩, 3) := ⟨⟨by decide +kernel, by decide +kernel⟩, List.mem_of_getElem? (i := 124) (by decide +kernel), List.mem_of_getElem? (i := 202) (by decide +kernel), List.mem_of_getElem? (i := 203) (by decide +kernel)⟩
theorem lw_p1 : lw_okq (⟨"ShadowTable$State", "changeRow", "(II)I"⟩, 6) := ⟨⟨by decide +kernel, by decide +kernel⟩, List.mem_of_getElem? (i := 20) (by decide +kernel), List.mem_of_getElem? (i := 241) (by decide +kernel), List.mem_of_getElem? (i := 242) (by decide +kernel)⟩
theorem lw_p2 : lw_okq (⟨"ShadowTable$Log", "slotOf", "(I)I"⟩, 4) := ⟨⟨by decide +kernel, by decide +kernel⟩, List.mem_of_getElem? (i := 48) (by decide +kernel), List.mem_of_getElem? (i := 253) (by decide +kernel), List.mem_of_getElem? (i := 254) (by decide +kernel)⟩
theorem lw_p3 : lw_okq (⟨"ShadowTable$State", "endGivenUp", "()V"⟩, 6) := ⟨⟨by decide +kernel, by decide +kernel⟩, List.mem_of_getElem? (i := 20) (by decide +kernel), List.mem_of_getElem? (i := 257) (by decide +kernel), List.mem_of_getElem? (i := 258) (by decide +kernel)⟩
theorem lw_p4 : lw_okq (⟨"ShadowTable", "recorded", "(I)I"⟩, 6) := ⟨⟨by decide +kernel, by decide +kernel⟩, List.mem_of_getElem? (i := 12) (by decide +kernel), List.mem_of_getElem? (i := 269) (by decide +kernel), List.mem_of_getElem? (i := 270) (by decide +kernel)⟩
theorem lw_p5 : lw_okq (⟨"ShadowTable$State", "makeTick", "()V"⟩, 6) := ⟨⟨by decide +kernel, by decide +kernel⟩, List.mem_of_getElem? (i := 20) (by decide +kernel), List.mem_of_getElem? (i := 329) (by decide +kernel), List.mem_of_getElem? (i := 330) (by decide +kernel)⟩
theorem lw_p6 : lw_okq (⟨"ShadowTable$State", "lockRunsOut", "()Z"⟩, 6) := ⟨⟨by decide +kernel, by decide +kernel⟩, List.mem_of_getElem? (i := 20) (by decide +kernel), List.mem_of_getElem? (i := 333) (by decide +kernel), List.mem_of_getElem? (i := 334) (by decide +kernel)⟩
theorem lw_p7 : lw_okq (⟨"ShadowTable$State", "applyEntries", "()V"⟩, 6) := ⟨⟨by decide +kernel, by decide +kernel⟩, List.mem_of_getElem? (i := 20) (by decide +kernel), List.mem_of_getElem? (i := 337) (by decide +kernel), List.mem_of_getElem? (i := 338) (by decide +kernel)⟩
theorem lw_p8 : lw_okq (⟨"ShadowTable$State", "copyLot", "()V"⟩, 6) := ⟨⟨by decide +kernel, by decide +kernel⟩, List.mem_of_getElem? (i := 20) (by decide +kernel), List.mem_of_getElem? (i := 356) (by decide +kernel), List.mem_of_getElem? (i := 357) (by decide +kernel)⟩
theorem lw_p9 : lw_okq (⟨"ShadowTable$Script", "here", "()I"⟩, 7) := ⟨⟨by decide +kernel, by decide +kernel⟩, List.mem_of_getElem? (i := 144) (by decide +kernel), List.mem_of_getElem? (i := 448) (by decide +kernel), List.mem_of_getElem? (i := 449) (by decide +kernel)⟩
theorem lw_p10 : lw_okq (⟨"ShadowTable$Script", "readFirst", "(II)Z"⟩, 7) := ⟨⟨by decide +kernel, by decide +kernel⟩, List.mem_of_getElem? (i := 144) (by decide +kernel), List.mem_of_getElem? (i := 452) (by decide +kernel), List.mem_of_getElem? (i := 453) (by decide +kernel)⟩
theorem lw_p11 : lw_okq (⟨"ShadowTable$Script", "readNumber", "(II)Z"⟩, 7) := ⟨⟨by decide +kernel, by decide +kernel⟩, List.mem_of_getElem? (i := 144) (by decide +kernel), List.mem_of_getElem? (i := 456) (by decide +kernel), List.mem_of_getElem? (i := 457) (by decide +kernel)⟩
theorem lw_p12 : lw_okq (⟨"ShadowTable$Script", "digitHere", "()I"⟩, 7) := ⟨⟨by decide +kernel, by decide +kernel⟩, List.mem_of_getElem? (i := 144) (by decide +kernel), List.mem_of_getElem? (i := 460) (by decide +kernel), List.mem_of_getElem? (i := 461) (by decide +kernel)⟩
theorem lw_p13 : lw_okq (⟨"ShadowTable$Script", "readSecond", "(II)Z"⟩, 7) := ⟨⟨by decide +kernel, by decide +kernel⟩, List.mem_of_getElem? (i := 144) (by decide +kernel), List.mem_of_getElem? (i := 468) (by decide +kernel), List.mem_of_getElem? (i := 469) (by decide +kernel)⟩
theorem lw_p14 : lw_okq (⟨"ShadowTable", "carryOutOrder", "()I"⟩, 6) := ⟨⟨by decide +kernel, by decide +kernel⟩, List.mem_of_getElem? (i := 12) (by decide +kernel), List.mem_of_getElem? (i := 478) (by decide +kernel), List.mem_of_getElem? (i := 479) (by decide +kernel)⟩
theorem lw_p15 : lw_okq (⟨"ShadowTable$Rows", "sum", "()I"⟩, 1) := ⟨⟨by decide +kernel, by decide +kernel⟩, List.mem_of_getElem? (i := 26) (by decide +kernel), List.mem_of_getElem? (i := 523) (by decide +kernel), List.mem_of_getElem? (i := 524) (by decide +kernel)⟩
def lw_privs_1 : List (MethodName × Nat) := [(⟨"ShadowTable$History", "slotOf", "(I)I"⟩, 3), (⟨"ShadowTable$State", "changeRow", "(II)I"⟩, 6), (⟨"ShadowTable$Log", "slotOf", "(I)I"⟩, 4), (⟨"ShadowTable$State", "endGivenUp", "()V"⟩, 6), (⟨"ShadowTable", "recorded", "(I)I"⟩, 6), (⟨"ShadowTable$State", "makeTick", "()V"⟩, 6), (⟨"ShadowTable$State", "lockRunsOut", "()Z"⟩, 6), (⟨"ShadowTable$State", "applyEntries", "()V"⟩, 6), (⟨"ShadowTable$State", "copyLot", "()V"⟩, 6), (⟨"ShadowTable$Script", "here", "()I"⟩, 7), (⟨"ShadowTable$Script", "readFirst", "(II)Z"⟩, 7), (⟨"ShadowTable$Script", "readNumber", "(II)Z"⟩, 7), (⟨"ShadowTable$Script", "digitHere", "()I"⟩, 7), (⟨"ShadowTable$Script", "readSecond", "(II)Z"⟩, 7), (⟨"ShadowTable", "carryOutOrder", "()I"⟩, 6), (⟨"ShadowTable$Rows", "sum", "()I"⟩, 1)]
theorem lw_r1 : ∀ q ∈ lw_privs_1, lw_okq q := List.forall_mem_cons.mpr ⟨lw_p0, List.forall_mem_cons.mpr ⟨lw_p1, List.forall_mem_cons.mpr ⟨lw_p2, List.forall_mem_cons.mpr ⟨lw_p3, List.forall_mem_cons.mpr ⟨lw_p4, List.forall_mem_cons.mpr ⟨lw_p5, List.forall_mem_cons.mpr ⟨lw_p6, List.forall_mem_cons.mpr ⟨lw_p7, List.forall_mem_cons.mpr ⟨lw_p8, List.forall_mem_cons.mpr ⟨lw_p9, List.forall_mem_cons.mpr ⟨lw_p10, List.forall_mem_cons.mpr ⟨lw_p11, List.forall_mem_cons.mpr ⟨lw_p12, List.forall_mem_cons.mpr ⟨lw_p13, List.forall_mem_cons.mpr ⟨lw_p14, List.forall_mem_cons.mpr ⟨lw_p15, fun _ h => absurd h List.not_mem_nil⟩⟩⟩⟩⟩⟩⟩⟩⟩⟩⟩⟩⟩⟩⟩⟩
theorem lw_p16 : lw_okq (⟨"ShadowTable$Rows", "leastKey", "()I"⟩, 1) := ⟨⟨by decide +kernel, by decide +kernel⟩, List.mem_of_getElem? (i := 26) (by decide +kernel), List.mem_of_getElem? (i := 527) (by decide +kernel), List.mem_of_getElem? (i := 528) (by decide +kernel)⟩
theorem lw_p17 : lw_okq (⟨"ShadowTable$Rows", "greatestKey", "()I"⟩, 1) := ⟨⟨by decide +kernel, by decide +kernel⟩, List.mem_of_getElem? (i := 26) (by decide +kernel), List.mem_of_getElem? (i := 531) (by decide +kernel), List.mem_of_getElem? (i := 532) (by decide +kernel)⟩
theorem lw_p18 : lw_okq (⟨"ShadowTableModel", "putError", "(II)I"⟩, 13) := ⟨⟨by decide +kernel, by decide +kernel⟩, List.mem_of_getElem? (i := 604) (by decide +kernel), List.mem_of_getElem? (i := 654) (by decide +kernel), List.mem_of_getElem? (i := 655) (by decide +kernel)⟩
theorem lw_p19 : lw_okq (⟨"ShadowTableModel", "changeError", "()I"⟩, 13) := ⟨⟨by decide +kernel, by decide +kernel⟩, List.mem_of_getElem? (i := 604) (by decide +kernel), List.mem_of_getElem? (i := 664) (by decide +kernel), List.mem_of_getElem? (i := 665) (by decide +kernel)⟩
theorem lw_p20 : lw_okq (⟨"ShadowTableModel", "isLogFull", "()Z"⟩, 13) := ⟨⟨by decide +kernel, by decide +kernel⟩, List.mem_of_getElem? (i := 604) (by decide +kernel), List.mem_of_getElem? (i := 668) (by decide +kernel), List.mem_of_getElem? (i := 669) (by decide +kernel)⟩
theorem lw_p21 : lw_okq (⟨"ShadowTableModel", "isCopy", "()Z"⟩, 13) := ⟨⟨by decide +kernel, by decide +kernel⟩, List.mem_of_getElem? (i := 604) (by decide +kernel), List.mem_of_getElem? (i := 672) (by decide +kernel), List.mem_of_getElem? (i := 673) (by decide +kernel)⟩
theorem lw_p22 : lw_okq (⟨"ShadowTableModel", "record", "()V"⟩, 13) := ⟨⟨by decide +kernel, by decide +kernel⟩, List.mem_of_getElem? (i := 604) (by decide +kernel), List.mem_of_getElem? (i := 676) (by decide +kernel), List.mem_of_getElem? (i := 677) (by decide +kernel)⟩
theorem lw_p23 : lw_okq (⟨"ShadowTableModel", "doChange", "(II)I"⟩, 13) := ⟨⟨by decide +kernel, by decide +kernel⟩, List.mem_of_getElem? (i := 604) (by decide +kernel), List.mem_of_getElem? (i := 683) (by decide +kernel), List.mem_of_getElem? (i := 684) (by decide +kernel)⟩
theorem lw_p24 : lw_okq (⟨"ShadowTableModel", "row", "(II)I"⟩, 13) := ⟨⟨by decide +kernel, by decide +kernel⟩, List.mem_of_getElem? (i := 604) (by decide +kernel), List.mem_of_getElem? (i := 687) (by decide +kernel), List.mem_of_getElem? (i := 688) (by decide +kernel)⟩
theorem lw_p25 : lw_okq (⟨"ShadowTableModel", "endCopy", "()V"⟩, 13) := ⟨⟨by decide +kernel, by decide +kernel⟩, List.mem_of_getElem? (i := 604) (by decide +kernel), List.mem_of_getElem? (i := 691) (by decide +kernel), List.mem_of_getElem? (i := 692) (by decide +kernel)⟩
theorem lw_p26 : lw_okq (⟨"ShadowTableModel", "lay", "(III)V"⟩, 13) := ⟨⟨by decide +kernel, by decide +kernel⟩, List.mem_of_getElem? (i := 604) (by decide +kernel), List.mem_of_getElem? (i := 695) (by decide +kernel), List.mem_of_getElem? (i := 696) (by decide +kernel)⟩
theorem lw_p27 : lw_okq (⟨"ShadowTableModel", "eraseError", "(I)I"⟩, 13) := ⟨⟨by decide +kernel, by decide +kernel⟩, List.mem_of_getElem? (i := 604) (by decide +kernel), List.mem_of_getElem? (i := 706) (by decide +kernel), List.mem_of_getElem? (i := 707) (by decide +kernel)⟩
theorem lw_p28 : lw_okq (⟨"ShadowTableModel", "doErase", "(I)I"⟩, 13) := ⟨⟨by decide +kernel, by decide +kernel⟩, List.mem_of_getElem? (i := 604) (by decide +kernel), List.mem_of_getElem? (i := 710) (by decide +kernel), List.mem_of_getElem? (i := 711) (by decide +kernel)⟩
theorem lw_p29 : lw_okq (⟨"ShadowTableModel", "beginError", "(II)I"⟩, 13) := ⟨⟨by decide +kernel, by decide +kernel⟩, List.mem_of_getElem? (i := 604) (by decide +kernel), List.mem_of_getElem? (i := 718) (by decide +kernel), List.mem_of_getElem? (i := 719) (by decide +kernel)⟩
theorem lw_p30 : lw_okq (⟨"ShadowTableModel", "doBegin", "(II)I"⟩, 13) := ⟨⟨by decide +kernel, by decide +kernel⟩, List.mem_of_getElem? (i := 604) (by decide +kernel), List.mem_of_getElem? (i := 722) (by decide +kernel), List.mem_of_getElem? (i := 723) (by decide +kernel)⟩
theorem lw_p31 : lw_okq (⟨"ShadowTableModel", "rows", "(I)I"⟩, 13) := ⟨⟨by decide +kernel, by decide +kernel⟩, List.mem_of_getElem? (i := 604) (by decide +kernel), List.mem_of_getElem? (i := 726) (by decide +kernel), List.mem_of_getElem? (i := 727) (by decide +kernel)⟩
def lw_privs_2 : List (MethodName × Nat) := [(⟨"ShadowTable$Rows", "leastKey", "()I"⟩, 1), (⟨"ShadowTable$Rows", "greatestKey", "()I"⟩, 1), (⟨"ShadowTableModel", "putError", "(II)I"⟩, 13), (⟨"ShadowTableModel", "changeError", "()I"⟩, 13), (⟨"ShadowTableModel", "isLogFull", "()Z"⟩, 13), (⟨"ShadowTableModel", "isCopy", "()Z"⟩, 13), (⟨"ShadowTableModel", "record", "()V"⟩, 13), (⟨"ShadowTableModel", "doChange", "(II)I"⟩, 13), (⟨"ShadowTableModel", "row", "(II)I"⟩, 13), (⟨"ShadowTableModel", "endCopy", "()V"⟩, 13), (⟨"ShadowTableModel", "lay", "(III)V"⟩, 13), (⟨"ShadowTableModel", "eraseError", "(I)I"⟩, 13), (⟨"ShadowTableModel", "doErase", "(I)I"⟩, 13), (⟨"ShadowTableModel", "beginError", "(II)I"⟩, 13), (⟨"ShadowTableModel", "doBegin", "(II)I"⟩, 13), (⟨"ShadowTableModel", "rows", "(I)I"⟩, 13)]
theorem lw_r2 : ∀ q ∈ lw_privs_2, lw_okq q := List.forall_mem_cons.mpr ⟨lw_p16, List.forall_mem_cons.mpr ⟨lw_p17, List.forall_mem_cons.mpr ⟨lw_p18, List.forall_mem_cons.mpr ⟨lw_p19, List.forall_mem_cons.mpr ⟨lw_p20, List.forall_mem_cons.mpr ⟨lw_p21, List.forall_mem_cons.mpr ⟨lw_p22, List.forall_mem_cons.mpr ⟨lw_p23, List.forall_mem_cons.mpr ⟨lw_p24, List.forall_mem_cons.mpr ⟨lw_p25, List.forall_mem_cons.mpr ⟨lw_p26, List.forall_mem_cons.mpr ⟨lw_p27, List.forall_mem_cons.mpr ⟨lw_p28, List.forall_mem_cons.mpr ⟨lw_p29, List.forall_mem_cons.mpr ⟨lw_p30, List.forall_mem_cons.mpr ⟨lw_p31, fun _ h => absurd h List.not_mem_nil⟩⟩⟩⟩⟩⟩⟩⟩⟩⟩⟩⟩⟩⟩⟩⟩
theorem lw_p32 : lw_okq (⟨"ShadowTableModel", "doTick", "(I)I"⟩, 13) := ⟨⟨by decide +kernel, by decide +kernel⟩, List.mem_of_getElem? (i := 604) (by decide +kernel), List.mem_of_getElem? (i := 734) (by decide +kernel), List.mem_of_getElem? (i := 735) (by decide +kernel)⟩
theorem lw_p33 : lw_okq (⟨"ShadowTableModel", "tickOnce", "()V"⟩, 13) := ⟨⟨by decide +kernel, by decide +kernel⟩, List.mem_of_getElem? (i := 604) (by decide +kernel), List.mem_of_getElem? (i := 738) (by decide +kernel), List.mem_of_getElem? (i := 739) (by decide +kernel)⟩
theorem lw_p34 : lw_okq (⟨"ShadowTableModel", "apply", "()V"⟩, 13) := ⟨⟨by decide +kernel, by decide +kernel⟩, List.mem_of_getElem? (i := 604) (by decide +kernel), List.mem_of_getElem? (i := 742) (by decide +kernel), List.mem_of_getElem? (i := 743) (by decide +kernel)⟩
theorem lw_p35 : lw_okq (⟨"ShadowTableModel", "copyKeys", "()V"⟩, 13) := ⟨⟨by decide +kernel, by decide +kernel⟩, List.mem_of_getElem? (i := 604) (by decide +kernel), List.mem_of_getElem? (i := 749) (by decide +kernel), List.mem_of_getElem? (i := 750) (by decide +kernel)⟩
theorem lw_p36 : lw_okq (⟨"ShadowTableModel", "due", "(I)I"⟩, 13) := ⟨⟨by decide +kernel, by decide +kernel⟩, List.mem_of_getElem? (i := 604) (by decide +kernel), List.mem_of_getElem? (i := 753) (by decide +kernel), List.mem_of_getElem? (i := 754) (by decide +kernel)⟩
theorem lw_p37 : lw_okq (⟨"ShadowTableModel", "phaseError", "(I)I"⟩, 13) := ⟨⟨by decide +kernel, by decide +kernel⟩, List.mem_of_getElem? (i := 604) (by decide +kernel), List.mem_of_getElem? (i := 761) (by decide +kernel), List.mem_of_getElem? (i := 762) (by decide +kernel)⟩
theorem lw_p38 : lw_okq (⟨"ShadowTableModel", "doLock", "()I"⟩, 13) := ⟨⟨by decide +kernel, by decide +kernel⟩, List.mem_of_getElem? (i := 604) (by decide +kernel), List.mem_of_getElem? (i := 765) (by decide +kernel), List.mem_of_getElem? (i := 766) (by decide +kernel)⟩
theorem lw_p39 : lw_okq (⟨"ShadowTableModel", "doUnlock", "()I"⟩, 13) := ⟨⟨by decide +kernel, by decide +kernel⟩, List.mem_of_getElem? (i := 604) (by decide +kernel), List.mem_of_getElem? (i := 773) (by decide +kernel), List.mem_of_getElem? (i := 774) (by decide +kernel)⟩
theorem lw_p40 : lw_okq (⟨"ShadowTableModel", "swapError", "()I"⟩, 13) := ⟨⟨by decide +kernel, by decide +kernel⟩, List.mem_of_getElem? (i := 604) (by decide +kernel), List.mem_of_getElem? (i := 781) (by decide +kernel), List.mem_of_getElem? (i := 782) (by decide +kernel)⟩
theorem lw_p41 : lw_okq (⟨"ShadowTableModel", "doSwap", "()I"⟩, 13) := ⟨⟨by decide +kernel, by decide +kernel⟩, List.mem_of_getElem? (i := 604) (by decide +kernel), List.mem_of_getElem? (i := 785) (by decide +kernel), List.mem_of_getElem? (i := 786) (by decide +kernel)⟩
theorem lw_p42 : lw_okq (⟨"ShadowTableModel", "doGiveUp", "()I"⟩, 13) := ⟨⟨by decide +kernel, by decide +kernel⟩, List.mem_of_getElem? (i := 604) (by decide +kernel), List.mem_of_getElem? (i := 793) (by decide +kernel), List.mem_of_getElem? (i := 794) (by decide +kernel)⟩
theorem lw_p43 : lw_okq (⟨"ShadowTableModel", "readText", "(Z)Z"⟩, 13) := ⟨⟨by decide +kernel, by decide +kernel⟩, List.mem_of_getElem? (i := 604) (by decide +kernel), List.mem_of_getElem? (i := 816) (by decide +kernel), List.mem_of_getElem? (i := 817) (by decide +kernel)⟩
theorem lw_p44 : lw_okq (⟨"ShadowTableModel", "readOrder", "()Z"⟩, 13) := ⟨⟨by decide +kernel, by decide +kernel⟩, List.mem_of_getElem? (i := 604) (by decide +kernel), List.mem_of_getElem? (i := 820) (by decide +kernel), List.mem_of_getElem? (i := 821) (by decide +kernel)⟩
theorem lw_p45 : lw_okq (⟨"ShadowTableModel", "readNumber", "(II)I"⟩, 13) := ⟨⟨by decide +kernel, by decide +kernel⟩, List.mem_of_getElem? (i := 604) (by decide +kernel), List.mem_of_getElem? (i := 824) (by decide +kernel), List.mem_of_getElem? (i := 825) (by decide +kernel)⟩
theorem lw_p46 : lw_okq (⟨"ShadowTableModel", "isNext", "(II)Z"⟩, 13) := ⟨⟨by decide +kernel, by decide +kernel⟩, List.mem_of_getElem? (i := 604) (by decide +kernel), List.mem_of_getElem? (i := 828) (by decide +kernel), List.mem_of_getElem? (i := 829) (by decide +kernel)⟩
theorem lw_p47 : lw_okq (⟨"ShadowTableModel", "takes", "(I)Z"⟩, 13) := ⟨⟨by decide +kernel, by decide +kernel⟩, List.mem_of_getElem? (i := 604) (by decide +kernel), List.mem_of_getElem? (i := 832) (by decide +kernel), List.mem_of_getElem? (i := 833) (by decide +kernel)⟩
def lw_privs_3 : List (MethodName × Nat) := [(⟨"ShadowTableModel", "doTick", "(I)I"⟩, 13), (⟨"ShadowTableModel", "tickOnce", "()V"⟩, 13), (⟨"ShadowTableModel", "apply", "()V"⟩, 13), (⟨"ShadowTableModel", "copyKeys", "()V"⟩, 13), (⟨"ShadowTableModel", "due", "(I)I"⟩, 13), (⟨"ShadowTableModel", "phaseError", "(I)I"⟩, 13), (⟨"ShadowTableModel", "doLock", "()I"⟩, 13), (⟨"ShadowTableModel", "doUnlock", "()I"⟩, 13), (⟨"ShadowTableModel", "swapError", "()I"⟩, 13), (⟨"ShadowTableModel", "doSwap", "()I"⟩, 13), (⟨"ShadowTableModel", "doGiveUp", "()I"⟩, 13), (⟨"ShadowTableModel", "readText", "(Z)Z"⟩, 13), (⟨"ShadowTableModel", "readOrder", "()Z"⟩, 13), (⟨"ShadowTableModel", "readNumber", "(II)I"⟩, 13), (⟨"ShadowTableModel", "isNext", "(II)Z"⟩, 13), (⟨"ShadowTableModel", "takes", "(I)Z"⟩, 13)]
theorem lw_r3 : ∀ q ∈ lw_privs_3, lw_okq q := List.forall_mem_cons.mpr ⟨lw_p32, List.forall_mem_cons.mpr ⟨lw_p33, List.forall_mem_cons.mpr ⟨lw_p34, List.forall_mem_cons.mpr ⟨lw_p35, List.forall_mem_cons.mpr ⟨lw_p36, List.forall_mem_cons.mpr ⟨lw_p37, List.forall_mem_cons.mpr ⟨lw_p38, List.forall_mem_cons.mpr ⟨lw_p39, List.forall_mem_cons.mpr ⟨lw_p40, List.forall_mem_cons.mpr ⟨lw_p41, List.forall_mem_cons.mpr ⟨lw_p42, List.forall_mem_cons.mpr ⟨lw_p43, List.forall_mem_cons.mpr ⟨lw_p44, List.forall_mem_cons.mpr ⟨lw_p45, List.forall_mem_cons.mpr ⟨lw_p46, List.forall_mem_cons.mpr ⟨lw_p47, fun _ h => absurd h List.not_mem_nil⟩⟩⟩⟩⟩⟩⟩⟩⟩⟩⟩⟩⟩⟩⟩⟩
theorem lw_p48 : lw_okq (⟨"ShadowTableModel", "errorOfOrder", "()I"⟩, 13) := ⟨⟨by decide +kernel, by decide +kernel⟩, List.mem_of_getElem? (i := 604) (by decide +kernel), List.mem_of_getElem? (i := 836) (by decide +kernel), List.mem_of_getElem? (i := 837) (by decide +kernel)⟩
theorem lw_p49 : lw_okq (⟨"ShadowTableModel", "carryOut", "()I"⟩, 13) := ⟨⟨by decide +kernel, by decide +kernel⟩, List.mem_of_getElem? (i := 604) (by decide +kernel), List.mem_of_getElem? (i := 840) (by decide +kernel), List.mem_of_getElem? (i := 841) (by decide +kernel)⟩
theorem lw_p50 : lw_okq (⟨"ShadowTableModel", "isTable", "(I)Z"⟩, 13) := ⟨⟨by decide +kernel, by decide +kernel⟩, List.mem_of_getElem? (i := 604) (by decide +kernel), List.mem_of_getElem? (i := 864) (by decide +kernel), List.mem_of_getElem? (i := 865) (by decide +kernel)⟩
theorem lw_p51 : lw_okq (⟨"ShadowTableModel", "sum", "(I)I"⟩, 13) := ⟨⟨by decide +kernel, by decide +kernel⟩, List.mem_of_getElem? (i := 604) (by decide +kernel), List.mem_of_getElem? (i := 872) (by decide +kernel), List.mem_of_getElem? (i := 873) (by decide +kernel)⟩
theorem lw_p52 : lw_okq (⟨"ShadowTableModel", "endKey", "(IZ)I"⟩, 13) := ⟨⟨by decide +kernel, by decide +kernel⟩, List.mem_of_getElem? (i := 604) (by decide +kernel), List.mem_of_getElem? (i := 876) (by decide +kernel), List.mem_of_getElem? (i := 877) (by decide +kernel)⟩
theorem lw_p53 : lw_okq (⟨"ShadowTableModel", "differing", "(Z)I"⟩, 13) := ⟨⟨by decide +kernel, by decide +kernel⟩, List.mem_of_getElem? (i := 604) (by decide +kernel), List.mem_of_getElem? (i := 896) (by decide +kernel), List.mem_of_getElem? (i := 897) (by decide +kernel)⟩
theorem lw_p54 : lw_okq (⟨"ShadowTableModel", "canAsk", "()Z"⟩, 13) := ⟨⟨by decide +kernel, by decide +kernel⟩, List.mem_of_getElem? (i := 604) (by decide +kernel), List.mem_of_getElem? (i := 920) (by decide +kernel), List.mem_of_getElem? (i := 921) (by decide +kernel)⟩
theorem lw_p55 : lw_okq (⟨"ShadowTableModel", "until", "(II)I"⟩, 13) := ⟨⟨by decide +kernel, by decide +kernel⟩, List.mem_of_getElem? (i := 604) (by decide +kernel), List.mem_of_getElem? (i := 924) (by decide +kernel), List.mem_of_getElem? (i := 925) (by decide +kernel)⟩
theorem lw_p56 : lw_okq (⟨"ShadowTableModel", "isReady", "()Z"⟩, 13) := ⟨⟨by decide +kernel, by decide +kernel⟩, List.mem_of_getElem? (i := 604) (by decide +kernel), List.mem_of_getElem? (i := 928) (by decide +kernel), List.mem_of_getElem? (i := 929) (by decide +kernel)⟩
def lw_privs_4 : List (MethodName × Nat) := [(⟨"ShadowTableModel", "errorOfOrder", "()I"⟩, 13), (⟨"ShadowTableModel", "carryOut", "()I"⟩, 13), (⟨"ShadowTableModel", "isTable", "(I)Z"⟩, 13), (⟨"ShadowTableModel", "sum", "(I)I"⟩, 13), (⟨"ShadowTableModel", "endKey", "(IZ)I"⟩, 13), (⟨"ShadowTableModel", "differing", "(Z)I"⟩, 13), (⟨"ShadowTableModel", "canAsk", "()Z"⟩, 13), (⟨"ShadowTableModel", "until", "(II)I"⟩, 13), (⟨"ShadowTableModel", "isReady", "()Z"⟩, 13)]
theorem lw_r4 : ∀ q ∈ lw_privs_4, lw_okq q := List.forall_mem_cons.mpr ⟨lw_p48, List.forall_mem_cons.mpr ⟨lw_p49, List.forall_mem_cons.mpr ⟨lw_p50, List.forall_mem_cons.mpr ⟨lw_p51, List.forall_mem_cons.mpr ⟨lw_p52, List.forall_mem_cons.mpr ⟨lw_p53, List.forall_mem_cons.mpr ⟨lw_p54, List.forall_mem_cons.mpr ⟨lw_p55, List.forall_mem_cons.mpr ⟨lw_p56, fun _ h => absurd h List.not_mem_nil⟩⟩⟩⟩⟩⟩⟩⟩⟩
def lw_privs : List (MethodName × Nat) := lw_privs_1 ++ (lw_privs_2 ++ (lw_privs_3 ++ (lw_privs_4)))
def lw_tbl : List Cond := k2_sels lw_privs ++ tables_1
theorem lw_privs_ok : ∀ q ∈ lw_privs, lw_okq q := by
  show ∀ q ∈ lw_privs_1 ++ (lw_privs_2 ++ (lw_privs_3 ++ (lw_privs_4))), lw_okq q
  exact List.forall_mem_append.mpr ⟨lw_r1, List.forall_mem_append.mpr ⟨lw_r2, List.forall_mem_append.mpr ⟨lw_r3, lw_r4⟩⟩⟩
/-- the streams that the claim lets the run draw from -/
abbrev lw_cs : List Choice := [Jvm.Choice.named "NaN.bits"]
theorem lw_bits : nanBits ∈ lw_cs := by first | decide | exact List.mem_cons_self | simp [lw_cs, nanBits]
-- ===== end of PART A; then your names; then what follows =====
end
section
/-! ===== BEGIN words of one list among another's, by their places ===== -/
theorem goodIn_r {big : List Cond} (ws : List Cond) (ps : List Nat) (hp : ws = ps.filterMap (fun i => big[i]?)) (h : ws.all goodWord = true) : GoodIn big ws := by
  intro w hw
  have h1 := List.all_eq_true.mp h w hw
  rw [hp] at hw
  obtain ⟨i, -, hi⟩ := List.mem_filterMap.mp hw
  have hm : w ∈ big := by first | exact List.mem_of_getElem? hi | exact List.getElem?_mem hi
  exact ⟨hm, good_of_word h1⟩
theorem goodIn_app {big a b : List Cond} (ha : GoodIn big a) (hb : GoodIn big b) : GoodIn big (a ++ b) := fun w h => (List.mem_append.mp h).elim (ha w) (hb w)
theorem goodIn_ca {big a b : List Cond} {c : Cond} (ha : GoodIn big (c :: a)) (hb : GoodIn big b) : GoodIn big (c :: (a ++ b)) := fun w h => (List.mem_cons.mp h).elim (fun e => ha w (List.mem_cons.mpr (Or.inl e))) (fun h => (List.mem_append.mp h).elim (fun h => ha w (List.mem_cons.mpr (Or.inr h))) (hb w))
theorem goodIn_sub {big ws : List Cond} (hm : ∀ w ∈ ws, w ∈ big) (h : ws.all goodWord = true) : GoodIn big ws := fun w hw => ⟨hm w hw, good_of_word (List.all_eq_true.mp h w hw)⟩
/-! ===== END ===== -/

/-! ===== BEGIN printed: names, fields, word lists, decode rows ===== -/
def RX0 : String := "ShadowTable$Copy"
def TX0 : u_T := fun k => match k with
  | 0 => ("ShadowTable$Copy", "shadow", "LShadowTable$Rows;", true)
  | 1 => ("ShadowTable$Copy", "log", "LShadowTable$Log;", true)
  | 2 => ("ShadowTable$Copy", "phase", "I", false)
  | 3 => ("ShadowTable$Copy", "kind", "I", false)
  | 4 => ("ShadowTable$Copy", "lot", "I", false)
  | 5 => ("ShadowTable$Copy", "cursor", "I", false)
  | _ => ("ShadowTable$Copy", "age", "I", false)
def tyX0 : Nat → FieldType := fun k => match k with
  | 0 => .object "ShadowTable$Rows"
  | 1 => .object "ShadowTable$Log"
  | 2 => .int
  | 3 => .int
  | 4 => .int
  | 5 => .int
  | _ => .int
abbrev wsX00 : List Cond := u_ws RX0 TX0 7
theorem nmX0 : ∀ a, a < 7 → ∀ b, b < 7 → a ≠ b → (TX0 a).2.1 ≠ (TX0 b).2.1 := by decide +kernel
theorem tyX0_ok : ∀ k, k < 7 → parseFieldDescriptor (TX0 k).2.2.1 = some (tyX0 k) := by decide +kernel
abbrev cX0_init : ByteArray := prog_2_method_1_code
def yX0_init : MethodName := ⟨RX0, "<init>", "()V"⟩
abbrev cX0_start : ByteArray := prog_2_method_2_code
def yX0_start : MethodName := ⟨RX0, "start", "(II)V"⟩
abbrev cX0_take : ByteArray := prog_2_method_3_code
def yX0_take : MethodName := ⟨RX0, "take", "(LShadowTable$Copy;)V"⟩
abbrev cX0_copyKey : ByteArray := prog_2_method_4_code
def yX0_copyKey : MethodName := ⟨RX0, "copyKey", "(II)Z"⟩
abbrev cX0_tell : ByteArray := prog_2_method_5_code
def yX0_tell : MethodName := ⟨RX0, "tell", "(I)I"⟩
def RX1 : String := "ShadowTable$History"
def TX1 : u_T := fun k => match k with
  | 0 => ("ShadowTable$History", "slots", "[LShadowTable$State;", true)
  | 1 => ("ShadowTable$History", "start", "I", false)
  | _ => ("ShadowTable$History", "count", "I", false)
def tyX1 : Nat → FieldType := fun k => match k with
  | 0 => .array (.object "ShadowTable$State")
  | 1 => .int
  | _ => .int
abbrev wsX10 : List Cond := u_ws RX1 TX1 3
theorem nmX1 : ∀ a, a < 3 → ∀ b, b < 3 → a ≠ b → (TX1 a).2.1 ≠ (TX1 b).2.1 := by decide +kernel
theorem tyX1_ok : ∀ k, k < 3 → parseFieldDescriptor (TX1 k).2.2.1 = some (tyX1 k) := by decide +kernel
abbrev cX1_init : ByteArray := prog_3_method_1_code
def yX1_init : MethodName := ⟨RX1, "<init>", "()V"⟩
abbrev cX1_prepare : ByteArray := prog_3_method_2_code
def yX1_prepare : MethodName := ⟨RX1, "prepare", "(LShadowTable$State;)V"⟩
abbrev cX1_keepPrepared : ByteArray := prog_3_method_3_code
def yX1_keepPrepared : MethodName := ⟨RX1, "keepPrepared", "()V"⟩
abbrev cX1_takeBack : ByteArray := prog_3_method_4_code
def yX1_takeBack : MethodName := ⟨RX1, "takeBack", "(LShadowTable$State;)I"⟩
abbrev cX1_slotOf : ByteArray := prog_3_method_5_code
def yX1_slotOf : MethodName := ⟨RX1, "slotOf", "(I)I"⟩
def RX2 : String := "ShadowTable$Log"
def TX2 : u_T := fun k => match k with
  | 0 => ("ShadowTable$Log", "keys", "[I", true)
  | 1 => ("ShadowTable$Log", "values", "[I", true)
  | 2 => ("ShadowTable$Log", "start", "I", false)
  | _ => ("ShadowTable$Log", "size", "I", false)
def tyX2 : Nat → FieldType := fun k => match k with
  | 0 => .array .int
  | 1 => .array .int
  | 2 => .int
  | _ => .int
abbrev wsX20 : List Cond := u_ws RX2 TX2 4
theorem nmX2 : ∀ a, a < 4 → ∀ b, b < 4 → a ≠ b → (TX2 a).2.1 ≠ (TX2 b).2.1 := by decide +kernel
theorem tyX2_ok : ∀ k, k < 4 → parseFieldDescriptor (TX2 k).2.2.1 = some (tyX2 k) := by decide +kernel
abbrev cX2_init : ByteArray := prog_4_method_1_code
def yX2_init : MethodName := ⟨RX2, "<init>", "()V"⟩
abbrev cX2_removeAll : ByteArray := prog_4_method_2_code
def yX2_removeAll : MethodName := ⟨RX2, "removeAll", "()V"⟩
abbrev cX2_take : ByteArray := prog_4_method_3_code
def yX2_take : MethodName := ⟨RX2, "take", "(LShadowTable$Log;)V"⟩
abbrev cX2_add : ByteArray := prog_4_method_4_code
def yX2_add : MethodName := ⟨RX2, "add", "(II)Z"⟩
abbrev cX2_removeFirst : ByteArray := prog_4_method_5_code
def yX2_removeFirst : MethodName := ⟨RX2, "removeFirst", "()V"⟩
abbrev cX2_keyAt : ByteArray := prog_4_method_6_code
def yX2_keyAt : MethodName := ⟨RX2, "keyAt", "(I)I"⟩
abbrev cX2_valueAt : ByteArray := prog_4_method_7_code
def yX2_valueAt : MethodName := ⟨RX2, "valueAt", "(I)I"⟩
abbrev cX2_slotOf : ByteArray := prog_4_method_8_code
def yX2_slotOf : MethodName := ⟨RX2, "slotOf", "(I)I"⟩
def RX3 : String := "ShadowTable$Rows"
def TX3 : u_T := fun k => match k with
  | _ => ("ShadowTable$Rows", "values", "[I", true)
def tyX3 : Nat → FieldType := fun k => match k with
  | _ => .array .int
abbrev wsX30 : List Cond := u_ws RX3 TX3 1
theorem nmX3 : ∀ a, a < 1 → ∀ b, b < 1 → a ≠ b → (TX3 a).2.1 ≠ (TX3 b).2.1 := by decide +kernel
theorem tyX3_ok : ∀ k, k < 1 → parseFieldDescriptor (TX3 k).2.2.1 = some (tyX3 k) := by decide +kernel
abbrev cX3_init : ByteArray := prog_5_method_1_code
def yX3_init : MethodName := ⟨RX3, "<init>", "()V"⟩
abbrev cX3_at : ByteArray := prog_5_method_2_code
def yX3_at : MethodName := ⟨RX3, "at", "(I)I"⟩
abbrev cX3_place : ByteArray := prog_5_method_3_code
def yX3_place : MethodName := ⟨RX3, "place", "(II)V"⟩
abbrev cX3_removeAll : ByteArray := prog_5_method_4_code
def yX3_removeAll : MethodName := ⟨RX3, "removeAll", "()V"⟩
abbrev cX3_take : ByteArray := prog_5_method_5_code
def yX3_take : MethodName := ⟨RX3, "take", "(LShadowTable$Rows;)V"⟩
abbrev cX3_tell : ByteArray := prog_5_method_6_code
def yX3_tell : MethodName := ⟨RX3, "tell", "(I)I"⟩
abbrev cX3_count : ByteArray := prog_5_method_7_code
def yX3_count : MethodName := ⟨RX3, "count", "()I"⟩
abbrev cX3_sum : ByteArray := prog_5_method_8_code
def yX3_sum : MethodName := ⟨RX3, "sum", "()I"⟩
abbrev cX3_leastKey : ByteArray := prog_5_method_9_code
def yX3_leastKey : MethodName := ⟨RX3, "leastKey", "()I"⟩
abbrev cX3_greatestKey : ByteArray := prog_5_method_10_code
def yX3_greatestKey : MethodName := ⟨RX3, "greatestKey", "()I"⟩
def RX4 : String := "ShadowTable$Script"
def TX4 : u_T := fun k => match k with
  | 0 => ("ShadowTable$Script", "characters", "[I", true)
  | 1 => ("ShadowTable$Script", "length", "I", false)
  | 2 => ("ShadowTable$Script", "position", "I", false)
  | 3 => ("ShadowTable$Script", "number", "I", false)
  | 4 => ("ShadowTable$Script", "order", "I", false)
  | 5 => ("ShadowTable$Script", "first", "I", false)
  | _ => ("ShadowTable$Script", "second", "I", false)
def tyX4 : Nat → FieldType := fun k => match k with
  | 0 => .array .int
  | 1 => .int
  | 2 => .int
  | 3 => .int
  | 4 => .int
  | 5 => .int
  | _ => .int
abbrev wsX40 : List Cond := u_ws RX4 TX4 7
theorem nmX4 : ∀ a, a < 7 → ∀ b, b < 7 → a ≠ b → (TX4 a).2.1 ≠ (TX4 b).2.1 := by decide +kernel
theorem tyX4_ok : ∀ k, k < 7 → parseFieldDescriptor (TX4 k).2.2.1 = some (tyX4 k) := by decide +kernel
abbrev cX4_init : ByteArray := prog_6_method_1_code
def yX4_init : MethodName := ⟨RX4, "<init>", "()V"⟩
abbrev cX4_appendCharacter : ByteArray := prog_6_method_2_code
def yX4_appendCharacter : MethodName := ⟨RX4, "appendCharacter", "(I)I"⟩
abbrev cX4_empty : ByteArray := prog_6_method_3_code
def yX4_empty : MethodName := ⟨RX4, "empty", "()I"⟩
abbrev cX4_goToStart : ByteArray := prog_6_method_4_code
def yX4_goToStart : MethodName := ⟨RX4, "goToStart", "()V"⟩
abbrev cX4_findFault : ByteArray := prog_6_method_5_code
def yX4_findFault : MethodName := ⟨RX4, "findFault", "()I"⟩
abbrev cX4_readOrder : ByteArray := prog_6_method_6_code
def yX4_readOrder : MethodName := ⟨RX4, "readOrder", "()Z"⟩
abbrev cX4_skip : ByteArray := prog_6_method_7_code
def yX4_skip : MethodName := ⟨RX4, "skip", "(I)Z"⟩
abbrev cX4_readFirst : ByteArray := prog_6_method_8_code
def yX4_readFirst : MethodName := ⟨RX4, "readFirst", "(II)Z"⟩
abbrev cX4_readSecond : ByteArray := prog_6_method_9_code
def yX4_readSecond : MethodName := ⟨RX4, "readSecond", "(II)Z"⟩
abbrev cX4_readNumber : ByteArray := prog_6_method_10_code
def yX4_readNumber : MethodName := ⟨RX4, "readNumber", "(II)Z"⟩
abbrev cX4_digitHere : ByteArray := prog_6_method_11_code
def yX4_digitHere : MethodName := ⟨RX4, "digitHere", "()I"⟩
abbrev cX4_here : ByteArray := prog_6_method_12_code
def yX4_here : MethodName := ⟨RX4, "here", "()I"⟩
def RX5 : String := "ShadowTable$State"
def TX5 : u_T := fun k => match k with
  | 0 => ("ShadowTable$State", "live", "LShadowTable$Rows;", true)
  | 1 => ("ShadowTable$State", "old", "LShadowTable$Rows;", true)
  | 2 => ("ShadowTable$State", "hasOld", "Z", false)
  | 3 => ("ShadowTable$State", "copy", "LShadowTable$Copy;", true)
  | 4 => ("ShadowTable$State", "settings", "[I", true)
  | _ => ("ShadowTable$State", "totals", "[I", true)
def tyX5 : Nat → FieldType := fun k => match k with
  | 0 => .object "ShadowTable$Rows"
  | 1 => .object "ShadowTable$Rows"
  | 2 => .boolean
  | 3 => .object "ShadowTable$Copy"
  | 4 => .array .int
  | _ => .array .int
abbrev wsX50 : List Cond := u_ws RX5 TX5 6
theorem nmX5 : ∀ a, a < 6 → ∀ b, b < 6 → a ≠ b → (TX5 a).2.1 ≠ (TX5 b).2.1 := by decide +kernel
theorem tyX5_ok : ∀ k, k < 6 → parseFieldDescriptor (TX5 k).2.2.1 = some (tyX5 k) := by decide +kernel
abbrev cX5_init : ByteArray := prog_7_method_1_code
def yX5_init : MethodName := ⟨RX5, "<init>", "()V"⟩
abbrev cX5_take : ByteArray := prog_7_method_2_code
def yX5_take : MethodName := ⟨RX5, "take", "(LShadowTable$State;)V"⟩
abbrev cX5_putRow : ByteArray := prog_7_method_3_code
def yX5_putRow : MethodName := ⟨RX5, "putRow", "(II)I"⟩
abbrev cX5_eraseRow : ByteArray := prog_7_method_4_code
def yX5_eraseRow : MethodName := ⟨RX5, "eraseRow", "(I)I"⟩
abbrev cX5_changeRow : ByteArray := prog_7_method_5_code
def yX5_changeRow : MethodName := ⟨RX5, "changeRow", "(II)I"⟩
abbrev cX5_beginCopy : ByteArray := prog_7_method_6_code
def yX5_beginCopy : MethodName := ⟨RX5, "beginCopy", "(II)I"⟩
abbrev cX5_makeTicks : ByteArray := prog_7_method_7_code
def yX5_makeTicks : MethodName := ⟨RX5, "makeTicks", "(I)I"⟩
abbrev cX5_makeTick : ByteArray := prog_7_method_8_code
def yX5_makeTick : MethodName := ⟨RX5, "makeTick", "()V"⟩
abbrev cX5_lockRunsOut : ByteArray := prog_7_method_9_code
def yX5_lockRunsOut : MethodName := ⟨RX5, "lockRunsOut", "()Z"⟩
abbrev cX5_applyEntries : ByteArray := prog_7_method_10_code
def yX5_applyEntries : MethodName := ⟨RX5, "applyEntries", "()V"⟩
abbrev cX5_copyLot : ByteArray := prog_7_method_11_code
def yX5_copyLot : MethodName := ⟨RX5, "copyLot", "()V"⟩
abbrev cX5_lockLive : ByteArray := prog_7_method_12_code
def yX5_lockLive : MethodName := ⟨RX5, "lockLive", "()I"⟩
abbrev cX5_unlockLive : ByteArray := prog_7_method_13_code
def yX5_unlockLive : MethodName := ⟨RX5, "unlockLive", "()I"⟩
abbrev cX5_swapTables : ByteArray := prog_7_method_14_code
def yX5_swapTables : MethodName := ⟨RX5, "swapTables", "()I"⟩
abbrev cX5_giveCopyUp : ByteArray := prog_7_method_15_code
def yX5_giveCopyUp : MethodName := ⟨RX5, "giveCopyUp", "()I"⟩
abbrev cX5_endGivenUp : ByteArray := prog_7_method_16_code
def yX5_endGivenUp : MethodName := ⟨RX5, "endGivenUp", "()V"⟩
abbrev cX5_changeSetting : ByteArray := prog_7_method_17_code
def yX5_changeSetting : MethodName := ⟨RX5, "changeSetting", "(II)I"⟩
abbrev cX5_hasCopy : ByteArray := prog_7_method_18_code
def yX5_hasCopy : MethodName := ⟨RX5, "hasCopy", "()Z"⟩
abbrev cX5_rowsOf : ByteArray := prog_7_method_19_code
def yX5_rowsOf : MethodName := ⟨RX5, "rowsOf", "(I)LShadowTable$Rows;"⟩
abbrev cX5_differsAt : ByteArray := prog_7_method_20_code
def yX5_differsAt : MethodName := ⟨RX5, "differsAt", "(I)Z"⟩
abbrev cX5_canBecomeReady : ByteArray := prog_7_method_21_code
def yX5_canBecomeReady : MethodName := ⟨RX5, "canBecomeReady", "()Z"⟩
abbrev cX5_ticksUntilReady : ByteArray := prog_7_method_22_code
def yX5_ticksUntilReady : MethodName := ⟨RX5, "ticksUntilReady", "(I)I"⟩
def RX6 : String := "ShadowTable"
def TX6 : u_T := fun k => match k with
  | 0 => ("ShadowTable", "state", "LShadowTable$State;", true)
  | 1 => ("ShadowTable", "snapshot", "LShadowTable$State;", true)
  | 2 => ("ShadowTable", "trial", "LShadowTable$State;", true)
  | 3 => ("ShadowTable", "history", "LShadowTable$History;", true)
  | 4 => ("ShadowTable", "script", "LShadowTable$Script;", true)
  | _ => ("ShadowTable", "hasSnapshot", "Z", false)
def tyX6 : Nat → FieldType := fun k => match k with
  | 0 => .object "ShadowTable$State"
  | 1 => .object "ShadowTable$State"
  | 2 => .object "ShadowTable$State"
  | 3 => .object "ShadowTable$History"
  | 4 => .object "ShadowTable$Script"
  | _ => .boolean
abbrev wsX60 : List Cond := u_ws RX6 TX6 6
theorem nmX6 : ∀ a, a < 6 → ∀ b, b < 6 → a ≠ b → (TX6 a).2.1 ≠ (TX6 b).2.1 := by decide +kernel
theorem tyX6_ok : ∀ k, k < 6 → parseFieldDescriptor (TX6 k).2.2.1 = some (tyX6 k) := by decide +kernel
abbrev cX6_init : ByteArray := prog_1_method_1_code
def yX6_init : MethodName := ⟨RX6, "<init>", "()V"⟩
abbrev cX6_put : ByteArray := prog_1_method_2_code
def yX6_put : MethodName := ⟨RX6, "put", "(II)I"⟩
abbrev cX6_erase : ByteArray := prog_1_method_3_code
def yX6_erase : MethodName := ⟨RX6, "erase", "(I)I"⟩
abbrev cX6_begin : ByteArray := prog_1_method_4_code
def yX6_begin : MethodName := ⟨RX6, "begin", "(II)I"⟩
abbrev cX6_tick : ByteArray := prog_1_method_5_code
def yX6_tick : MethodName := ⟨RX6, "tick", "(I)I"⟩
abbrev cX6_lock : ByteArray := prog_1_method_6_code
def yX6_lock : MethodName := ⟨RX6, "lock", "()I"⟩
abbrev cX6_unlock : ByteArray := prog_1_method_7_code
def yX6_unlock : MethodName := ⟨RX6, "unlock", "()I"⟩
abbrev cX6_swap : ByteArray := prog_1_method_8_code
def yX6_swap : MethodName := ⟨RX6, "swap", "()I"⟩
abbrev cX6_giveUp : ByteArray := prog_1_method_9_code
def yX6_giveUp : MethodName := ⟨RX6, "giveUp", "()I"⟩
abbrev cX6_set : ByteArray := prog_1_method_10_code
def yX6_set : MethodName := ⟨RX6, "set", "(II)I"⟩
abbrev cX6_append : ByteArray := prog_1_method_11_code
def yX6_append : MethodName := ⟨RX6, "append", "(I)I"⟩
abbrev cX6_clearText : ByteArray := prog_1_method_12_code
def yX6_clearText : MethodName := ⟨RX6, "clearText", "()I"⟩
abbrev cX6_fault : ByteArray := prog_1_method_13_code
def yX6_fault : MethodName := ⟨RX6, "fault", "()I"⟩
abbrev cX6_run : ByteArray := prog_1_method_14_code
def yX6_run : MethodName := ⟨RX6, "run", "()I"⟩
abbrev cX6_undo : ByteArray := prog_1_method_15_code
def yX6_undo : MethodName := ⟨RX6, "undo", "()I"⟩
abbrev cX6_save : ByteArray := prog_1_method_16_code
def yX6_save : MethodName := ⟨RX6, "save", "()I"⟩
abbrev cX6_restore : ByteArray := prog_1_method_17_code
def yX6_restore : MethodName := ⟨RX6, "restore", "()I"⟩
abbrev cX6_value : ByteArray := prog_1_method_18_code
def yX6_value : MethodName := ⟨RX6, "value", "(II)I"⟩
abbrev cX6_table : ByteArray := prog_1_method_19_code
def yX6_table : MethodName := ⟨RX6, "table", "(II)I"⟩
abbrev cX6_copy : ByteArray := prog_1_method_20_code
def yX6_copy : MethodName := ⟨RX6, "copy", "(I)I"⟩
abbrev cX6_entry : ByteArray := prog_1_method_21_code
def yX6_entry : MethodName := ⟨RX6, "entry", "(II)I"⟩
abbrev cX6_changed : ByteArray := prog_1_method_22_code
def yX6_changed : MethodName := ⟨RX6, "changed", "(III)I"⟩
abbrev cX6_differences : ByteArray := prog_1_method_23_code
def yX6_differences : MethodName := ⟨RX6, "differences", "()I"⟩
abbrev cX6_firstDifference : ByteArray := prog_1_method_24_code
def yX6_firstDifference : MethodName := ⟨RX6, "firstDifference", "()I"⟩
abbrev cX6_setting : ByteArray := prog_1_method_25_code
def yX6_setting : MethodName := ⟨RX6, "setting", "(I)I"⟩
abbrev cX6_total : ByteArray := prog_1_method_26_code
def yX6_total : MethodName := ⟨RX6, "total", "(I)I"⟩
abbrev cX6_states : ByteArray := prog_1_method_27_code
def yX6_states : MethodName := ⟨RX6, "states", "()I"⟩
abbrev cX6_readyIn : ByteArray := prog_1_method_28_code
def yX6_readyIn : MethodName := ⟨RX6, "readyIn", "()I"⟩
abbrev cX6_leastLot : ByteArray := prog_1_method_29_code
def yX6_leastLot : MethodName := ⟨RX6, "leastLot", "(I)I"⟩
abbrev cX6_progress : ByteArray := prog_1_method_30_code
def yX6_progress : MethodName := ⟨RX6, "progress", "()D"⟩
abbrev cX6_recorded : ByteArray := prog_1_method_31_code
def yX6_recorded : MethodName := ⟨RX6, "recorded", "(I)I"⟩
abbrev cX6_carryOutOrder : ByteArray := prog_1_method_32_code
def yX6_carryOutOrder : MethodName := ⟨RX6, "carryOutOrder", "()I"⟩
abbrev cX6_isError : ByteArray := prog_1_method_33_code
def yX6_isError : MethodName := ⟨RX6, "isError", "(I)Z"⟩
abbrev cX6_isIn : ByteArray := prog_1_method_34_code
def yX6_isIn : MethodName := ⟨RX6, "isIn", "(III)Z"⟩
abbrev cX6_isKey : ByteArray := prog_1_method_35_code
def yX6_isKey : MethodName := ⟨RX6, "isKey", "(I)Z"⟩
abbrev cX6_isValue : ByteArray := prog_1_method_36_code
def yX6_isValue : MethodName := ⟨RX6, "isValue", "(I)Z"⟩
abbrev cX6_isKind : ByteArray := prog_1_method_37_code
def yX6_isKind : MethodName := ⟨RX6, "isKind", "(I)Z"⟩
abbrev cX6_isLot : ByteArray := prog_1_method_38_code
def yX6_isLot : MethodName := ⟨RX6, "isLot", "(I)Z"⟩
abbrev cX6_isTicks : ByteArray := prog_1_method_39_code
def yX6_isTicks : MethodName := ⟨RX6, "isTicks", "(I)Z"⟩
abbrev cX6_isTable : ByteArray := prog_1_method_40_code
def yX6_isTable : MethodName := ⟨RX6, "isTable", "(I)Z"⟩
abbrev cX6_isSetting : ByteArray := prog_1_method_41_code
def yX6_isSetting : MethodName := ⟨RX6, "isSetting", "(I)Z"⟩
abbrev cX6_changedValue : ByteArray := prog_1_method_42_code
def yX6_changedValue : MethodName := ⟨RX6, "changedValue", "(III)I"⟩
def RX7 : String := "ShadowTableModel"
def TX7 : u_T := fun k => match k with
  | 0 => ("ShadowTableModel", "s", "[I", true)
  | 1 => ("ShadowTableModel", "history", "[I", true)
  | 2 => ("ShadowTableModel", "kept", "I", false)
  | 3 => ("ShadowTableModel", "snapshot", "[I", true)
  | 4 => ("ShadowTableModel", "isTaken", "Z", false)
  | 5 => ("ShadowTableModel", "before", "[I", true)
  | 6 => ("ShadowTableModel", "text", "[I", true)
  | 7 => ("ShadowTableModel", "length", "I", false)
  | 8 => ("ShadowTableModel", "place", "I", false)
  | 9 => ("ShadowTableModel", "letter", "I", false)
  | 10 => ("ShadowTableModel", "one", "I", false)
  | 11 => ("ShadowTableModel", "other", "I", false)
  | _ => ("ShadowTableModel", "carriedOut", "I", false)
def tyX7 : Nat → FieldType := fun k => match k with
  | 0 => .array .int
  | 1 => .array .int
  | 2 => .int
  | 3 => .array .int
  | 4 => .boolean
  | 5 => .array .int
  | 6 => .array .int
  | 7 => .int
  | 8 => .int
  | 9 => .int
  | 10 => .int
  | 11 => .int
  | _ => .int
abbrev wsX70 : List Cond := u_ws RX7 TX7 13
theorem nmX7 : ∀ a, a < 13 → ∀ b, b < 13 → a ≠ b → (TX7 a).2.1 ≠ (TX7 b).2.1 := by decide +kernel
theorem tyX7_ok : ∀ k, k < 13 → parseFieldDescriptor (TX7 k).2.2.1 = some (tyX7 k) := by decide +kernel
abbrev cX7_init : ByteArray := prog_9_method_1_code
def yX7_init : MethodName := ⟨RX7, "<init>", "()V"⟩
abbrev cX7_in : ByteArray := prog_9_method_3_code
def yX7_in : MethodName := ⟨RX7, "in", "(III)Z"⟩
abbrev cX7_isKey : ByteArray := prog_9_method_4_code
def yX7_isKey : MethodName := ⟨RX7, "isKey", "(I)Z"⟩
abbrev cX7_isCopy : ByteArray := prog_9_method_5_code
def yX7_isCopy : MethodName := ⟨RX7, "isCopy", "()Z"⟩
abbrev cX7_row : ByteArray := prog_9_method_6_code
def yX7_row : MethodName := ⟨RX7, "row", "(II)I"⟩
abbrev cX7_lay : ByteArray := prog_9_method_7_code
def yX7_lay : MethodName := ⟨RX7, "lay", "(III)V"⟩
abbrev cX7_outside : ByteArray := prog_9_method_8_code
def yX7_outside : MethodName := ⟨RX7, "outside", "(I)I"⟩
abbrev cX7_rows : ByteArray := prog_9_method_9_code
def yX7_rows : MethodName := ⟨RX7, "rows", "(I)I"⟩
abbrev cX7_isTable : ByteArray := prog_9_method_10_code
def yX7_isTable : MethodName := ⟨RX7, "isTable", "(I)Z"⟩
abbrev cX7_copyAll : ByteArray := prog_9_method_11_code
def yX7_copyAll : MethodName := ⟨RX7, "copyAll", "([II[II)V"⟩
abbrev cX7_record : ByteArray := prog_9_method_12_code
def yX7_record : MethodName := ⟨RX7, "record", "()V"⟩
abbrev cX7_becomes : ByteArray := prog_9_method_13_code
def yX7_becomes : MethodName := ⟨RX7, "becomes", "(III)I"⟩
abbrev cX7_due : ByteArray := prog_9_method_14_code
def yX7_due : MethodName := ⟨RX7, "due", "(I)I"⟩
abbrev cX7_differing : ByteArray := prog_9_method_15_code
def yX7_differing : MethodName := ⟨RX7, "differing", "(Z)I"⟩
abbrev cX7_apply : ByteArray := prog_9_method_16_code
def yX7_apply : MethodName := ⟨RX7, "apply", "()V"⟩
abbrev cX7_copyKeys : ByteArray := prog_9_method_17_code
def yX7_copyKeys : MethodName := ⟨RX7, "copyKeys", "()V"⟩
abbrev cX7_tickOnce : ByteArray := prog_9_method_18_code
def yX7_tickOnce : MethodName := ⟨RX7, "tickOnce", "()V"⟩
abbrev cX7_isLogFull : ByteArray := prog_9_method_19_code
def yX7_isLogFull : MethodName := ⟨RX7, "isLogFull", "()Z"⟩
abbrev cX7_changeError : ByteArray := prog_9_method_20_code
def yX7_changeError : MethodName := ⟨RX7, "changeError", "()I"⟩
abbrev cX7_putError : ByteArray := prog_9_method_21_code
def yX7_putError : MethodName := ⟨RX7, "putError", "(II)I"⟩
abbrev cX7_eraseError : ByteArray := prog_9_method_22_code
def yX7_eraseError : MethodName := ⟨RX7, "eraseError", "(I)I"⟩
abbrev cX7_endCopy : ByteArray := prog_9_method_23_code
def yX7_endCopy : MethodName := ⟨RX7, "endCopy", "()V"⟩
abbrev cX7_doChange : ByteArray := prog_9_method_24_code
def yX7_doChange : MethodName := ⟨RX7, "doChange", "(II)I"⟩
abbrev cX7_doErase : ByteArray := prog_9_method_25_code
def yX7_doErase : MethodName := ⟨RX7, "doErase", "(I)I"⟩
abbrev cX7_beginError : ByteArray := prog_9_method_26_code
def yX7_beginError : MethodName := ⟨RX7, "beginError", "(II)I"⟩
abbrev cX7_doBegin : ByteArray := prog_9_method_27_code
def yX7_doBegin : MethodName := ⟨RX7, "doBegin", "(II)I"⟩
abbrev cX7_doTick : ByteArray := prog_9_method_28_code
def yX7_doTick : MethodName := ⟨RX7, "doTick", "(I)I"⟩
abbrev cX7_doLock : ByteArray := prog_9_method_29_code
def yX7_doLock : MethodName := ⟨RX7, "doLock", "()I"⟩
abbrev cX7_doUnlock : ByteArray := prog_9_method_30_code
def yX7_doUnlock : MethodName := ⟨RX7, "doUnlock", "()I"⟩
abbrev cX7_swapError : ByteArray := prog_9_method_31_code
def yX7_swapError : MethodName := ⟨RX7, "swapError", "()I"⟩
abbrev cX7_doSwap : ByteArray := prog_9_method_32_code
def yX7_doSwap : MethodName := ⟨RX7, "doSwap", "()I"⟩
abbrev cX7_doGiveUp : ByteArray := prog_9_method_33_code
def yX7_doGiveUp : MethodName := ⟨RX7, "doGiveUp", "()I"⟩
abbrev cX7_phaseError : ByteArray := prog_9_method_34_code
def yX7_phaseError : MethodName := ⟨RX7, "phaseError", "(I)I"⟩
abbrev cX7_put : ByteArray := prog_9_method_35_code
def yX7_put : MethodName := ⟨RX7, "put", "(II)I"⟩
abbrev cX7_erase : ByteArray := prog_9_method_36_code
def yX7_erase : MethodName := ⟨RX7, "erase", "(I)I"⟩
abbrev cX7_begin : ByteArray := prog_9_method_37_code
def yX7_begin : MethodName := ⟨RX7, "begin", "(II)I"⟩
abbrev cX7_tick : ByteArray := prog_9_method_38_code
def yX7_tick : MethodName := ⟨RX7, "tick", "(I)I"⟩
abbrev cX7_lock : ByteArray := prog_9_method_39_code
def yX7_lock : MethodName := ⟨RX7, "lock", "()I"⟩
abbrev cX7_unlock : ByteArray := prog_9_method_40_code
def yX7_unlock : MethodName := ⟨RX7, "unlock", "()I"⟩
abbrev cX7_swap : ByteArray := prog_9_method_41_code
def yX7_swap : MethodName := ⟨RX7, "swap", "()I"⟩
abbrev cX7_giveUp : ByteArray := prog_9_method_42_code
def yX7_giveUp : MethodName := ⟨RX7, "giveUp", "()I"⟩
abbrev cX7_fits : ByteArray := prog_9_method_43_code
def yX7_fits : MethodName := ⟨RX7, "fits", "(II)Z"⟩
abbrev cX7_set : ByteArray := prog_9_method_44_code
def yX7_set : MethodName := ⟨RX7, "set", "(II)I"⟩
abbrev cX7_append : ByteArray := prog_9_method_45_code
def yX7_append : MethodName := ⟨RX7, "append", "(I)I"⟩
abbrev cX7_clearText : ByteArray := prog_9_method_46_code
def yX7_clearText : MethodName := ⟨RX7, "clearText", "()I"⟩
abbrev cX7_isNext : ByteArray := prog_9_method_47_code
def yX7_isNext : MethodName := ⟨RX7, "isNext", "(II)Z"⟩
abbrev cX7_takes : ByteArray := prog_9_method_48_code
def yX7_takes : MethodName := ⟨RX7, "takes", "(I)Z"⟩
abbrev cX7_readNumber : ByteArray := prog_9_method_49_code
def yX7_readNumber : MethodName := ⟨RX7, "readNumber", "(II)I"⟩
abbrev cX7_readOrder : ByteArray := prog_9_method_50_code
def yX7_readOrder : MethodName := ⟨RX7, "readOrder", "()Z"⟩
abbrev cX7_errorOfOrder : ByteArray := prog_9_method_51_code
def yX7_errorOfOrder : MethodName := ⟨RX7, "errorOfOrder", "()I"⟩
abbrev cX7_carryOut : ByteArray := prog_9_method_52_code
def yX7_carryOut : MethodName := ⟨RX7, "carryOut", "()I"⟩
abbrev cX7_readText : ByteArray := prog_9_method_53_code
def yX7_readText : MethodName := ⟨RX7, "readText", "(Z)Z"⟩
abbrev cX7_fault : ByteArray := prog_9_method_54_code
def yX7_fault : MethodName := ⟨RX7, "fault", "()I"⟩
abbrev cX7_run : ByteArray := prog_9_method_55_code
def yX7_run : MethodName := ⟨RX7, "run", "()I"⟩
abbrev cX7_undo : ByteArray := prog_9_method_56_code
def yX7_undo : MethodName := ⟨RX7, "undo", "()I"⟩
abbrev cX7_save : ByteArray := prog_9_method_57_code
def yX7_save : MethodName := ⟨RX7, "save", "()I"⟩
abbrev cX7_restore : ByteArray := prog_9_method_58_code
def yX7_restore : MethodName := ⟨RX7, "restore", "()I"⟩
abbrev cX7_value : ByteArray := prog_9_method_59_code
def yX7_value : MethodName := ⟨RX7, "value", "(II)I"⟩
abbrev cX7_sum : ByteArray := prog_9_method_60_code
def yX7_sum : MethodName := ⟨RX7, "sum", "(I)I"⟩
abbrev cX7_endKey : ByteArray := prog_9_method_61_code
def yX7_endKey : MethodName := ⟨RX7, "endKey", "(IZ)I"⟩
abbrev cX7_table : ByteArray := prog_9_method_62_code
def yX7_table : MethodName := ⟨RX7, "table", "(II)I"⟩
abbrev cX7_copy : ByteArray := prog_9_method_63_code
def yX7_copy : MethodName := ⟨RX7, "copy", "(I)I"⟩
abbrev cX7_entry : ByteArray := prog_9_method_64_code
def yX7_entry : MethodName := ⟨RX7, "entry", "(II)I"⟩
abbrev cX7_changed : ByteArray := prog_9_method_65_code
def yX7_changed : MethodName := ⟨RX7, "changed", "(III)I"⟩
abbrev cX7_differences : ByteArray := prog_9_method_66_code
def yX7_differences : MethodName := ⟨RX7, "differences", "()I"⟩
abbrev cX7_firstDifference : ByteArray := prog_9_method_67_code
def yX7_firstDifference : MethodName := ⟨RX7, "firstDifference", "()I"⟩
abbrev cX7_setting : ByteArray := prog_9_method_68_code
def yX7_setting : MethodName := ⟨RX7, "setting", "(I)I"⟩
abbrev cX7_total : ByteArray := prog_9_method_69_code
def yX7_total : MethodName := ⟨RX7, "total", "(I)I"⟩
abbrev cX7_states : ByteArray := prog_9_method_70_code
def yX7_states : MethodName := ⟨RX7, "states", "()I"⟩
abbrev cX7_isReady : ByteArray := prog_9_method_71_code
def yX7_isReady : MethodName := ⟨RX7, "isReady", "()Z"⟩
abbrev cX7_until : ByteArray := prog_9_method_72_code
def yX7_until : MethodName := ⟨RX7, "until", "(II)I"⟩
abbrev cX7_canAsk : ByteArray := prog_9_method_73_code
def yX7_canAsk : MethodName := ⟨RX7, "canAsk", "()Z"⟩
abbrev cX7_readyIn : ByteArray := prog_9_method_74_code
def yX7_readyIn : MethodName := ⟨RX7, "readyIn", "()I"⟩
abbrev cX7_leastLot : ByteArray := prog_9_method_75_code
def yX7_leastLot : MethodName := ⟨RX7, "leastLot", "(I)I"⟩
abbrev cX7_progress : ByteArray := prog_9_method_76_code
def yX7_progress : MethodName := ⟨RX7, "progress", "()D"⟩
def RJ10 : String := "java/lang/System"
def TJ10 : u_T := fun k => match k with
  | _ => ("", "", "", false)
def tyJ10 : Nat → FieldType := fun k => match k with
  | _ => .int
abbrev wsJ100 : List Cond := u_ws RJ10 TJ10 0
theorem nmJ10 : ∀ a, a < 0 → ∀ b, b < 0 → a ≠ b → (TJ10 a).2.1 ≠ (TJ10 b).2.1 := by decide +kernel
theorem tyJ10_ok : ∀ k, k < 0 → parseFieldDescriptor (TJ10 k).2.2.1 = some (tyJ10 k) := by decide +kernel
def RJ7 : String := "java/util/Arrays"
def TJ7 : u_T := fun k => match k with
  | _ => ("", "", "", false)
def tyJ7 : Nat → FieldType := fun k => match k with
  | _ => .int
abbrev wsJ70 : List Cond := u_ws RJ7 TJ7 0
theorem nmJ7 : ∀ a, a < 0 → ∀ b, b < 0 → a ≠ b → (TJ7 a).2.1 ≠ (TJ7 b).2.1 := by decide +kernel
theorem tyJ7_ok : ∀ k, k < 0 → parseFieldDescriptor (TJ7 k).2.2.1 = some (tyJ7 k) := by decide +kernel
abbrev cJ7_fill_53178 : ByteArray := prog_11_method_103_code
def yJ7_fill_53178 : MethodName := ⟨RJ7, "fill", "([II)V"⟩
def RL : String := "ShadowTableLaw"
abbrev cL_law : ByteArray := code
def yL_law : MethodName := ⟨RL, "law", "([I)Z"⟩
def wsJ7_fill_53178 : List Cond := .code yJ7_fill_53178 cJ7_fill_53178 4 none :: ([])
def wsX3_init : List Cond := .code yX3_init cX3_init 1 none :: ([.methodLink RX3 3 objectInit, .instanceMethod objectInit, .code objectInit ⟨#[0xb1]⟩ 1 none, .arrayClass .int, .fieldLink RX3 9 "ShadowTable$Rows" "values" "[I", .methodLink RX3 15 yJ7_fill_53178, .static yJ7_fill_53178, .initialized RJ7, .code yJ7_fill_53178 cJ7_fill_53178 4 none] ++ wsX30)
def wsX2_init : List Cond := .code yX2_init cX2_init 1 none :: ([.methodLink RX2 3 objectInit, .instanceMethod objectInit, .code objectInit ⟨#[0xb1]⟩ 1 none, .arrayClass .int, .fieldLink RX2 9 "ShadowTable$Log" "keys" "[I", .fieldLink RX2 15 "ShadowTable$Log" "values" "[I"] ++ wsX20)
def wsX0_init_r1 : List Cond := [Cond.methodLink RX0 3 objectInit, Cond.instanceMethod objectInit, Cond.code objectInit ⟨#[0xb1]⟩ 1 none, Cond.classLink RX0 9 RX3, Cond.instantiable RX3 1, Cond.initialized RX3, Cond.fieldLink RX0 12 "ShadowTable$Copy" "shadow" "LShadowTable$Rows;", Cond.classLink RX0 18 RX2, Cond.instantiable RX2 4, Cond.initialized RX2, Cond.fieldLink RX0 21 "ShadowTable$Copy" "log" "LShadowTable$Log;", Cond.fieldLink RX0 25 "ShadowTable$Copy" "phase" "I", Cond.methodLink RX0 11 yX3_init, Cond.instanceMethod yX3_init, Cond.code yX3_init cX3_init 1 none, Cond.methodLink RX3 3 objectInit, Cond.arrayClass .int, Cond.fieldLink RX3 9 "ShadowTable$Rows" "values" "[I", Cond.methodLink RX3 15 yJ7_fill_53178, Cond.static yJ7_fill_53178, Cond.initialized RJ7, Cond.code yJ7_fill_53178 cJ7_fill_53178 4 none, Cond.instanceMethod yX2_init, Cond.code yX2_init cX2_init 1 none]
def wsX0_init_r2 : List Cond := [Cond.methodLink RX2 3 objectInit, Cond.fieldLink RX2 9 "ShadowTable$Log" "keys" "[I", Cond.fieldLink RX2 15 "ShadowTable$Log" "values" "[I"]
def wsX0_init : List Cond := .code yX0_init cX0_init 1 none :: ((wsX0_init_r1 ++ wsX0_init_r2) ++ wsX30 ++ wsX00 ++ wsX20)
def wsX3_removeAll : List Cond := .code yX3_removeAll cX3_removeAll 1 none :: ([.fieldLink RX3 9 "ShadowTable$Rows" "values" "[I", .methodLink RX3 15 yJ7_fill_53178, .static yJ7_fill_53178, .initialized RJ7, .code yJ7_fill_53178 cJ7_fill_53178 4 none] ++ wsX30)
def wsX2_removeAll : List Cond := .code yX2_removeAll cX2_removeAll 1 none :: ([.fieldLink RX2 18 "ShadowTable$Log" "start" "I", .fieldLink RX2 22 "ShadowTable$Log" "size" "I"] ++ wsX20)
def wsX0_start : List Cond := .code yX0_start cX0_start 3 none :: ([.fieldLink RX0 12 "ShadowTable$Copy" "shadow" "LShadowTable$Rows;", .fieldLink RX0 21 "ShadowTable$Copy" "log" "LShadowTable$Log;", .fieldLink RX0 25 "ShadowTable$Copy" "phase" "I", .fieldLink RX0 33 "ShadowTable$Copy" "kind" "I", .fieldLink RX0 36 "ShadowTable$Copy" "lot" "I", .fieldLink RX0 39 "ShadowTable$Copy" "cursor" "I", .methodLink RX0 29 yX3_removeAll, .instanceMethod yX3_removeAll, .selects RX3 yX3_removeAll yX3_removeAll, .initialized RX3, .code yX3_removeAll cX3_removeAll 1 none, .fieldLink RX3 9 "ShadowTable$Rows" "values" "[I", .methodLink RX3 15 yJ7_fill_53178, .static yJ7_fill_53178, .initialized RJ7, .code yJ7_fill_53178 cJ7_fill_53178 4 none, .methodLink RX0 32 yX2_removeAll, .instanceMethod yX2_removeAll, .selects RX2 yX2_removeAll yX2_removeAll, .initialized RX2, .code yX2_removeAll cX2_removeAll 1 none, .fieldLink RX2 18 "ShadowTable$Log" "start" "I", .fieldLink RX2 22 "ShadowTable$Log" "size" "I"] ++ wsX00 ++ wsX30 ++ wsX20)
def wsX3_take : List Cond := .code yX3_take cX3_take 2 none :: ([.fieldLink RX3 9 "ShadowTable$Rows" "values" "[I", .methodLink RX3 21 arraycopyName, .native arraycopyName, .static arraycopyName, .initialized "java/lang/System"] ++ wsX30)
def wsX2_take : List Cond := .code yX2_take cX2_take 2 none :: ([.fieldLink RX2 9 "ShadowTable$Log" "keys" "[I", .methodLink RX2 25 arraycopyName, .native arraycopyName, .static arraycopyName, .initialized "java/lang/System", .fieldLink RX2 15 "ShadowTable$Log" "values" "[I", .fieldLink RX2 18 "ShadowTable$Log" "start" "I", .fieldLink RX2 22 "ShadowTable$Log" "size" "I"] ++ wsX20)
def wsX0_take_r1 : List Cond := [Cond.fieldLink RX0 12 "ShadowTable$Copy" "shadow" "LShadowTable$Rows;", Cond.fieldLink RX0 21 "ShadowTable$Copy" "log" "LShadowTable$Log;", Cond.fieldLink RX0 25 "ShadowTable$Copy" "phase" "I", Cond.fieldLink RX0 33 "ShadowTable$Copy" "kind" "I", Cond.fieldLink RX0 36 "ShadowTable$Copy" "lot" "I", Cond.fieldLink RX0 39 "ShadowTable$Copy" "cursor" "I", Cond.fieldLink RX0 49 "ShadowTable$Copy" "age" "I", Cond.methodLink RX0 42 yX3_take, Cond.instanceMethod yX3_take, Cond.selects RX3 yX3_take yX3_take, Cond.initialized RX3, Cond.code yX3_take cX3_take 2 none, Cond.fieldLink RX3 9 "ShadowTable$Rows" "values" "[I", Cond.methodLink RX3 21 arraycopyName, Cond.native arraycopyName, Cond.static arraycopyName, Cond.initialized "java/lang/System", Cond.methodLink RX0 46 yX2_take, Cond.instanceMethod yX2_take, Cond.selects RX2 yX2_take yX2_take, Cond.initialized RX2, Cond.code yX2_take cX2_take 2 none, Cond.fieldLink RX2 9 "ShadowTable$Log" "keys" "[I", Cond.methodLink RX2 25 arraycopyName]
def wsX0_take_r2 : List Cond := [Cond.fieldLink RX2 15 "ShadowTable$Log" "values" "[I", Cond.fieldLink RX2 18 "ShadowTable$Log" "start" "I", Cond.fieldLink RX2 22 "ShadowTable$Log" "size" "I"]
def wsX0_take : List Cond := .code yX0_take cX0_take 2 none :: ((wsX0_take_r1 ++ wsX0_take_r2) ++ wsX00 ++ wsX30 ++ wsX20)
def wsX6_changedValue : List Cond := .code yX6_changedValue cX6_changedValue 3 (some .int) :: ([])
def wsX3_at : List Cond := .code yX3_at cX3_at 2 (some .int) :: ([.fieldLink RX3 9 "ShadowTable$Rows" "values" "[I"] ++ wsX30)
def wsX3_place : List Cond := .code yX3_place cX3_place 3 none :: ([.fieldLink RX3 9 "ShadowTable$Rows" "values" "[I"] ++ wsX30)
def wsX0_copyKey : List Cond := .code yX0_copyKey cX0_copyKey 4 (some .boolean) :: ([.fieldLink RX0 39 "ShadowTable$Copy" "cursor" "I", .fieldLink RX0 33 "ShadowTable$Copy" "kind" "I", .fieldLink RX0 12 "ShadowTable$Copy" "shadow" "LShadowTable$Rows;", .static yX6_changedValue, .initialized RX6, .code yX6_changedValue cX6_changedValue 3 (some .int), .methodLink RX0 56 yX3_at, .instanceMethod yX3_at, .selects RX3 yX3_at yX3_at, .initialized RX3, .code yX3_at cX3_at 2 (some .int), .fieldLink RX3 9 "ShadowTable$Rows" "values" "[I", .methodLink RX0 60 yX3_place, .instanceMethod yX3_place, .selects RX3 yX3_place yX3_place, .code yX3_place cX3_place 3 none] ++ wsX00 ++ wsX30)
def wsX0_tell : List Cond := .code yX0_tell cX0_tell 2 (some .int) :: ([.fieldLink RX0 25 "ShadowTable$Copy" "phase" "I", .fieldLink RX0 49 "ShadowTable$Copy" "age" "I", .fieldLink RX0 33 "ShadowTable$Copy" "kind" "I", .fieldLink RX0 36 "ShadowTable$Copy" "lot" "I", .fieldLink RX0 39 "ShadowTable$Copy" "cursor" "I", .fieldLink RX0 21 "ShadowTable$Copy" "log" "LShadowTable$Log;"] ++ wsX00 ++ wsX20)
def wsX5_init_r1 : List Cond := [Cond.methodLink RX5 3 objectInit, Cond.instanceMethod objectInit, Cond.code objectInit ⟨#[0xb1]⟩ 1 none, Cond.classLink RX5 9 RX3, Cond.instantiable RX3 1, Cond.initialized RX3, Cond.fieldLink RX5 12 "ShadowTable$State" "live" "LShadowTable$Rows;", Cond.fieldLink RX5 18 "ShadowTable$State" "old" "LShadowTable$Rows;", Cond.classLink RX5 21 RX0, Cond.instantiable RX0 7, Cond.initialized RX0, Cond.fieldLink RX5 24 "ShadowTable$State" "copy" "LShadowTable$Copy;", Cond.arrayClass .int, Cond.fieldLink RX5 28 "ShadowTable$State" "settings" "[I", Cond.fieldLink RX5 32 "ShadowTable$State" "totals" "[I", Cond.methodLink RX5 11 yX3_init, Cond.instanceMethod yX3_init, Cond.code yX3_init cX3_init 1 none, Cond.methodLink RX3 3 objectInit, Cond.fieldLink RX3 9 "ShadowTable$Rows" "values" "[I", Cond.methodLink RX3 15 yJ7_fill_53178, Cond.static yJ7_fill_53178, Cond.initialized RJ7, Cond.code yJ7_fill_53178 cJ7_fill_53178 4 none]
def wsX5_init_r2 : List Cond := [Cond.instanceMethod yX0_init, Cond.code yX0_init cX0_init 1 none, Cond.methodLink RX0 3 objectInit, Cond.classLink RX0 9 RX3, Cond.fieldLink RX0 12 "ShadowTable$Copy" "shadow" "LShadowTable$Rows;", Cond.classLink RX0 18 RX2, Cond.instantiable RX2 4, Cond.initialized RX2, Cond.fieldLink RX0 21 "ShadowTable$Copy" "log" "LShadowTable$Log;", Cond.fieldLink RX0 25 "ShadowTable$Copy" "phase" "I", Cond.methodLink RX0 11 yX3_init, Cond.instanceMethod yX2_init, Cond.code yX2_init cX2_init 1 none, Cond.methodLink RX2 3 objectInit, Cond.fieldLink RX2 9 "ShadowTable$Log" "keys" "[I", Cond.fieldLink RX2 15 "ShadowTable$Log" "values" "[I"]
def wsX5_init : List Cond := .code yX5_init cX5_init 1 none :: ((wsX5_init_r1 ++ wsX5_init_r2) ++ wsX30 ++ wsX50 ++ wsX00 ++ wsX20)
def wsX1_init_r1 : List Cond := [Cond.methodLink RX1 3 objectInit, Cond.instanceMethod objectInit, Cond.code objectInit ⟨#[0xb1]⟩ 1 none, Cond.classLink RX1 11 RX5, Cond.fieldLink RX1 13 "ShadowTable$History" "slots" "[LShadowTable$State;", Cond.instantiable RX5 6, Cond.initialized RX5, Cond.instanceMethod yX5_init, Cond.code yX5_init cX5_init 1 none, Cond.methodLink RX5 3 objectInit, Cond.classLink RX5 9 RX3, Cond.instantiable RX3 1, Cond.initialized RX3, Cond.fieldLink RX5 12 "ShadowTable$State" "live" "LShadowTable$Rows;", Cond.fieldLink RX5 18 "ShadowTable$State" "old" "LShadowTable$Rows;", Cond.classLink RX5 21 RX0, Cond.instantiable RX0 7, Cond.initialized RX0, Cond.fieldLink RX5 24 "ShadowTable$State" "copy" "LShadowTable$Copy;", Cond.arrayClass .int, Cond.fieldLink RX5 28 "ShadowTable$State" "settings" "[I", Cond.fieldLink RX5 32 "ShadowTable$State" "totals" "[I", Cond.methodLink RX5 11 yX3_init, Cond.instanceMethod yX3_init]
def wsX1_init_r2 : List Cond := [Cond.code yX3_init cX3_init 1 none, Cond.methodLink RX3 3 objectInit, Cond.fieldLink RX3 9 "ShadowTable$Rows" "values" "[I", Cond.methodLink RX3 15 yJ7_fill_53178, Cond.static yJ7_fill_53178, Cond.initialized RJ7, Cond.code yJ7_fill_53178 cJ7_fill_53178 4 none, Cond.instanceMethod yX0_init, Cond.code yX0_init cX0_init 1 none, Cond.methodLink RX0 3 objectInit, Cond.classLink RX0 9 RX3, Cond.fieldLink RX0 12 "ShadowTable$Copy" "shadow" "LShadowTable$Rows;", Cond.classLink RX0 18 RX2, Cond.instantiable RX2 4, Cond.initialized RX2, Cond.fieldLink RX0 21 "ShadowTable$Copy" "log" "LShadowTable$Log;", Cond.fieldLink RX0 25 "ShadowTable$Copy" "phase" "I", Cond.methodLink RX0 11 yX3_init, Cond.instanceMethod yX2_init, Cond.code yX2_init cX2_init 1 none, Cond.methodLink RX2 3 objectInit, Cond.fieldLink RX2 9 "ShadowTable$Log" "keys" "[I", Cond.fieldLink RX2 15 "ShadowTable$Log" "values" "[I"]
def wsX1_init : List Cond := .code yX1_init cX1_init 2 none :: ((wsX1_init_r1 ++ wsX1_init_r2) ++ wsX10 ++ wsX50 ++ wsX30 ++ wsX00 ++ wsX20)
def wsX1_slotOf : List Cond := .code yX1_slotOf cX1_slotOf 2 (some .int) :: ([.fieldLink RX1 30 "ShadowTable$History" "start" "I"] ++ wsX10)
def wsX5_take_r1 : List Cond := [Cond.fieldLink RX5 12 "ShadowTable$State" "live" "LShadowTable$Rows;", Cond.fieldLink RX5 18 "ShadowTable$State" "old" "LShadowTable$Rows;", Cond.fieldLink RX5 39 "ShadowTable$State" "hasOld" "Z", Cond.fieldLink RX5 24 "ShadowTable$State" "copy" "LShadowTable$Copy;", Cond.fieldLink RX5 28 "ShadowTable$State" "settings" "[I", Cond.methodLink RX5 46 arraycopyName, Cond.native arraycopyName, Cond.static arraycopyName, Cond.initialized "java/lang/System", Cond.fieldLink RX5 32 "ShadowTable$State" "totals" "[I", Cond.methodLink RX5 35 yX3_take, Cond.instanceMethod yX3_take, Cond.selects RX3 yX3_take yX3_take, Cond.initialized RX3, Cond.code yX3_take cX3_take 2 none, Cond.fieldLink RX3 9 "ShadowTable$Rows" "values" "[I", Cond.methodLink RX3 21 arraycopyName, Cond.methodLink RX5 43 yX0_take, Cond.instanceMethod yX0_take, Cond.selects RX0 yX0_take yX0_take, Cond.initialized RX0, Cond.code yX0_take cX0_take 2 none, Cond.fieldLink RX0 12 "ShadowTable$Copy" "shadow" "LShadowTable$Rows;", Cond.fieldLink RX0 21 "ShadowTable$Copy" "log" "LShadowTable$Log;"]
def wsX5_take_r2 : List Cond := [Cond.fieldLink RX0 25 "ShadowTable$Copy" "phase" "I", Cond.fieldLink RX0 33 "ShadowTable$Copy" "kind" "I", Cond.fieldLink RX0 36 "ShadowTable$Copy" "lot" "I", Cond.fieldLink RX0 39 "ShadowTable$Copy" "cursor" "I", Cond.fieldLink RX0 49 "ShadowTable$Copy" "age" "I", Cond.methodLink RX0 42 yX3_take, Cond.methodLink RX0 46 yX2_take, Cond.instanceMethod yX2_take, Cond.selects RX2 yX2_take yX2_take, Cond.initialized RX2, Cond.code yX2_take cX2_take 2 none, Cond.fieldLink RX2 9 "ShadowTable$Log" "keys" "[I", Cond.methodLink RX2 25 arraycopyName, Cond.fieldLink RX2 15 "ShadowTable$Log" "values" "[I", Cond.fieldLink RX2 18 "ShadowTable$Log" "start" "I", Cond.fieldLink RX2 22 "ShadowTable$Log" "size" "I"]
def wsX5_take : List Cond := .code yX5_take cX5_take 2 none :: ((wsX5_take_r1 ++ wsX5_take_r2) ++ wsX50 ++ wsX30 ++ wsX00 ++ wsX20)
def wsX1_prepare_r1 : List Cond := [Cond.fieldLink RX1 13 "ShadowTable$History" "slots" "[LShadowTable$State;", Cond.fieldLink RX1 18 "ShadowTable$History" "count" "I", Cond.methodLink RX1 22 yX1_slotOf, Cond.instanceMethod yX1_slotOf, Cond.selects RX1 yX1_slotOf yX1_slotOf, Cond.initialized RX1, Cond.code yX1_slotOf cX1_slotOf 2 (some .int), Cond.fieldLink RX1 30 "ShadowTable$History" "start" "I", Cond.methodLink RX1 26 yX5_take, Cond.instanceMethod yX5_take, Cond.selects RX5 yX5_take yX5_take, Cond.initialized RX5, Cond.code yX5_take cX5_take 2 none, Cond.fieldLink RX5 12 "ShadowTable$State" "live" "LShadowTable$Rows;", Cond.fieldLink RX5 18 "ShadowTable$State" "old" "LShadowTable$Rows;", Cond.fieldLink RX5 39 "ShadowTable$State" "hasOld" "Z", Cond.fieldLink RX5 24 "ShadowTable$State" "copy" "LShadowTable$Copy;", Cond.fieldLink RX5 28 "ShadowTable$State" "settings" "[I", Cond.methodLink RX5 46 arraycopyName, Cond.native arraycopyName, Cond.static arraycopyName, Cond.initialized "java/lang/System", Cond.fieldLink RX5 32 "ShadowTable$State" "totals" "[I", Cond.methodLink RX5 35 yX3_take]
def wsX1_prepare_r2 : List Cond := [Cond.instanceMethod yX3_take, Cond.selects RX3 yX3_take yX3_take, Cond.initialized RX3, Cond.code yX3_take cX3_take 2 none, Cond.fieldLink RX3 9 "ShadowTable$Rows" "values" "[I", Cond.methodLink RX3 21 arraycopyName, Cond.methodLink RX5 43 yX0_take, Cond.instanceMethod yX0_take, Cond.selects RX0 yX0_take yX0_take, Cond.initialized RX0, Cond.code yX0_take cX0_take 2 none, Cond.fieldLink RX0 12 "ShadowTable$Copy" "shadow" "LShadowTable$Rows;", Cond.fieldLink RX0 21 "ShadowTable$Copy" "log" "LShadowTable$Log;", Cond.fieldLink RX0 25 "ShadowTable$Copy" "phase" "I", Cond.fieldLink RX0 33 "ShadowTable$Copy" "kind" "I", Cond.fieldLink RX0 36 "ShadowTable$Copy" "lot" "I", Cond.fieldLink RX0 39 "ShadowTable$Copy" "cursor" "I", Cond.fieldLink RX0 49 "ShadowTable$Copy" "age" "I", Cond.methodLink RX0 42 yX3_take, Cond.methodLink RX0 46 yX2_take, Cond.instanceMethod yX2_take, Cond.selects RX2 yX2_take yX2_take, Cond.initialized RX2, Cond.code yX2_take cX2_take 2 none]
def wsX1_prepare_r3 : List Cond := [Cond.fieldLink RX2 9 "ShadowTable$Log" "keys" "[I", Cond.methodLink RX2 25 arraycopyName, Cond.fieldLink RX2 15 "ShadowTable$Log" "values" "[I", Cond.fieldLink RX2 18 "ShadowTable$Log" "start" "I", Cond.fieldLink RX2 22 "ShadowTable$Log" "size" "I"]
def wsX1_prepare : List Cond := .code yX1_prepare cX1_prepare 2 none :: ((wsX1_prepare_r1 ++ (wsX1_prepare_r2 ++ wsX1_prepare_r3)) ++ wsX10 ++ wsX50 ++ wsX30 ++ wsX00 ++ wsX20)
def wsX1_keepPrepared : List Cond := .code yX1_keepPrepared cX1_keepPrepared 1 none :: ([.fieldLink RX1 18 "ShadowTable$History" "count" "I", .fieldLink RX1 30 "ShadowTable$History" "start" "I", .methodLink RX1 22 yX1_slotOf, .instanceMethod yX1_slotOf, .selects RX1 yX1_slotOf yX1_slotOf, .initialized RX1, .code yX1_slotOf cX1_slotOf 2 (some .int)] ++ wsX10)
def wsX1_takeBack_r1 : List Cond := [Cond.fieldLink RX1 18 "ShadowTable$History" "count" "I", Cond.fieldLink RX1 13 "ShadowTable$History" "slots" "[LShadowTable$State;", Cond.methodLink RX1 22 yX1_slotOf, Cond.instanceMethod yX1_slotOf, Cond.selects RX1 yX1_slotOf yX1_slotOf, Cond.initialized RX1, Cond.code yX1_slotOf cX1_slotOf 2 (some .int), Cond.fieldLink RX1 30 "ShadowTable$History" "start" "I", Cond.methodLink RX1 26 yX5_take, Cond.instanceMethod yX5_take, Cond.selects RX5 yX5_take yX5_take, Cond.initialized RX5, Cond.code yX5_take cX5_take 2 none, Cond.fieldLink RX5 12 "ShadowTable$State" "live" "LShadowTable$Rows;", Cond.fieldLink RX5 18 "ShadowTable$State" "old" "LShadowTable$Rows;", Cond.fieldLink RX5 39 "ShadowTable$State" "hasOld" "Z", Cond.fieldLink RX5 24 "ShadowTable$State" "copy" "LShadowTable$Copy;", Cond.fieldLink RX5 28 "ShadowTable$State" "settings" "[I", Cond.methodLink RX5 46 arraycopyName, Cond.native arraycopyName, Cond.static arraycopyName, Cond.initialized "java/lang/System", Cond.fieldLink RX5 32 "ShadowTable$State" "totals" "[I", Cond.methodLink RX5 35 yX3_take]
def wsX1_takeBack_r2 : List Cond := [Cond.instanceMethod yX3_take, Cond.selects RX3 yX3_take yX3_take, Cond.initialized RX3, Cond.code yX3_take cX3_take 2 none, Cond.fieldLink RX3 9 "ShadowTable$Rows" "values" "[I", Cond.methodLink RX3 21 arraycopyName, Cond.methodLink RX5 43 yX0_take, Cond.instanceMethod yX0_take, Cond.selects RX0 yX0_take yX0_take, Cond.initialized RX0, Cond.code yX0_take cX0_take 2 none, Cond.fieldLink RX0 12 "ShadowTable$Copy" "shadow" "LShadowTable$Rows;", Cond.fieldLink RX0 21 "ShadowTable$Copy" "log" "LShadowTable$Log;", Cond.fieldLink RX0 25 "ShadowTable$Copy" "phase" "I", Cond.fieldLink RX0 33 "ShadowTable$Copy" "kind" "I", Cond.fieldLink RX0 36 "ShadowTable$Copy" "lot" "I", Cond.fieldLink RX0 39 "ShadowTable$Copy" "cursor" "I", Cond.fieldLink RX0 49 "ShadowTable$Copy" "age" "I", Cond.methodLink RX0 42 yX3_take, Cond.methodLink RX0 46 yX2_take, Cond.instanceMethod yX2_take, Cond.selects RX2 yX2_take yX2_take, Cond.initialized RX2, Cond.code yX2_take cX2_take 2 none]
def wsX1_takeBack_r3 : List Cond := [Cond.fieldLink RX2 9 "ShadowTable$Log" "keys" "[I", Cond.methodLink RX2 25 arraycopyName, Cond.fieldLink RX2 15 "ShadowTable$Log" "values" "[I", Cond.fieldLink RX2 18 "ShadowTable$Log" "start" "I", Cond.fieldLink RX2 22 "ShadowTable$Log" "size" "I"]
def wsX1_takeBack : List Cond := .code yX1_takeBack cX1_takeBack 2 (some .int) :: ((wsX1_takeBack_r1 ++ (wsX1_takeBack_r2 ++ wsX1_takeBack_r3)) ++ wsX10 ++ wsX50 ++ wsX30 ++ wsX00 ++ wsX20)
def wsX2_slotOf : List Cond := .code yX2_slotOf cX2_slotOf 2 (some .int) :: ([.fieldLink RX2 18 "ShadowTable$Log" "start" "I"] ++ wsX20)
def wsX2_add : List Cond := .code yX2_add cX2_add 4 (some .boolean) :: ([.fieldLink RX2 22 "ShadowTable$Log" "size" "I", .fieldLink RX2 9 "ShadowTable$Log" "keys" "[I", .fieldLink RX2 15 "ShadowTable$Log" "values" "[I", .methodLink RX2 31 yX2_slotOf, .instanceMethod yX2_slotOf, .selects RX2 yX2_slotOf yX2_slotOf, .initialized RX2, .code yX2_slotOf cX2_slotOf 2 (some .int), .fieldLink RX2 18 "ShadowTable$Log" "start" "I"] ++ wsX20)
def wsX2_removeFirst : List Cond := .code yX2_removeFirst cX2_removeFirst 1 none :: ([.fieldLink RX2 22 "ShadowTable$Log" "size" "I", .fieldLink RX2 18 "ShadowTable$Log" "start" "I", .methodLink RX2 31 yX2_slotOf, .instanceMethod yX2_slotOf, .selects RX2 yX2_slotOf yX2_slotOf, .initialized RX2, .code yX2_slotOf cX2_slotOf 2 (some .int)] ++ wsX20)
def wsX2_keyAt : List Cond := .code yX2_keyAt cX2_keyAt 2 (some .int) :: ([.fieldLink RX2 22 "ShadowTable$Log" "size" "I", .fieldLink RX2 9 "ShadowTable$Log" "keys" "[I", .methodLink RX2 31 yX2_slotOf, .instanceMethod yX2_slotOf, .selects RX2 yX2_slotOf yX2_slotOf, .initialized RX2, .code yX2_slotOf cX2_slotOf 2 (some .int), .fieldLink RX2 18 "ShadowTable$Log" "start" "I"] ++ wsX20)
def wsX2_valueAt : List Cond := .code yX2_valueAt cX2_valueAt 2 (some .int) :: ([.fieldLink RX2 22 "ShadowTable$Log" "size" "I", .fieldLink RX2 15 "ShadowTable$Log" "values" "[I", .methodLink RX2 31 yX2_slotOf, .instanceMethod yX2_slotOf, .selects RX2 yX2_slotOf yX2_slotOf, .initialized RX2, .code yX2_slotOf cX2_slotOf 2 (some .int), .fieldLink RX2 18 "ShadowTable$Log" "start" "I"] ++ wsX20)
def wsX3_count : List Cond := .code yX3_count cX3_count 3 (some .int) :: ([.fieldLink RX3 9 "ShadowTable$Rows" "values" "[I"] ++ wsX30)
def wsX3_sum : List Cond := .code yX3_sum cX3_sum 3 (some .int) :: ([.fieldLink RX3 9 "ShadowTable$Rows" "values" "[I"] ++ wsX30)
def wsX3_leastKey : List Cond := .code yX3_leastKey cX3_leastKey 2 (some .int) :: ([.fieldLink RX3 9 "ShadowTable$Rows" "values" "[I"] ++ wsX30)
def wsX3_greatestKey : List Cond := .code yX3_greatestKey cX3_greatestKey 2 (some .int) :: ([.fieldLink RX3 9 "ShadowTable$Rows" "values" "[I"] ++ wsX30)
def wsX3_tell : List Cond := .code yX3_tell cX3_tell 2 (some .int) :: ([.methodLink RX3 27 yX3_count, .instanceMethod yX3_count, .selects RX3 yX3_count yX3_count, .initialized RX3, .code yX3_count cX3_count 3 (some .int), .fieldLink RX3 9 "ShadowTable$Rows" "values" "[I", .methodLink RX3 31 yX3_sum, .instanceMethod yX3_sum, .selects RX3 yX3_sum yX3_sum, .code yX3_sum cX3_sum 3 (some .int), .methodLink RX3 34 yX3_leastKey, .instanceMethod yX3_leastKey, .selects RX3 yX3_leastKey yX3_leastKey, .code yX3_leastKey cX3_leastKey 2 (some .int), .methodLink RX3 37 yX3_greatestKey, .instanceMethod yX3_greatestKey, .selects RX3 yX3_greatestKey yX3_greatestKey, .code yX3_greatestKey cX3_greatestKey 2 (some .int)] ++ wsX30)
def wsX4_init : List Cond := .code yX4_init cX4_init 1 none :: ([.methodLink RX4 3 objectInit, .instanceMethod objectInit, .code objectInit ⟨#[0xb1]⟩ 1 none, .arrayClass .int, .fieldLink RX4 9 "ShadowTable$Script" "characters" "[I"] ++ wsX40)
def wsX6_isIn : List Cond := .code yX6_isIn cX6_isIn 3 (some .boolean) :: ([])
def wsX4_appendCharacter : List Cond := .code yX4_appendCharacter cX4_appendCharacter 2 (some .int) :: ([.fieldLink RX4 19 "ShadowTable$Script" "length" "I", .fieldLink RX4 9 "ShadowTable$Script" "characters" "[I", .static yX6_isIn, .initialized RX6, .code yX6_isIn cX6_isIn 3 (some .boolean)] ++ wsX40)
def wsX4_empty : List Cond := .code yX4_empty cX4_empty 2 (some .int) :: ([.fieldLink RX4 19 "ShadowTable$Script" "length" "I"] ++ wsX40)
def wsX4_goToStart : List Cond := .code yX4_goToStart cX4_goToStart 1 none :: ([.fieldLink RX4 23 "ShadowTable$Script" "position" "I"] ++ wsX40)
def wsX4_here : List Cond := .code yX4_here cX4_here 1 (some .int) :: ([.fieldLink RX4 23 "ShadowTable$Script" "position" "I", .fieldLink RX4 19 "ShadowTable$Script" "length" "I", .fieldLink RX4 9 "ShadowTable$Script" "characters" "[I"] ++ wsX40)
def wsX4_digitHere : List Cond := .code yX4_digitHere cX4_digitHere 2 (some .int) :: ([.methodLink RX4 37 yX4_here, .instanceMethod yX4_here, .selects RX4 yX4_here yX4_here, .initialized RX4, .code yX4_here cX4_here 1 (some .int), .fieldLink RX4 23 "ShadowTable$Script" "position" "I", .fieldLink RX4 19 "ShadowTable$Script" "length" "I", .fieldLink RX4 9 "ShadowTable$Script" "characters" "[I", .static yX6_isIn, .initialized RX6, .code yX6_isIn cX6_isIn 3 (some .boolean)] ++ wsX40)
def wsX4_readNumber : List Cond := .code yX4_readNumber cX4_readNumber 4 (some .boolean) :: ([.fieldLink RX4 57 "ShadowTable$Script" "number" "I", .fieldLink RX4 23 "ShadowTable$Script" "position" "I", .methodLink RX4 63 yX4_digitHere, .instanceMethod yX4_digitHere, .selects RX4 yX4_digitHere yX4_digitHere, .initialized RX4, .code yX4_digitHere cX4_digitHere 2 (some .int), .methodLink RX4 37 yX4_here, .instanceMethod yX4_here, .selects RX4 yX4_here yX4_here, .code yX4_here cX4_here 1 (some .int), .fieldLink RX4 19 "ShadowTable$Script" "length" "I", .fieldLink RX4 9 "ShadowTable$Script" "characters" "[I", .static yX6_isIn, .initialized RX6, .code yX6_isIn cX6_isIn 3 (some .boolean)] ++ wsX40)
def wsX4_readFirst : List Cond := .code yX4_readFirst cX4_readFirst 4 (some .boolean) :: ([.fieldLink RX4 57 "ShadowTable$Script" "number" "I", .fieldLink RX4 51 "ShadowTable$Script" "first" "I", .methodLink RX4 54 yX4_readNumber, .instanceMethod yX4_readNumber, .selects RX4 yX4_readNumber yX4_readNumber, .initialized RX4, .code yX4_readNumber cX4_readNumber 4 (some .boolean), .fieldLink RX4 23 "ShadowTable$Script" "position" "I", .methodLink RX4 63 yX4_digitHere, .instanceMethod yX4_digitHere, .selects RX4 yX4_digitHere yX4_digitHere, .code yX4_digitHere cX4_digitHere 2 (some .int), .methodLink RX4 37 yX4_here, .instanceMethod yX4_here, .selects RX4 yX4_here yX4_here, .code yX4_here cX4_here 1 (some .int), .fieldLink RX4 19 "ShadowTable$Script" "length" "I", .fieldLink RX4 9 "ShadowTable$Script" "characters" "[I", .static yX6_isIn, .initialized RX6, .code yX6_isIn cX6_isIn 3 (some .boolean)] ++ wsX40)
def wsX4_skip : List Cond := .code yX4_skip cX4_skip 2 (some .boolean) :: ([.fieldLink RX4 23 "ShadowTable$Script" "position" "I", .methodLink RX4 37 yX4_here, .instanceMethod yX4_here, .selects RX4 yX4_here yX4_here, .initialized RX4, .code yX4_here cX4_here 1 (some .int), .fieldLink RX4 19 "ShadowTable$Script" "length" "I", .fieldLink RX4 9 "ShadowTable$Script" "characters" "[I"] ++ wsX40)
def wsX4_readSecond : List Cond := .code yX4_readSecond cX4_readSecond 4 (some .boolean) :: ([.fieldLink RX4 57 "ShadowTable$Script" "number" "I", .fieldLink RX4 60 "ShadowTable$Script" "second" "I", .methodLink RX4 54 yX4_readNumber, .instanceMethod yX4_readNumber, .selects RX4 yX4_readNumber yX4_readNumber, .initialized RX4, .code yX4_readNumber cX4_readNumber 4 (some .boolean), .fieldLink RX4 23 "ShadowTable$Script" "position" "I", .methodLink RX4 63 yX4_digitHere, .instanceMethod yX4_digitHere, .selects RX4 yX4_digitHere yX4_digitHere, .code yX4_digitHere cX4_digitHere 2 (some .int), .methodLink RX4 37 yX4_here, .instanceMethod yX4_here, .selects RX4 yX4_here yX4_here, .code yX4_here cX4_here 1 (some .int), .fieldLink RX4 19 "ShadowTable$Script" "length" "I", .fieldLink RX4 9 "ShadowTable$Script" "characters" "[I", .static yX6_isIn, .initialized RX6, .code yX6_isIn cX6_isIn 3 (some .boolean)] ++ wsX40)
def wsX4_readOrder_r1 : List Cond := [Cond.fieldLink RX4 41 "ShadowTable$Script" "order" "I", Cond.fieldLink RX4 23 "ShadowTable$Script" "position" "I", Cond.fieldLink RX4 51 "ShadowTable$Script" "first" "I", Cond.methodLink RX4 37 yX4_here, Cond.instanceMethod yX4_here, Cond.selects RX4 yX4_here yX4_here, Cond.initialized RX4, Cond.code yX4_here cX4_here 1 (some .int), Cond.fieldLink RX4 19 "ShadowTable$Script" "length" "I", Cond.fieldLink RX4 9 "ShadowTable$Script" "characters" "[I", Cond.methodLink RX4 44 yX4_readFirst, Cond.instanceMethod yX4_readFirst, Cond.selects RX4 yX4_readFirst yX4_readFirst, Cond.code yX4_readFirst cX4_readFirst 4 (some .boolean), Cond.fieldLink RX4 57 "ShadowTable$Script" "number" "I", Cond.methodLink RX4 54 yX4_readNumber, Cond.instanceMethod yX4_readNumber, Cond.selects RX4 yX4_readNumber yX4_readNumber, Cond.code yX4_readNumber cX4_readNumber 4 (some .boolean), Cond.methodLink RX4 63 yX4_digitHere, Cond.instanceMethod yX4_digitHere, Cond.selects RX4 yX4_digitHere yX4_digitHere, Cond.code yX4_digitHere cX4_digitHere 2 (some .int), Cond.static yX6_isIn]
def wsX4_readOrder_r2 : List Cond := [Cond.initialized RX6, Cond.code yX6_isIn cX6_isIn 3 (some .boolean), Cond.methodLink RX4 33 yX4_skip, Cond.instanceMethod yX4_skip, Cond.selects RX4 yX4_skip yX4_skip, Cond.code yX4_skip cX4_skip 2 (some .boolean), Cond.methodLink RX4 48 yX4_readSecond, Cond.instanceMethod yX4_readSecond, Cond.selects RX4 yX4_readSecond yX4_readSecond, Cond.code yX4_readSecond cX4_readSecond 4 (some .boolean), Cond.fieldLink RX4 60 "ShadowTable$Script" "second" "I"]
def wsX4_readOrder : List Cond := .code yX4_readOrder cX4_readOrder 1 (some .boolean) :: ((wsX4_readOrder_r1 ++ wsX4_readOrder_r2) ++ wsX40)
def wsX4_findFault_r1 : List Cond := [Cond.fieldLink RX4 23 "ShadowTable$Script" "position" "I", Cond.fieldLink RX4 19 "ShadowTable$Script" "length" "I", Cond.methodLink RX4 26 yX4_goToStart, Cond.instanceMethod yX4_goToStart, Cond.selects RX4 yX4_goToStart yX4_goToStart, Cond.initialized RX4, Cond.code yX4_goToStart cX4_goToStart 1 none, Cond.methodLink RX4 29 yX4_readOrder, Cond.instanceMethod yX4_readOrder, Cond.selects RX4 yX4_readOrder yX4_readOrder, Cond.code yX4_readOrder cX4_readOrder 1 (some .boolean), Cond.fieldLink RX4 41 "ShadowTable$Script" "order" "I", Cond.fieldLink RX4 51 "ShadowTable$Script" "first" "I", Cond.methodLink RX4 37 yX4_here, Cond.instanceMethod yX4_here, Cond.selects RX4 yX4_here yX4_here, Cond.code yX4_here cX4_here 1 (some .int), Cond.fieldLink RX4 9 "ShadowTable$Script" "characters" "[I", Cond.methodLink RX4 44 yX4_readFirst, Cond.instanceMethod yX4_readFirst, Cond.selects RX4 yX4_readFirst yX4_readFirst, Cond.code yX4_readFirst cX4_readFirst 4 (some .boolean), Cond.fieldLink RX4 57 "ShadowTable$Script" "number" "I", Cond.methodLink RX4 54 yX4_readNumber]
def wsX4_findFault_r2 : List Cond := [Cond.instanceMethod yX4_readNumber, Cond.selects RX4 yX4_readNumber yX4_readNumber, Cond.code yX4_readNumber cX4_readNumber 4 (some .boolean), Cond.methodLink RX4 63 yX4_digitHere, Cond.instanceMethod yX4_digitHere, Cond.selects RX4 yX4_digitHere yX4_digitHere, Cond.code yX4_digitHere cX4_digitHere 2 (some .int), Cond.static yX6_isIn, Cond.initialized RX6, Cond.code yX6_isIn cX6_isIn 3 (some .boolean), Cond.methodLink RX4 33 yX4_skip, Cond.instanceMethod yX4_skip, Cond.selects RX4 yX4_skip yX4_skip, Cond.code yX4_skip cX4_skip 2 (some .boolean), Cond.methodLink RX4 48 yX4_readSecond, Cond.instanceMethod yX4_readSecond, Cond.selects RX4 yX4_readSecond yX4_readSecond, Cond.code yX4_readSecond cX4_readSecond 4 (some .boolean), Cond.fieldLink RX4 60 "ShadowTable$Script" "second" "I"]
def wsX4_findFault : List Cond := .code yX4_findFault cX4_findFault 2 (some .int) :: ((wsX4_findFault_r1 ++ wsX4_findFault_r2) ++ wsX40)
def wsX6_isKey : List Cond := .code yX6_isKey cX6_isKey 1 (some .boolean) :: ([.methodLink RX6 135 yX6_isIn, .static yX6_isIn, .initialized RX6, .code yX6_isIn cX6_isIn 3 (some .boolean)])
def wsX6_isValue : List Cond := .code yX6_isValue cX6_isValue 1 (some .boolean) :: ([.methodLink RX6 135 yX6_isIn, .static yX6_isIn, .initialized RX6, .code yX6_isIn cX6_isIn 3 (some .boolean)])
def wsX5_hasCopy : List Cond := .code yX5_hasCopy cX5_hasCopy 1 (some .boolean) :: ([.fieldLink RX5 24 "ShadowTable$State" "copy" "LShadowTable$Copy;"] ++ wsX50 ++ wsX00)
def wsX5_endGivenUp : List Cond := .code yX5_endGivenUp cX5_endGivenUp 1 none :: ([.fieldLink RX5 24 "ShadowTable$State" "copy" "LShadowTable$Copy;", .fieldLink RX5 32 "ShadowTable$State" "totals" "[I"] ++ wsX50 ++ wsX00)
def wsX5_changeRow_r1 : List Cond := [Cond.fieldLink RX5 24 "ShadowTable$State" "copy" "LShadowTable$Copy;", Cond.fieldLink RX5 28 "ShadowTable$State" "settings" "[I", Cond.fieldLink RX5 12 "ShadowTable$State" "live" "LShadowTable$Rows;", Cond.methodLink RX5 71 yX5_hasCopy, Cond.instanceMethod yX5_hasCopy, Cond.selects RX5 yX5_hasCopy yX5_hasCopy, Cond.initialized RX5, Cond.code yX5_hasCopy cX5_hasCopy 1 (some .boolean), Cond.methodLink RX5 79 yX2_add, Cond.instanceMethod yX2_add, Cond.selects RX2 yX2_add yX2_add, Cond.initialized RX2, Cond.code yX2_add cX2_add 4 (some .boolean), Cond.fieldLink RX2 22 "ShadowTable$Log" "size" "I", Cond.fieldLink RX2 9 "ShadowTable$Log" "keys" "[I", Cond.fieldLink RX2 15 "ShadowTable$Log" "values" "[I", Cond.methodLink RX2 31 yX2_slotOf, Cond.instanceMethod yX2_slotOf, Cond.selects RX2 yX2_slotOf yX2_slotOf, Cond.code yX2_slotOf cX2_slotOf 2 (some .int), Cond.fieldLink RX2 18 "ShadowTable$Log" "start" "I", Cond.methodLink RX5 85 yX5_endGivenUp, Cond.instanceMethod yX5_endGivenUp, Cond.selects RX5 yX5_endGivenUp yX5_endGivenUp]
def wsX5_changeRow_r2 : List Cond := [Cond.code yX5_endGivenUp cX5_endGivenUp 1 none, Cond.fieldLink RX5 32 "ShadowTable$State" "totals" "[I", Cond.methodLink RX5 67 yX3_at, Cond.instanceMethod yX3_at, Cond.selects RX3 yX3_at yX3_at, Cond.initialized RX3, Cond.code yX3_at cX3_at 2 (some .int), Cond.fieldLink RX3 9 "ShadowTable$Rows" "values" "[I", Cond.methodLink RX5 88 yX3_place, Cond.instanceMethod yX3_place, Cond.selects RX3 yX3_place yX3_place, Cond.code yX3_place cX3_place 3 none]
def wsX5_changeRow : List Cond := .code yX5_changeRow cX5_changeRow 4 (some .int) :: ((wsX5_changeRow_r1 ++ wsX5_changeRow_r2) ++ wsX50 ++ wsX00 ++ wsX20 ++ wsX30)
def wsX5_putRow_r1 : List Cond := [Cond.fieldLink RX5 24 "ShadowTable$State" "copy" "LShadowTable$Copy;", Cond.static yX6_isKey, Cond.initialized RX6, Cond.code yX6_isKey cX6_isKey 1 (some .boolean), Cond.methodLink RX6 135 yX6_isIn, Cond.static yX6_isIn, Cond.code yX6_isIn cX6_isIn 3 (some .boolean), Cond.static yX6_isValue, Cond.code yX6_isValue cX6_isValue 1 (some .boolean), Cond.methodLink RX5 63 yX5_changeRow, Cond.instanceMethod yX5_changeRow, Cond.selects RX5 yX5_changeRow yX5_changeRow, Cond.initialized RX5, Cond.code yX5_changeRow cX5_changeRow 4 (some .int), Cond.fieldLink RX5 28 "ShadowTable$State" "settings" "[I", Cond.fieldLink RX5 12 "ShadowTable$State" "live" "LShadowTable$Rows;", Cond.methodLink RX5 71 yX5_hasCopy, Cond.instanceMethod yX5_hasCopy, Cond.selects RX5 yX5_hasCopy yX5_hasCopy, Cond.code yX5_hasCopy cX5_hasCopy 1 (some .boolean), Cond.methodLink RX5 79 yX2_add, Cond.instanceMethod yX2_add, Cond.selects RX2 yX2_add yX2_add, Cond.initialized RX2]
def wsX5_putRow_r2 : List Cond := [Cond.code yX2_add cX2_add 4 (some .boolean), Cond.fieldLink RX2 22 "ShadowTable$Log" "size" "I", Cond.fieldLink RX2 9 "ShadowTable$Log" "keys" "[I", Cond.fieldLink RX2 15 "ShadowTable$Log" "values" "[I", Cond.methodLink RX2 31 yX2_slotOf, Cond.instanceMethod yX2_slotOf, Cond.selects RX2 yX2_slotOf yX2_slotOf, Cond.code yX2_slotOf cX2_slotOf 2 (some .int), Cond.fieldLink RX2 18 "ShadowTable$Log" "start" "I", Cond.methodLink RX5 85 yX5_endGivenUp, Cond.instanceMethod yX5_endGivenUp, Cond.selects RX5 yX5_endGivenUp yX5_endGivenUp, Cond.code yX5_endGivenUp cX5_endGivenUp 1 none, Cond.fieldLink RX5 32 "ShadowTable$State" "totals" "[I", Cond.methodLink RX5 67 yX3_at, Cond.instanceMethod yX3_at, Cond.selects RX3 yX3_at yX3_at, Cond.initialized RX3, Cond.code yX3_at cX3_at 2 (some .int), Cond.fieldLink RX3 9 "ShadowTable$Rows" "values" "[I", Cond.methodLink RX5 88 yX3_place, Cond.instanceMethod yX3_place, Cond.selects RX3 yX3_place yX3_place, Cond.code yX3_place cX3_place 3 none]
def wsX5_putRow : List Cond := .code yX5_putRow cX5_putRow 3 (some .int) :: ((wsX5_putRow_r1 ++ wsX5_putRow_r2) ++ wsX50 ++ wsX00 ++ wsX20 ++ wsX30)
def wsX5_eraseRow_r1 : List Cond := [Cond.fieldLink RX5 24 "ShadowTable$State" "copy" "LShadowTable$Copy;", Cond.fieldLink RX5 12 "ShadowTable$State" "live" "LShadowTable$Rows;", Cond.static yX6_isKey, Cond.initialized RX6, Cond.code yX6_isKey cX6_isKey 1 (some .boolean), Cond.methodLink RX6 135 yX6_isIn, Cond.static yX6_isIn, Cond.code yX6_isIn cX6_isIn 3 (some .boolean), Cond.methodLink RX5 67 yX3_at, Cond.instanceMethod yX3_at, Cond.selects RX3 yX3_at yX3_at, Cond.initialized RX3, Cond.code yX3_at cX3_at 2 (some .int), Cond.fieldLink RX3 9 "ShadowTable$Rows" "values" "[I", Cond.methodLink RX5 63 yX5_changeRow, Cond.instanceMethod yX5_changeRow, Cond.selects RX5 yX5_changeRow yX5_changeRow, Cond.initialized RX5, Cond.code yX5_changeRow cX5_changeRow 4 (some .int), Cond.fieldLink RX5 28 "ShadowTable$State" "settings" "[I", Cond.methodLink RX5 71 yX5_hasCopy, Cond.instanceMethod yX5_hasCopy, Cond.selects RX5 yX5_hasCopy yX5_hasCopy, Cond.code yX5_hasCopy cX5_hasCopy 1 (some .boolean)]
def wsX5_eraseRow_r2 : List Cond := [Cond.methodLink RX5 79 yX2_add, Cond.instanceMethod yX2_add, Cond.selects RX2 yX2_add yX2_add, Cond.initialized RX2, Cond.code yX2_add cX2_add 4 (some .boolean), Cond.fieldLink RX2 22 "ShadowTable$Log" "size" "I", Cond.fieldLink RX2 9 "ShadowTable$Log" "keys" "[I", Cond.fieldLink RX2 15 "ShadowTable$Log" "values" "[I", Cond.methodLink RX2 31 yX2_slotOf, Cond.instanceMethod yX2_slotOf, Cond.selects RX2 yX2_slotOf yX2_slotOf, Cond.code yX2_slotOf cX2_slotOf 2 (some .int), Cond.fieldLink RX2 18 "ShadowTable$Log" "start" "I", Cond.methodLink RX5 85 yX5_endGivenUp, Cond.instanceMethod yX5_endGivenUp, Cond.selects RX5 yX5_endGivenUp yX5_endGivenUp, Cond.code yX5_endGivenUp cX5_endGivenUp 1 none, Cond.fieldLink RX5 32 "ShadowTable$State" "totals" "[I", Cond.methodLink RX5 88 yX3_place, Cond.instanceMethod yX3_place, Cond.selects RX3 yX3_place yX3_place, Cond.code yX3_place cX3_place 3 none]
def wsX5_eraseRow : List Cond := .code yX5_eraseRow cX5_eraseRow 2 (some .int) :: ((wsX5_eraseRow_r1 ++ wsX5_eraseRow_r2) ++ wsX50 ++ wsX00 ++ wsX30 ++ wsX20)
def wsX6_isKind : List Cond := .code yX6_isKind cX6_isKind 1 (some .boolean) :: ([.methodLink RX6 135 yX6_isIn, .static yX6_isIn, .initialized RX6, .code yX6_isIn cX6_isIn 3 (some .boolean)])
def wsX6_isLot : List Cond := .code yX6_isLot cX6_isLot 1 (some .boolean) :: ([.methodLink RX6 135 yX6_isIn, .static yX6_isIn, .initialized RX6, .code yX6_isIn cX6_isIn 3 (some .boolean)])
def wsX5_beginCopy_r1 : List Cond := [Cond.fieldLink RX5 24 "ShadowTable$State" "copy" "LShadowTable$Copy;", Cond.fieldLink RX5 32 "ShadowTable$State" "totals" "[I", Cond.fieldLink RX5 12 "ShadowTable$State" "live" "LShadowTable$Rows;", Cond.static yX6_isKind, Cond.initialized RX6, Cond.code yX6_isKind cX6_isKind 1 (some .boolean), Cond.methodLink RX6 135 yX6_isIn, Cond.static yX6_isIn, Cond.code yX6_isIn cX6_isIn 3 (some .boolean), Cond.static yX6_isLot, Cond.code yX6_isLot cX6_isLot 1 (some .boolean), Cond.methodLink RX5 71 yX5_hasCopy, Cond.instanceMethod yX5_hasCopy, Cond.selects RX5 yX5_hasCopy yX5_hasCopy, Cond.initialized RX5, Cond.code yX5_hasCopy cX5_hasCopy 1 (some .boolean), Cond.methodLink RX5 98 yX0_start, Cond.instanceMethod yX0_start, Cond.selects RX0 yX0_start yX0_start, Cond.initialized RX0, Cond.code yX0_start cX0_start 3 none, Cond.fieldLink RX0 12 "ShadowTable$Copy" "shadow" "LShadowTable$Rows;", Cond.fieldLink RX0 21 "ShadowTable$Copy" "log" "LShadowTable$Log;", Cond.fieldLink RX0 25 "ShadowTable$Copy" "phase" "I"]
def wsX5_beginCopy_r2 : List Cond := [Cond.fieldLink RX0 33 "ShadowTable$Copy" "kind" "I", Cond.fieldLink RX0 36 "ShadowTable$Copy" "lot" "I", Cond.fieldLink RX0 39 "ShadowTable$Copy" "cursor" "I", Cond.methodLink RX0 29 yX3_removeAll, Cond.instanceMethod yX3_removeAll, Cond.selects RX3 yX3_removeAll yX3_removeAll, Cond.initialized RX3, Cond.code yX3_removeAll cX3_removeAll 1 none, Cond.fieldLink RX3 9 "ShadowTable$Rows" "values" "[I", Cond.methodLink RX3 15 yJ7_fill_53178, Cond.static yJ7_fill_53178, Cond.initialized RJ7, Cond.code yJ7_fill_53178 cJ7_fill_53178 4 none, Cond.methodLink RX0 32 yX2_removeAll, Cond.instanceMethod yX2_removeAll, Cond.selects RX2 yX2_removeAll yX2_removeAll, Cond.initialized RX2, Cond.code yX2_removeAll cX2_removeAll 1 none, Cond.fieldLink RX2 18 "ShadowTable$Log" "start" "I", Cond.fieldLink RX2 22 "ShadowTable$Log" "size" "I", Cond.methodLink RX5 101 yX3_count, Cond.instanceMethod yX3_count, Cond.selects RX3 yX3_count yX3_count, Cond.code yX3_count cX3_count 3 (some .int)]
def wsX5_beginCopy : List Cond := .code yX5_beginCopy cX5_beginCopy 3 (some .int) :: ((wsX5_beginCopy_r1 ++ wsX5_beginCopy_r2) ++ wsX50 ++ wsX00 ++ wsX30 ++ wsX20)
def wsX6_isTicks : List Cond := .code yX6_isTicks cX6_isTicks 1 (some .boolean) :: ([.methodLink RX6 135 yX6_isIn, .static yX6_isIn, .initialized RX6, .code yX6_isIn cX6_isIn 3 (some .boolean)])
def wsX5_lockRunsOut : List Cond := .code yX5_lockRunsOut cX5_lockRunsOut 1 (some .boolean) :: ([.fieldLink RX5 24 "ShadowTable$State" "copy" "LShadowTable$Copy;", .fieldLink RX5 28 "ShadowTable$State" "settings" "[I", .fieldLink RX5 32 "ShadowTable$State" "totals" "[I"] ++ wsX50 ++ wsX00)
def wsX5_applyEntries_r1 : List Cond := [Cond.fieldLink RX5 24 "ShadowTable$State" "copy" "LShadowTable$Copy;", Cond.fieldLink RX5 28 "ShadowTable$State" "settings" "[I", Cond.fieldLink RX5 32 "ShadowTable$State" "totals" "[I", Cond.methodLink RX5 126 yX2_keyAt, Cond.instanceMethod yX2_keyAt, Cond.selects RX2 yX2_keyAt yX2_keyAt, Cond.initialized RX2, Cond.code yX2_keyAt cX2_keyAt 2 (some .int), Cond.fieldLink RX2 22 "ShadowTable$Log" "size" "I", Cond.fieldLink RX2 9 "ShadowTable$Log" "keys" "[I", Cond.methodLink RX2 31 yX2_slotOf, Cond.instanceMethod yX2_slotOf, Cond.selects RX2 yX2_slotOf yX2_slotOf, Cond.code yX2_slotOf cX2_slotOf 2 (some .int), Cond.fieldLink RX2 18 "ShadowTable$Log" "start" "I", Cond.methodLink RX5 135 yX2_valueAt, Cond.instanceMethod yX2_valueAt, Cond.selects RX2 yX2_valueAt yX2_valueAt, Cond.code yX2_valueAt cX2_valueAt 2 (some .int), Cond.fieldLink RX2 15 "ShadowTable$Log" "values" "[I", Cond.static yX6_changedValue, Cond.initialized RX6, Cond.code yX6_changedValue cX6_changedValue 3 (some .int), Cond.methodLink RX5 88 yX3_place]
def wsX5_applyEntries_r2 : List Cond := [Cond.instanceMethod yX3_place, Cond.selects RX3 yX3_place yX3_place, Cond.initialized RX3, Cond.code yX3_place cX3_place 3 none, Cond.fieldLink RX3 9 "ShadowTable$Rows" "values" "[I", Cond.methodLink RX5 142 yX2_removeFirst, Cond.instanceMethod yX2_removeFirst, Cond.selects RX2 yX2_removeFirst yX2_removeFirst, Cond.code yX2_removeFirst cX2_removeFirst 1 none]
def wsX5_applyEntries : List Cond := .code yX5_applyEntries cX5_applyEntries 4 none :: ((wsX5_applyEntries_r1 ++ wsX5_applyEntries_r2) ++ wsX50 ++ wsX00 ++ wsX20 ++ wsX30)
def wsX5_copyLot_r1 : List Cond := [Cond.fieldLink RX5 24 "ShadowTable$State" "copy" "LShadowTable$Copy;", Cond.fieldLink RX5 28 "ShadowTable$State" "settings" "[I", Cond.fieldLink RX5 32 "ShadowTable$State" "totals" "[I", Cond.fieldLink RX5 12 "ShadowTable$State" "live" "LShadowTable$Rows;", Cond.methodLink RX5 67 yX3_at, Cond.instanceMethod yX3_at, Cond.selects RX3 yX3_at yX3_at, Cond.initialized RX3, Cond.code yX3_at cX3_at 2 (some .int), Cond.fieldLink RX3 9 "ShadowTable$Rows" "values" "[I", Cond.methodLink RX5 151 yX0_copyKey, Cond.instanceMethod yX0_copyKey, Cond.selects RX0 yX0_copyKey yX0_copyKey, Cond.initialized RX0, Cond.code yX0_copyKey cX0_copyKey 4 (some .boolean), Cond.fieldLink RX0 39 "ShadowTable$Copy" "cursor" "I", Cond.fieldLink RX0 33 "ShadowTable$Copy" "kind" "I", Cond.fieldLink RX0 12 "ShadowTable$Copy" "shadow" "LShadowTable$Rows;", Cond.static yX6_changedValue, Cond.initialized RX6, Cond.code yX6_changedValue cX6_changedValue 3 (some .int), Cond.methodLink RX0 56 yX3_at, Cond.methodLink RX0 60 yX3_place, Cond.instanceMethod yX3_place]
def wsX5_copyLot_r2 : List Cond := [Cond.selects RX3 yX3_place yX3_place, Cond.code yX3_place cX3_place 3 none]
def wsX5_copyLot : List Cond := .code yX5_copyLot cX5_copyLot 3 none :: ((wsX5_copyLot_r1 ++ wsX5_copyLot_r2) ++ wsX50 ++ wsX00 ++ wsX20 ++ wsX30)
def wsX5_makeTick_r1 : List Cond := [Cond.fieldLink RX5 32 "ShadowTable$State" "totals" "[I", Cond.fieldLink RX5 24 "ShadowTable$State" "copy" "LShadowTable$Copy;", Cond.methodLink RX5 71 yX5_hasCopy, Cond.instanceMethod yX5_hasCopy, Cond.selects RX5 yX5_hasCopy yX5_hasCopy, Cond.initialized RX5, Cond.code yX5_hasCopy cX5_hasCopy 1 (some .boolean), Cond.methodLink RX5 111 yX5_lockRunsOut, Cond.instanceMethod yX5_lockRunsOut, Cond.selects RX5 yX5_lockRunsOut yX5_lockRunsOut, Cond.code yX5_lockRunsOut cX5_lockRunsOut 1 (some .boolean), Cond.fieldLink RX5 28 "ShadowTable$State" "settings" "[I", Cond.methodLink RX5 114 yX5_applyEntries, Cond.instanceMethod yX5_applyEntries, Cond.selects RX5 yX5_applyEntries yX5_applyEntries, Cond.code yX5_applyEntries cX5_applyEntries 4 none, Cond.methodLink RX5 126 yX2_keyAt, Cond.instanceMethod yX2_keyAt, Cond.selects RX2 yX2_keyAt yX2_keyAt, Cond.initialized RX2, Cond.code yX2_keyAt cX2_keyAt 2 (some .int), Cond.fieldLink RX2 22 "ShadowTable$Log" "size" "I", Cond.fieldLink RX2 9 "ShadowTable$Log" "keys" "[I", Cond.methodLink RX2 31 yX2_slotOf]
def wsX5_makeTick_r2 : List Cond := [Cond.instanceMethod yX2_slotOf, Cond.selects RX2 yX2_slotOf yX2_slotOf, Cond.code yX2_slotOf cX2_slotOf 2 (some .int), Cond.fieldLink RX2 18 "ShadowTable$Log" "start" "I", Cond.methodLink RX5 135 yX2_valueAt, Cond.instanceMethod yX2_valueAt, Cond.selects RX2 yX2_valueAt yX2_valueAt, Cond.code yX2_valueAt cX2_valueAt 2 (some .int), Cond.fieldLink RX2 15 "ShadowTable$Log" "values" "[I", Cond.static yX6_changedValue, Cond.initialized RX6, Cond.code yX6_changedValue cX6_changedValue 3 (some .int), Cond.methodLink RX5 88 yX3_place, Cond.instanceMethod yX3_place, Cond.selects RX3 yX3_place yX3_place, Cond.initialized RX3, Cond.code yX3_place cX3_place 3 none, Cond.fieldLink RX3 9 "ShadowTable$Rows" "values" "[I", Cond.methodLink RX5 142 yX2_removeFirst, Cond.instanceMethod yX2_removeFirst, Cond.selects RX2 yX2_removeFirst yX2_removeFirst, Cond.code yX2_removeFirst cX2_removeFirst 1 none, Cond.methodLink RX5 117 yX5_copyLot, Cond.instanceMethod yX5_copyLot]
def wsX5_makeTick_r3 : List Cond := [Cond.selects RX5 yX5_copyLot yX5_copyLot, Cond.code yX5_copyLot cX5_copyLot 3 none, Cond.fieldLink RX5 12 "ShadowTable$State" "live" "LShadowTable$Rows;", Cond.methodLink RX5 67 yX3_at, Cond.instanceMethod yX3_at, Cond.selects RX3 yX3_at yX3_at, Cond.code yX3_at cX3_at 2 (some .int), Cond.methodLink RX5 151 yX0_copyKey, Cond.instanceMethod yX0_copyKey, Cond.selects RX0 yX0_copyKey yX0_copyKey, Cond.initialized RX0, Cond.code yX0_copyKey cX0_copyKey 4 (some .boolean), Cond.fieldLink RX0 39 "ShadowTable$Copy" "cursor" "I", Cond.fieldLink RX0 33 "ShadowTable$Copy" "kind" "I", Cond.fieldLink RX0 12 "ShadowTable$Copy" "shadow" "LShadowTable$Rows;", Cond.methodLink RX0 56 yX3_at, Cond.methodLink RX0 60 yX3_place]
def wsX5_makeTick : List Cond := .code yX5_makeTick cX5_makeTick 1 none :: ((wsX5_makeTick_r1 ++ (wsX5_makeTick_r2 ++ wsX5_makeTick_r3)) ++ wsX50 ++ wsX00 ++ wsX20 ++ wsX30)
def wsX5_makeTicks_r1 : List Cond := [Cond.fieldLink RX5 24 "ShadowTable$State" "copy" "LShadowTable$Copy;", Cond.static yX6_isTicks, Cond.initialized RX6, Cond.code yX6_isTicks cX6_isTicks 1 (some .boolean), Cond.methodLink RX6 135 yX6_isIn, Cond.static yX6_isIn, Cond.code yX6_isIn cX6_isIn 3 (some .boolean), Cond.methodLink RX5 108 yX5_makeTick, Cond.instanceMethod yX5_makeTick, Cond.selects RX5 yX5_makeTick yX5_makeTick, Cond.initialized RX5, Cond.code yX5_makeTick cX5_makeTick 1 none, Cond.fieldLink RX5 32 "ShadowTable$State" "totals" "[I", Cond.methodLink RX5 71 yX5_hasCopy, Cond.instanceMethod yX5_hasCopy, Cond.selects RX5 yX5_hasCopy yX5_hasCopy, Cond.code yX5_hasCopy cX5_hasCopy 1 (some .boolean), Cond.methodLink RX5 111 yX5_lockRunsOut, Cond.instanceMethod yX5_lockRunsOut, Cond.selects RX5 yX5_lockRunsOut yX5_lockRunsOut, Cond.code yX5_lockRunsOut cX5_lockRunsOut 1 (some .boolean), Cond.fieldLink RX5 28 "ShadowTable$State" "settings" "[I", Cond.methodLink RX5 114 yX5_applyEntries, Cond.instanceMethod yX5_applyEntries]
def wsX5_makeTicks_r2 : List Cond := [Cond.selects RX5 yX5_applyEntries yX5_applyEntries, Cond.code yX5_applyEntries cX5_applyEntries 4 none, Cond.methodLink RX5 126 yX2_keyAt, Cond.instanceMethod yX2_keyAt, Cond.selects RX2 yX2_keyAt yX2_keyAt, Cond.initialized RX2, Cond.code yX2_keyAt cX2_keyAt 2 (some .int), Cond.fieldLink RX2 22 "ShadowTable$Log" "size" "I", Cond.fieldLink RX2 9 "ShadowTable$Log" "keys" "[I", Cond.methodLink RX2 31 yX2_slotOf, Cond.instanceMethod yX2_slotOf, Cond.selects RX2 yX2_slotOf yX2_slotOf, Cond.code yX2_slotOf cX2_slotOf 2 (some .int), Cond.fieldLink RX2 18 "ShadowTable$Log" "start" "I", Cond.methodLink RX5 135 yX2_valueAt, Cond.instanceMethod yX2_valueAt, Cond.selects RX2 yX2_valueAt yX2_valueAt, Cond.code yX2_valueAt cX2_valueAt 2 (some .int), Cond.fieldLink RX2 15 "ShadowTable$Log" "values" "[I", Cond.static yX6_changedValue, Cond.code yX6_changedValue cX6_changedValue 3 (some .int), Cond.methodLink RX5 88 yX3_place, Cond.instanceMethod yX3_place, Cond.selects RX3 yX3_place yX3_place]
def wsX5_makeTicks_r3 : List Cond := [Cond.initialized RX3, Cond.code yX3_place cX3_place 3 none, Cond.fieldLink RX3 9 "ShadowTable$Rows" "values" "[I", Cond.methodLink RX5 142 yX2_removeFirst, Cond.instanceMethod yX2_removeFirst, Cond.selects RX2 yX2_removeFirst yX2_removeFirst, Cond.code yX2_removeFirst cX2_removeFirst 1 none, Cond.methodLink RX5 117 yX5_copyLot, Cond.instanceMethod yX5_copyLot, Cond.selects RX5 yX5_copyLot yX5_copyLot, Cond.code yX5_copyLot cX5_copyLot 3 none, Cond.fieldLink RX5 12 "ShadowTable$State" "live" "LShadowTable$Rows;", Cond.methodLink RX5 67 yX3_at, Cond.instanceMethod yX3_at, Cond.selects RX3 yX3_at yX3_at, Cond.code yX3_at cX3_at 2 (some .int), Cond.methodLink RX5 151 yX0_copyKey, Cond.instanceMethod yX0_copyKey, Cond.selects RX0 yX0_copyKey yX0_copyKey, Cond.initialized RX0, Cond.code yX0_copyKey cX0_copyKey 4 (some .boolean), Cond.fieldLink RX0 39 "ShadowTable$Copy" "cursor" "I", Cond.fieldLink RX0 33 "ShadowTable$Copy" "kind" "I", Cond.fieldLink RX0 12 "ShadowTable$Copy" "shadow" "LShadowTable$Rows;"]
def wsX5_makeTicks_r4 : List Cond := [Cond.methodLink RX0 56 yX3_at, Cond.methodLink RX0 60 yX3_place]
def wsX5_makeTicks : List Cond := .code yX5_makeTicks cX5_makeTicks 3 (some .int) :: ((wsX5_makeTicks_r1 ++ (wsX5_makeTicks_r2 ++ (wsX5_makeTicks_r3 ++ wsX5_makeTicks_r4))) ++ wsX50 ++ wsX00 ++ wsX20 ++ wsX30)
def wsX5_lockLive : List Cond := .code yX5_lockLive cX5_lockLive 1 (some .int) :: ([.fieldLink RX5 24 "ShadowTable$State" "copy" "LShadowTable$Copy;"] ++ wsX50 ++ wsX00 ++ wsX20)
def wsX5_unlockLive : List Cond := .code yX5_unlockLive cX5_unlockLive 1 (some .int) :: ([.fieldLink RX5 24 "ShadowTable$State" "copy" "LShadowTable$Copy;"] ++ wsX50 ++ wsX00)
def wsX5_swapTables : List Cond := .code yX5_swapTables cX5_swapTables 1 (some .int) :: ([.fieldLink RX5 24 "ShadowTable$State" "copy" "LShadowTable$Copy;", .fieldLink RX5 18 "ShadowTable$State" "old" "LShadowTable$Rows;", .fieldLink RX5 12 "ShadowTable$State" "live" "LShadowTable$Rows;", .fieldLink RX5 39 "ShadowTable$State" "hasOld" "Z", .fieldLink RX5 32 "ShadowTable$State" "totals" "[I", .methodLink RX5 35 yX3_take, .instanceMethod yX3_take, .selects RX3 yX3_take yX3_take, .initialized RX3, .code yX3_take cX3_take 2 none, .fieldLink RX3 9 "ShadowTable$Rows" "values" "[I", .methodLink RX3 21 arraycopyName, .native arraycopyName, .static arraycopyName, .initialized "java/lang/System", .methodLink RX5 101 yX3_count, .instanceMethod yX3_count, .selects RX3 yX3_count yX3_count, .code yX3_count cX3_count 3 (some .int)] ++ wsX50 ++ wsX00 ++ wsX20 ++ wsX30)
def wsX5_giveCopyUp : List Cond := .code yX5_giveCopyUp cX5_giveCopyUp 1 (some .int) :: ([.fieldLink RX5 24 "ShadowTable$State" "copy" "LShadowTable$Copy;", .methodLink RX5 71 yX5_hasCopy, .instanceMethod yX5_hasCopy, .selects RX5 yX5_hasCopy yX5_hasCopy, .initialized RX5, .code yX5_hasCopy cX5_hasCopy 1 (some .boolean), .methodLink RX5 85 yX5_endGivenUp, .instanceMethod yX5_endGivenUp, .selects RX5 yX5_endGivenUp yX5_endGivenUp, .code yX5_endGivenUp cX5_endGivenUp 1 none, .fieldLink RX5 32 "ShadowTable$State" "totals" "[I", .methodLink RX5 101 yX3_count, .instanceMethod yX3_count, .selects RX3 yX3_count yX3_count, .initialized RX3, .code yX3_count cX3_count 3 (some .int), .fieldLink RX3 9 "ShadowTable$Rows" "values" "[I"] ++ wsX50 ++ wsX00 ++ wsX30)
def wsX6_isSetting : List Cond := .code yX6_isSetting cX6_isSetting 1 (some .boolean) :: ([.methodLink RX6 135 yX6_isIn, .static yX6_isIn, .initialized RX6, .code yX6_isIn cX6_isIn 3 (some .boolean)])
def wsX5_changeSetting : List Cond := .code yX5_changeSetting cX5_changeSetting 4 (some .int) :: ([.fieldLink RX5 28 "ShadowTable$State" "settings" "[I", .static yX6_isSetting, .initialized RX6, .code yX6_isSetting cX6_isSetting 1 (some .boolean), .methodLink RX6 135 yX6_isIn, .static yX6_isIn, .code yX6_isIn cX6_isIn 3 (some .boolean)] ++ wsX50)
def wsX5_rowsOf : List Cond := .code yX5_rowsOf cX5_rowsOf 2 (some (.object "ShadowTable$Rows")) :: ([.fieldLink RX5 12 "ShadowTable$State" "live" "LShadowTable$Rows;", .fieldLink RX5 24 "ShadowTable$State" "copy" "LShadowTable$Copy;", .fieldLink RX5 39 "ShadowTable$State" "hasOld" "Z", .fieldLink RX5 18 "ShadowTable$State" "old" "LShadowTable$Rows;", .methodLink RX5 71 yX5_hasCopy, .instanceMethod yX5_hasCopy, .selects RX5 yX5_hasCopy yX5_hasCopy, .initialized RX5, .code yX5_hasCopy cX5_hasCopy 1 (some .boolean)] ++ wsX50 ++ wsX00)
def wsX5_differsAt : List Cond := .code yX5_differsAt cX5_differsAt 2 (some .boolean) :: ([.fieldLink RX5 24 "ShadowTable$State" "copy" "LShadowTable$Copy;", .fieldLink RX5 12 "ShadowTable$State" "live" "LShadowTable$Rows;", .methodLink RX5 67 yX3_at, .instanceMethod yX3_at, .selects RX3 yX3_at yX3_at, .initialized RX3, .code yX3_at cX3_at 2 (some .int), .fieldLink RX3 9 "ShadowTable$Rows" "values" "[I", .static yX6_changedValue, .initialized RX6, .code yX6_changedValue cX6_changedValue 3 (some .int)] ++ wsX50 ++ wsX00 ++ wsX30)
def wsX5_canBecomeReady : List Cond := .code yX5_canBecomeReady cX5_canBecomeReady 1 (some .boolean) :: ([.fieldLink RX5 24 "ShadowTable$State" "copy" "LShadowTable$Copy;"] ++ wsX50 ++ wsX00)
def wsX5_ticksUntilReady_r1 : List Cond := [Cond.fieldLink RX5 24 "ShadowTable$State" "copy" "LShadowTable$Copy;", Cond.methodLink RX5 108 yX5_makeTick, Cond.instanceMethod yX5_makeTick, Cond.selects RX5 yX5_makeTick yX5_makeTick, Cond.initialized RX5, Cond.code yX5_makeTick cX5_makeTick 1 none, Cond.fieldLink RX5 32 "ShadowTable$State" "totals" "[I", Cond.methodLink RX5 71 yX5_hasCopy, Cond.instanceMethod yX5_hasCopy, Cond.selects RX5 yX5_hasCopy yX5_hasCopy, Cond.code yX5_hasCopy cX5_hasCopy 1 (some .boolean), Cond.methodLink RX5 111 yX5_lockRunsOut, Cond.instanceMethod yX5_lockRunsOut, Cond.selects RX5 yX5_lockRunsOut yX5_lockRunsOut, Cond.code yX5_lockRunsOut cX5_lockRunsOut 1 (some .boolean), Cond.fieldLink RX5 28 "ShadowTable$State" "settings" "[I", Cond.methodLink RX5 114 yX5_applyEntries, Cond.instanceMethod yX5_applyEntries, Cond.selects RX5 yX5_applyEntries yX5_applyEntries, Cond.code yX5_applyEntries cX5_applyEntries 4 none, Cond.methodLink RX5 126 yX2_keyAt, Cond.instanceMethod yX2_keyAt, Cond.selects RX2 yX2_keyAt yX2_keyAt, Cond.initialized RX2]
def wsX5_ticksUntilReady_r2 : List Cond := [Cond.code yX2_keyAt cX2_keyAt 2 (some .int), Cond.fieldLink RX2 22 "ShadowTable$Log" "size" "I", Cond.fieldLink RX2 9 "ShadowTable$Log" "keys" "[I", Cond.methodLink RX2 31 yX2_slotOf, Cond.instanceMethod yX2_slotOf, Cond.selects RX2 yX2_slotOf yX2_slotOf, Cond.code yX2_slotOf cX2_slotOf 2 (some .int), Cond.fieldLink RX2 18 "ShadowTable$Log" "start" "I", Cond.methodLink RX5 135 yX2_valueAt, Cond.instanceMethod yX2_valueAt, Cond.selects RX2 yX2_valueAt yX2_valueAt, Cond.code yX2_valueAt cX2_valueAt 2 (some .int), Cond.fieldLink RX2 15 "ShadowTable$Log" "values" "[I", Cond.static yX6_changedValue, Cond.initialized RX6, Cond.code yX6_changedValue cX6_changedValue 3 (some .int), Cond.methodLink RX5 88 yX3_place, Cond.instanceMethod yX3_place, Cond.selects RX3 yX3_place yX3_place, Cond.initialized RX3, Cond.code yX3_place cX3_place 3 none, Cond.fieldLink RX3 9 "ShadowTable$Rows" "values" "[I", Cond.methodLink RX5 142 yX2_removeFirst, Cond.instanceMethod yX2_removeFirst]
def wsX5_ticksUntilReady_r3 : List Cond := [Cond.selects RX2 yX2_removeFirst yX2_removeFirst, Cond.code yX2_removeFirst cX2_removeFirst 1 none, Cond.methodLink RX5 117 yX5_copyLot, Cond.instanceMethod yX5_copyLot, Cond.selects RX5 yX5_copyLot yX5_copyLot, Cond.code yX5_copyLot cX5_copyLot 3 none, Cond.fieldLink RX5 12 "ShadowTable$State" "live" "LShadowTable$Rows;", Cond.methodLink RX5 67 yX3_at, Cond.instanceMethod yX3_at, Cond.selects RX3 yX3_at yX3_at, Cond.code yX3_at cX3_at 2 (some .int), Cond.methodLink RX5 151 yX0_copyKey, Cond.instanceMethod yX0_copyKey, Cond.selects RX0 yX0_copyKey yX0_copyKey, Cond.initialized RX0, Cond.code yX0_copyKey cX0_copyKey 4 (some .boolean), Cond.fieldLink RX0 39 "ShadowTable$Copy" "cursor" "I", Cond.fieldLink RX0 33 "ShadowTable$Copy" "kind" "I", Cond.fieldLink RX0 12 "ShadowTable$Copy" "shadow" "LShadowTable$Rows;", Cond.methodLink RX0 56 yX3_at, Cond.methodLink RX0 60 yX3_place]
def wsX5_ticksUntilReady : List Cond := .code yX5_ticksUntilReady cX5_ticksUntilReady 3 (some .int) :: ((wsX5_ticksUntilReady_r1 ++ (wsX5_ticksUntilReady_r2 ++ wsX5_ticksUntilReady_r3)) ++ wsX50 ++ wsX00 ++ wsX20 ++ wsX30)
def wsX6_init_r1 : List Cond := [Cond.methodLink RX6 1 objectInit, Cond.instanceMethod objectInit, Cond.code objectInit ⟨#[0xb1]⟩ 1 none, Cond.classLink RX6 7 RX5, Cond.instantiable RX5 6, Cond.initialized RX5, Cond.fieldLink RX6 10 "ShadowTable" "state" "LShadowTable$State;", Cond.fieldLink RX6 16 "ShadowTable" "snapshot" "LShadowTable$State;", Cond.fieldLink RX6 19 "ShadowTable" "trial" "LShadowTable$State;", Cond.classLink RX6 22 RX1, Cond.instantiable RX1 3, Cond.initialized RX1, Cond.fieldLink RX6 25 "ShadowTable" "history" "LShadowTable$History;", Cond.classLink RX6 29 RX4, Cond.instantiable RX4 7, Cond.initialized RX4, Cond.fieldLink RX6 32 "ShadowTable" "script" "LShadowTable$Script;", Cond.instanceMethod yX5_init, Cond.code yX5_init cX5_init 1 none, Cond.methodLink RX5 3 objectInit, Cond.classLink RX5 9 RX3, Cond.instantiable RX3 1, Cond.initialized RX3, Cond.fieldLink RX5 12 "ShadowTable$State" "live" "LShadowTable$Rows;"]
def wsX6_init_r2 : List Cond := [Cond.fieldLink RX5 18 "ShadowTable$State" "old" "LShadowTable$Rows;", Cond.classLink RX5 21 RX0, Cond.instantiable RX0 7, Cond.initialized RX0, Cond.fieldLink RX5 24 "ShadowTable$State" "copy" "LShadowTable$Copy;", Cond.arrayClass .int, Cond.fieldLink RX5 28 "ShadowTable$State" "settings" "[I", Cond.fieldLink RX5 32 "ShadowTable$State" "totals" "[I", Cond.methodLink RX5 11 yX3_init, Cond.instanceMethod yX3_init, Cond.code yX3_init cX3_init 1 none, Cond.methodLink RX3 3 objectInit, Cond.fieldLink RX3 9 "ShadowTable$Rows" "values" "[I", Cond.methodLink RX3 15 yJ7_fill_53178, Cond.static yJ7_fill_53178, Cond.initialized RJ7, Cond.code yJ7_fill_53178 cJ7_fill_53178 4 none, Cond.instanceMethod yX0_init, Cond.code yX0_init cX0_init 1 none, Cond.methodLink RX0 3 objectInit, Cond.classLink RX0 9 RX3, Cond.fieldLink RX0 12 "ShadowTable$Copy" "shadow" "LShadowTable$Rows;", Cond.classLink RX0 18 RX2, Cond.instantiable RX2 4]
def wsX6_init_r3 : List Cond := [Cond.initialized RX2, Cond.fieldLink RX0 21 "ShadowTable$Copy" "log" "LShadowTable$Log;", Cond.fieldLink RX0 25 "ShadowTable$Copy" "phase" "I", Cond.methodLink RX0 11 yX3_init, Cond.instanceMethod yX2_init, Cond.code yX2_init cX2_init 1 none, Cond.methodLink RX2 3 objectInit, Cond.fieldLink RX2 9 "ShadowTable$Log" "keys" "[I", Cond.fieldLink RX2 15 "ShadowTable$Log" "values" "[I", Cond.methodLink RX6 24 yX1_init, Cond.instanceMethod yX1_init, Cond.code yX1_init cX1_init 2 none, Cond.methodLink RX1 3 objectInit, Cond.classLink RX1 11 RX5, Cond.fieldLink RX1 13 "ShadowTable$History" "slots" "[LShadowTable$State;", Cond.instanceMethod yX4_init, Cond.code yX4_init cX4_init 1 none, Cond.methodLink RX4 3 objectInit, Cond.fieldLink RX4 9 "ShadowTable$Script" "characters" "[I"]
def wsX6_init : List Cond := .code yX6_init cX6_init 1 none :: ((wsX6_init_r1 ++ (wsX6_init_r2 ++ wsX6_init_r3)) ++ wsX50 ++ wsX60 ++ wsX10 ++ wsX40 ++ wsX30 ++ wsX00 ++ wsX20)
def wsX6_isError : List Cond := .code yX6_isError cX6_isError 1 (some .boolean) :: ([])
def wsX6_recorded : List Cond := .code yX6_recorded cX6_recorded 2 (some .int) :: ([.fieldLink RX6 25 "ShadowTable" "history" "LShadowTable$History;", .methodLink RX6 95 yX6_isError, .static yX6_isError, .initialized RX6, .code yX6_isError cX6_isError 1 (some .boolean), .methodLink RX6 82 yX1_keepPrepared, .instanceMethod yX1_keepPrepared, .selects RX1 yX1_keepPrepared yX1_keepPrepared, .initialized RX1, .code yX1_keepPrepared cX1_keepPrepared 1 none, .fieldLink RX1 18 "ShadowTable$History" "count" "I", .fieldLink RX1 30 "ShadowTable$History" "start" "I", .methodLink RX1 22 yX1_slotOf, .instanceMethod yX1_slotOf, .selects RX1 yX1_slotOf yX1_slotOf, .code yX1_slotOf cX1_slotOf 2 (some .int)] ++ wsX60 ++ wsX10)
def wsX6_put_r1 : List Cond := [Cond.fieldLink RX6 25 "ShadowTable" "history" "LShadowTable$History;", Cond.fieldLink RX6 10 "ShadowTable" "state" "LShadowTable$State;", Cond.methodLink RX6 36 yX1_prepare, Cond.instanceMethod yX1_prepare, Cond.selects RX1 yX1_prepare yX1_prepare, Cond.initialized RX1, Cond.code yX1_prepare cX1_prepare 2 none, Cond.fieldLink RX1 13 "ShadowTable$History" "slots" "[LShadowTable$State;", Cond.fieldLink RX1 18 "ShadowTable$History" "count" "I", Cond.methodLink RX1 22 yX1_slotOf, Cond.instanceMethod yX1_slotOf, Cond.selects RX1 yX1_slotOf yX1_slotOf, Cond.code yX1_slotOf cX1_slotOf 2 (some .int), Cond.fieldLink RX1 30 "ShadowTable$History" "start" "I", Cond.methodLink RX1 26 yX5_take, Cond.instanceMethod yX5_take, Cond.selects RX5 yX5_take yX5_take, Cond.initialized RX5, Cond.code yX5_take cX5_take 2 none, Cond.fieldLink RX5 12 "ShadowTable$State" "live" "LShadowTable$Rows;", Cond.fieldLink RX5 18 "ShadowTable$State" "old" "LShadowTable$Rows;", Cond.fieldLink RX5 39 "ShadowTable$State" "hasOld" "Z", Cond.fieldLink RX5 24 "ShadowTable$State" "copy" "LShadowTable$Copy;", Cond.fieldLink RX5 28 "ShadowTable$State" "settings" "[I"]
def wsX6_put_r2 : List Cond := [Cond.methodLink RX5 46 arraycopyName, Cond.native arraycopyName, Cond.static arraycopyName, Cond.initialized "java/lang/System", Cond.fieldLink RX5 32 "ShadowTable$State" "totals" "[I", Cond.methodLink RX5 35 yX3_take, Cond.instanceMethod yX3_take, Cond.selects RX3 yX3_take yX3_take, Cond.initialized RX3, Cond.code yX3_take cX3_take 2 none, Cond.fieldLink RX3 9 "ShadowTable$Rows" "values" "[I", Cond.methodLink RX3 21 arraycopyName, Cond.methodLink RX5 43 yX0_take, Cond.instanceMethod yX0_take, Cond.selects RX0 yX0_take yX0_take, Cond.initialized RX0, Cond.code yX0_take cX0_take 2 none, Cond.fieldLink RX0 12 "ShadowTable$Copy" "shadow" "LShadowTable$Rows;", Cond.fieldLink RX0 21 "ShadowTable$Copy" "log" "LShadowTable$Log;", Cond.fieldLink RX0 25 "ShadowTable$Copy" "phase" "I", Cond.fieldLink RX0 33 "ShadowTable$Copy" "kind" "I", Cond.fieldLink RX0 36 "ShadowTable$Copy" "lot" "I", Cond.fieldLink RX0 39 "ShadowTable$Copy" "cursor" "I", Cond.fieldLink RX0 49 "ShadowTable$Copy" "age" "I"]
def wsX6_put_r3 : List Cond := [Cond.methodLink RX0 42 yX3_take, Cond.methodLink RX0 46 yX2_take, Cond.instanceMethod yX2_take, Cond.selects RX2 yX2_take yX2_take, Cond.initialized RX2, Cond.code yX2_take cX2_take 2 none, Cond.fieldLink RX2 9 "ShadowTable$Log" "keys" "[I", Cond.methodLink RX2 25 arraycopyName, Cond.fieldLink RX2 15 "ShadowTable$Log" "values" "[I", Cond.fieldLink RX2 18 "ShadowTable$Log" "start" "I", Cond.fieldLink RX2 22 "ShadowTable$Log" "size" "I", Cond.methodLink RX6 40 yX5_putRow, Cond.instanceMethod yX5_putRow, Cond.selects RX5 yX5_putRow yX5_putRow, Cond.code yX5_putRow cX5_putRow 3 (some .int), Cond.static yX6_isKey, Cond.initialized RX6, Cond.code yX6_isKey cX6_isKey 1 (some .boolean), Cond.methodLink RX6 135 yX6_isIn, Cond.static yX6_isIn, Cond.code yX6_isIn cX6_isIn 3 (some .boolean), Cond.static yX6_isValue, Cond.code yX6_isValue cX6_isValue 1 (some .boolean), Cond.methodLink RX5 63 yX5_changeRow]
def wsX6_put_r4 : List Cond := [Cond.instanceMethod yX5_changeRow, Cond.selects RX5 yX5_changeRow yX5_changeRow, Cond.code yX5_changeRow cX5_changeRow 4 (some .int), Cond.methodLink RX5 71 yX5_hasCopy, Cond.instanceMethod yX5_hasCopy, Cond.selects RX5 yX5_hasCopy yX5_hasCopy, Cond.code yX5_hasCopy cX5_hasCopy 1 (some .boolean), Cond.methodLink RX5 79 yX2_add, Cond.instanceMethod yX2_add, Cond.selects RX2 yX2_add yX2_add, Cond.code yX2_add cX2_add 4 (some .boolean), Cond.methodLink RX2 31 yX2_slotOf, Cond.instanceMethod yX2_slotOf, Cond.selects RX2 yX2_slotOf yX2_slotOf, Cond.code yX2_slotOf cX2_slotOf 2 (some .int), Cond.methodLink RX5 85 yX5_endGivenUp, Cond.instanceMethod yX5_endGivenUp, Cond.selects RX5 yX5_endGivenUp yX5_endGivenUp, Cond.code yX5_endGivenUp cX5_endGivenUp 1 none, Cond.methodLink RX5 67 yX3_at, Cond.instanceMethod yX3_at, Cond.selects RX3 yX3_at yX3_at, Cond.code yX3_at cX3_at 2 (some .int), Cond.methodLink RX5 88 yX3_place]
def wsX6_put_r5 : List Cond := [Cond.instanceMethod yX3_place, Cond.selects RX3 yX3_place yX3_place, Cond.code yX3_place cX3_place 3 none, Cond.methodLink RX6 44 yX6_recorded, Cond.instanceMethod yX6_recorded, Cond.selects RX6 yX6_recorded yX6_recorded, Cond.code yX6_recorded cX6_recorded 2 (some .int), Cond.methodLink RX6 95 yX6_isError, Cond.static yX6_isError, Cond.code yX6_isError cX6_isError 1 (some .boolean), Cond.methodLink RX6 82 yX1_keepPrepared, Cond.instanceMethod yX1_keepPrepared, Cond.selects RX1 yX1_keepPrepared yX1_keepPrepared, Cond.code yX1_keepPrepared cX1_keepPrepared 1 none]
def wsX6_put : List Cond := .code yX6_put cX6_put 3 (some .int) :: ((wsX6_put_r1 ++ (wsX6_put_r2 ++ (wsX6_put_r3 ++ (wsX6_put_r4 ++ wsX6_put_r5)))) ++ wsX60 ++ wsX10 ++ wsX50 ++ wsX30 ++ wsX00 ++ wsX20)
def wsX6_erase_r1 : List Cond := [Cond.fieldLink RX6 25 "ShadowTable" "history" "LShadowTable$History;", Cond.fieldLink RX6 10 "ShadowTable" "state" "LShadowTable$State;", Cond.methodLink RX6 36 yX1_prepare, Cond.instanceMethod yX1_prepare, Cond.selects RX1 yX1_prepare yX1_prepare, Cond.initialized RX1, Cond.code yX1_prepare cX1_prepare 2 none, Cond.fieldLink RX1 13 "ShadowTable$History" "slots" "[LShadowTable$State;", Cond.fieldLink RX1 18 "ShadowTable$History" "count" "I", Cond.methodLink RX1 22 yX1_slotOf, Cond.instanceMethod yX1_slotOf, Cond.selects RX1 yX1_slotOf yX1_slotOf, Cond.code yX1_slotOf cX1_slotOf 2 (some .int), Cond.fieldLink RX1 30 "ShadowTable$History" "start" "I", Cond.methodLink RX1 26 yX5_take, Cond.instanceMethod yX5_take, Cond.selects RX5 yX5_take yX5_take, Cond.initialized RX5, Cond.code yX5_take cX5_take 2 none, Cond.fieldLink RX5 12 "ShadowTable$State" "live" "LShadowTable$Rows;", Cond.fieldLink RX5 18 "ShadowTable$State" "old" "LShadowTable$Rows;", Cond.fieldLink RX5 39 "ShadowTable$State" "hasOld" "Z", Cond.fieldLink RX5 24 "ShadowTable$State" "copy" "LShadowTable$Copy;", Cond.fieldLink RX5 28 "ShadowTable$State" "settings" "[I"]
def wsX6_erase_r2 : List Cond := [Cond.methodLink RX5 46 arraycopyName, Cond.native arraycopyName, Cond.static arraycopyName, Cond.initialized "java/lang/System", Cond.fieldLink RX5 32 "ShadowTable$State" "totals" "[I", Cond.methodLink RX5 35 yX3_take, Cond.instanceMethod yX3_take, Cond.selects RX3 yX3_take yX3_take, Cond.initialized RX3, Cond.code yX3_take cX3_take 2 none, Cond.fieldLink RX3 9 "ShadowTable$Rows" "values" "[I", Cond.methodLink RX3 21 arraycopyName, Cond.methodLink RX5 43 yX0_take, Cond.instanceMethod yX0_take, Cond.selects RX0 yX0_take yX0_take, Cond.initialized RX0, Cond.code yX0_take cX0_take 2 none, Cond.fieldLink RX0 12 "ShadowTable$Copy" "shadow" "LShadowTable$Rows;", Cond.fieldLink RX0 21 "ShadowTable$Copy" "log" "LShadowTable$Log;", Cond.fieldLink RX0 25 "ShadowTable$Copy" "phase" "I", Cond.fieldLink RX0 33 "ShadowTable$Copy" "kind" "I", Cond.fieldLink RX0 36 "ShadowTable$Copy" "lot" "I", Cond.fieldLink RX0 39 "ShadowTable$Copy" "cursor" "I", Cond.fieldLink RX0 49 "ShadowTable$Copy" "age" "I"]
def wsX6_erase_r3 : List Cond := [Cond.methodLink RX0 42 yX3_take, Cond.methodLink RX0 46 yX2_take, Cond.instanceMethod yX2_take, Cond.selects RX2 yX2_take yX2_take, Cond.initialized RX2, Cond.code yX2_take cX2_take 2 none, Cond.fieldLink RX2 9 "ShadowTable$Log" "keys" "[I", Cond.methodLink RX2 25 arraycopyName, Cond.fieldLink RX2 15 "ShadowTable$Log" "values" "[I", Cond.fieldLink RX2 18 "ShadowTable$Log" "start" "I", Cond.fieldLink RX2 22 "ShadowTable$Log" "size" "I", Cond.methodLink RX6 48 yX5_eraseRow, Cond.instanceMethod yX5_eraseRow, Cond.selects RX5 yX5_eraseRow yX5_eraseRow, Cond.code yX5_eraseRow cX5_eraseRow 2 (some .int), Cond.static yX6_isKey, Cond.initialized RX6, Cond.code yX6_isKey cX6_isKey 1 (some .boolean), Cond.methodLink RX6 135 yX6_isIn, Cond.static yX6_isIn, Cond.code yX6_isIn cX6_isIn 3 (some .boolean), Cond.methodLink RX5 67 yX3_at, Cond.instanceMethod yX3_at, Cond.selects RX3 yX3_at yX3_at]
def wsX6_erase_r4 : List Cond := [Cond.code yX3_at cX3_at 2 (some .int), Cond.methodLink RX5 63 yX5_changeRow, Cond.instanceMethod yX5_changeRow, Cond.selects RX5 yX5_changeRow yX5_changeRow, Cond.code yX5_changeRow cX5_changeRow 4 (some .int), Cond.methodLink RX5 71 yX5_hasCopy, Cond.instanceMethod yX5_hasCopy, Cond.selects RX5 yX5_hasCopy yX5_hasCopy, Cond.code yX5_hasCopy cX5_hasCopy 1 (some .boolean), Cond.methodLink RX5 79 yX2_add, Cond.instanceMethod yX2_add, Cond.selects RX2 yX2_add yX2_add, Cond.code yX2_add cX2_add 4 (some .boolean), Cond.methodLink RX2 31 yX2_slotOf, Cond.instanceMethod yX2_slotOf, Cond.selects RX2 yX2_slotOf yX2_slotOf, Cond.code yX2_slotOf cX2_slotOf 2 (some .int), Cond.methodLink RX5 85 yX5_endGivenUp, Cond.instanceMethod yX5_endGivenUp, Cond.selects RX5 yX5_endGivenUp yX5_endGivenUp, Cond.code yX5_endGivenUp cX5_endGivenUp 1 none, Cond.methodLink RX5 88 yX3_place, Cond.instanceMethod yX3_place, Cond.selects RX3 yX3_place yX3_place]
def wsX6_erase_r5 : List Cond := [Cond.code yX3_place cX3_place 3 none, Cond.methodLink RX6 44 yX6_recorded, Cond.instanceMethod yX6_recorded, Cond.selects RX6 yX6_recorded yX6_recorded, Cond.code yX6_recorded cX6_recorded 2 (some .int), Cond.methodLink RX6 95 yX6_isError, Cond.static yX6_isError, Cond.code yX6_isError cX6_isError 1 (some .boolean), Cond.methodLink RX6 82 yX1_keepPrepared, Cond.instanceMethod yX1_keepPrepared, Cond.selects RX1 yX1_keepPrepared yX1_keepPrepared, Cond.code yX1_keepPrepared cX1_keepPrepared 1 none]
def wsX6_erase : List Cond := .code yX6_erase cX6_erase 2 (some .int) :: ((wsX6_erase_r1 ++ (wsX6_erase_r2 ++ (wsX6_erase_r3 ++ (wsX6_erase_r4 ++ wsX6_erase_r5)))) ++ wsX60 ++ wsX10 ++ wsX50 ++ wsX30 ++ wsX00 ++ wsX20)
def wsX6_begin_r1 : List Cond := [Cond.fieldLink RX6 25 "ShadowTable" "history" "LShadowTable$History;", Cond.fieldLink RX6 10 "ShadowTable" "state" "LShadowTable$State;", Cond.methodLink RX6 36 yX1_prepare, Cond.instanceMethod yX1_prepare, Cond.selects RX1 yX1_prepare yX1_prepare, Cond.initialized RX1, Cond.code yX1_prepare cX1_prepare 2 none, Cond.fieldLink RX1 13 "ShadowTable$History" "slots" "[LShadowTable$State;", Cond.fieldLink RX1 18 "ShadowTable$History" "count" "I", Cond.methodLink RX1 22 yX1_slotOf, Cond.instanceMethod yX1_slotOf, Cond.selects RX1 yX1_slotOf yX1_slotOf, Cond.code yX1_slotOf cX1_slotOf 2 (some .int), Cond.fieldLink RX1 30 "ShadowTable$History" "start" "I", Cond.methodLink RX1 26 yX5_take, Cond.instanceMethod yX5_take, Cond.selects RX5 yX5_take yX5_take, Cond.initialized RX5, Cond.code yX5_take cX5_take 2 none, Cond.fieldLink RX5 12 "ShadowTable$State" "live" "LShadowTable$Rows;", Cond.fieldLink RX5 18 "ShadowTable$State" "old" "LShadowTable$Rows;", Cond.fieldLink RX5 39 "ShadowTable$State" "hasOld" "Z", Cond.fieldLink RX5 24 "ShadowTable$State" "copy" "LShadowTable$Copy;", Cond.fieldLink RX5 28 "ShadowTable$State" "settings" "[I"]
def wsX6_begin_r2 : List Cond := [Cond.methodLink RX5 46 arraycopyName, Cond.native arraycopyName, Cond.static arraycopyName, Cond.initialized "java/lang/System", Cond.fieldLink RX5 32 "ShadowTable$State" "totals" "[I", Cond.methodLink RX5 35 yX3_take, Cond.instanceMethod yX3_take, Cond.selects RX3 yX3_take yX3_take, Cond.initialized RX3, Cond.code yX3_take cX3_take 2 none, Cond.fieldLink RX3 9 "ShadowTable$Rows" "values" "[I", Cond.methodLink RX3 21 arraycopyName, Cond.methodLink RX5 43 yX0_take, Cond.instanceMethod yX0_take, Cond.selects RX0 yX0_take yX0_take, Cond.initialized RX0, Cond.code yX0_take cX0_take 2 none, Cond.fieldLink RX0 12 "ShadowTable$Copy" "shadow" "LShadowTable$Rows;", Cond.fieldLink RX0 21 "ShadowTable$Copy" "log" "LShadowTable$Log;", Cond.fieldLink RX0 25 "ShadowTable$Copy" "phase" "I", Cond.fieldLink RX0 33 "ShadowTable$Copy" "kind" "I", Cond.fieldLink RX0 36 "ShadowTable$Copy" "lot" "I", Cond.fieldLink RX0 39 "ShadowTable$Copy" "cursor" "I", Cond.fieldLink RX0 49 "ShadowTable$Copy" "age" "I"]
def wsX6_begin_r3 : List Cond := [Cond.methodLink RX0 42 yX3_take, Cond.methodLink RX0 46 yX2_take, Cond.instanceMethod yX2_take, Cond.selects RX2 yX2_take yX2_take, Cond.initialized RX2, Cond.code yX2_take cX2_take 2 none, Cond.fieldLink RX2 9 "ShadowTable$Log" "keys" "[I", Cond.methodLink RX2 25 arraycopyName, Cond.fieldLink RX2 15 "ShadowTable$Log" "values" "[I", Cond.fieldLink RX2 18 "ShadowTable$Log" "start" "I", Cond.fieldLink RX2 22 "ShadowTable$Log" "size" "I", Cond.methodLink RX6 51 yX5_beginCopy, Cond.instanceMethod yX5_beginCopy, Cond.selects RX5 yX5_beginCopy yX5_beginCopy, Cond.code yX5_beginCopy cX5_beginCopy 3 (some .int), Cond.static yX6_isKind, Cond.initialized RX6, Cond.code yX6_isKind cX6_isKind 1 (some .boolean), Cond.methodLink RX6 135 yX6_isIn, Cond.static yX6_isIn, Cond.code yX6_isIn cX6_isIn 3 (some .boolean), Cond.static yX6_isLot, Cond.code yX6_isLot cX6_isLot 1 (some .boolean), Cond.methodLink RX5 71 yX5_hasCopy]
def wsX6_begin_r4 : List Cond := [Cond.instanceMethod yX5_hasCopy, Cond.selects RX5 yX5_hasCopy yX5_hasCopy, Cond.code yX5_hasCopy cX5_hasCopy 1 (some .boolean), Cond.methodLink RX5 98 yX0_start, Cond.instanceMethod yX0_start, Cond.selects RX0 yX0_start yX0_start, Cond.code yX0_start cX0_start 3 none, Cond.methodLink RX0 29 yX3_removeAll, Cond.instanceMethod yX3_removeAll, Cond.selects RX3 yX3_removeAll yX3_removeAll, Cond.code yX3_removeAll cX3_removeAll 1 none, Cond.methodLink RX3 15 yJ7_fill_53178, Cond.static yJ7_fill_53178, Cond.initialized RJ7, Cond.code yJ7_fill_53178 cJ7_fill_53178 4 none, Cond.methodLink RX0 32 yX2_removeAll, Cond.instanceMethod yX2_removeAll, Cond.selects RX2 yX2_removeAll yX2_removeAll, Cond.code yX2_removeAll cX2_removeAll 1 none, Cond.methodLink RX5 101 yX3_count, Cond.instanceMethod yX3_count, Cond.selects RX3 yX3_count yX3_count, Cond.code yX3_count cX3_count 3 (some .int), Cond.methodLink RX6 44 yX6_recorded]
def wsX6_begin_r5 : List Cond := [Cond.instanceMethod yX6_recorded, Cond.selects RX6 yX6_recorded yX6_recorded, Cond.code yX6_recorded cX6_recorded 2 (some .int), Cond.methodLink RX6 95 yX6_isError, Cond.static yX6_isError, Cond.code yX6_isError cX6_isError 1 (some .boolean), Cond.methodLink RX6 82 yX1_keepPrepared, Cond.instanceMethod yX1_keepPrepared, Cond.selects RX1 yX1_keepPrepared yX1_keepPrepared, Cond.code yX1_keepPrepared cX1_keepPrepared 1 none]
def wsX6_begin : List Cond := .code yX6_begin cX6_begin 3 (some .int) :: ((wsX6_begin_r1 ++ (wsX6_begin_r2 ++ (wsX6_begin_r3 ++ (wsX6_begin_r4 ++ wsX6_begin_r5)))) ++ wsX60 ++ wsX10 ++ wsX50 ++ wsX30 ++ wsX00 ++ wsX20)
def wsX6_tick_r1 : List Cond := [Cond.fieldLink RX6 25 "ShadowTable" "history" "LShadowTable$History;", Cond.fieldLink RX6 10 "ShadowTable" "state" "LShadowTable$State;", Cond.methodLink RX6 36 yX1_prepare, Cond.instanceMethod yX1_prepare, Cond.selects RX1 yX1_prepare yX1_prepare, Cond.initialized RX1, Cond.code yX1_prepare cX1_prepare 2 none, Cond.fieldLink RX1 13 "ShadowTable$History" "slots" "[LShadowTable$State;", Cond.fieldLink RX1 18 "ShadowTable$History" "count" "I", Cond.methodLink RX1 22 yX1_slotOf, Cond.instanceMethod yX1_slotOf, Cond.selects RX1 yX1_slotOf yX1_slotOf, Cond.code yX1_slotOf cX1_slotOf 2 (some .int), Cond.fieldLink RX1 30 "ShadowTable$History" "start" "I", Cond.methodLink RX1 26 yX5_take, Cond.instanceMethod yX5_take, Cond.selects RX5 yX5_take yX5_take, Cond.initialized RX5, Cond.code yX5_take cX5_take 2 none, Cond.fieldLink RX5 12 "ShadowTable$State" "live" "LShadowTable$Rows;", Cond.fieldLink RX5 18 "ShadowTable$State" "old" "LShadowTable$Rows;", Cond.fieldLink RX5 39 "ShadowTable$State" "hasOld" "Z", Cond.fieldLink RX5 24 "ShadowTable$State" "copy" "LShadowTable$Copy;", Cond.fieldLink RX5 28 "ShadowTable$State" "settings" "[I"]
def wsX6_tick_r2 : List Cond := [Cond.methodLink RX5 46 arraycopyName, Cond.native arraycopyName, Cond.static arraycopyName, Cond.initialized "java/lang/System", Cond.fieldLink RX5 32 "ShadowTable$State" "totals" "[I", Cond.methodLink RX5 35 yX3_take, Cond.instanceMethod yX3_take, Cond.selects RX3 yX3_take yX3_take, Cond.initialized RX3, Cond.code yX3_take cX3_take 2 none, Cond.fieldLink RX3 9 "ShadowTable$Rows" "values" "[I", Cond.methodLink RX3 21 arraycopyName, Cond.methodLink RX5 43 yX0_take, Cond.instanceMethod yX0_take, Cond.selects RX0 yX0_take yX0_take, Cond.initialized RX0, Cond.code yX0_take cX0_take 2 none, Cond.fieldLink RX0 12 "ShadowTable$Copy" "shadow" "LShadowTable$Rows;", Cond.fieldLink RX0 21 "ShadowTable$Copy" "log" "LShadowTable$Log;", Cond.fieldLink RX0 25 "ShadowTable$Copy" "phase" "I", Cond.fieldLink RX0 33 "ShadowTable$Copy" "kind" "I", Cond.fieldLink RX0 36 "ShadowTable$Copy" "lot" "I", Cond.fieldLink RX0 39 "ShadowTable$Copy" "cursor" "I", Cond.fieldLink RX0 49 "ShadowTable$Copy" "age" "I"]
def wsX6_tick_r3 : List Cond := [Cond.methodLink RX0 42 yX3_take, Cond.methodLink RX0 46 yX2_take, Cond.instanceMethod yX2_take, Cond.selects RX2 yX2_take yX2_take, Cond.initialized RX2, Cond.code yX2_take cX2_take 2 none, Cond.fieldLink RX2 9 "ShadowTable$Log" "keys" "[I", Cond.methodLink RX2 25 arraycopyName, Cond.fieldLink RX2 15 "ShadowTable$Log" "values" "[I", Cond.fieldLink RX2 18 "ShadowTable$Log" "start" "I", Cond.fieldLink RX2 22 "ShadowTable$Log" "size" "I", Cond.methodLink RX6 54 yX5_makeTicks, Cond.instanceMethod yX5_makeTicks, Cond.selects RX5 yX5_makeTicks yX5_makeTicks, Cond.code yX5_makeTicks cX5_makeTicks 3 (some .int), Cond.static yX6_isTicks, Cond.initialized RX6, Cond.code yX6_isTicks cX6_isTicks 1 (some .boolean), Cond.methodLink RX6 135 yX6_isIn, Cond.static yX6_isIn, Cond.code yX6_isIn cX6_isIn 3 (some .boolean), Cond.methodLink RX5 108 yX5_makeTick, Cond.instanceMethod yX5_makeTick, Cond.selects RX5 yX5_makeTick yX5_makeTick]
def wsX6_tick_r4 : List Cond := [Cond.code yX5_makeTick cX5_makeTick 1 none, Cond.methodLink RX5 71 yX5_hasCopy, Cond.instanceMethod yX5_hasCopy, Cond.selects RX5 yX5_hasCopy yX5_hasCopy, Cond.code yX5_hasCopy cX5_hasCopy 1 (some .boolean), Cond.methodLink RX5 111 yX5_lockRunsOut, Cond.instanceMethod yX5_lockRunsOut, Cond.selects RX5 yX5_lockRunsOut yX5_lockRunsOut, Cond.code yX5_lockRunsOut cX5_lockRunsOut 1 (some .boolean), Cond.methodLink RX5 114 yX5_applyEntries, Cond.instanceMethod yX5_applyEntries, Cond.selects RX5 yX5_applyEntries yX5_applyEntries, Cond.code yX5_applyEntries cX5_applyEntries 4 none, Cond.methodLink RX5 126 yX2_keyAt, Cond.instanceMethod yX2_keyAt, Cond.selects RX2 yX2_keyAt yX2_keyAt, Cond.code yX2_keyAt cX2_keyAt 2 (some .int), Cond.methodLink RX2 31 yX2_slotOf, Cond.instanceMethod yX2_slotOf, Cond.selects RX2 yX2_slotOf yX2_slotOf, Cond.code yX2_slotOf cX2_slotOf 2 (some .int), Cond.methodLink RX5 135 yX2_valueAt, Cond.instanceMethod yX2_valueAt, Cond.selects RX2 yX2_valueAt yX2_valueAt]
def wsX6_tick_r5 : List Cond := [Cond.code yX2_valueAt cX2_valueAt 2 (some .int), Cond.static yX6_changedValue, Cond.code yX6_changedValue cX6_changedValue 3 (some .int), Cond.methodLink RX5 88 yX3_place, Cond.instanceMethod yX3_place, Cond.selects RX3 yX3_place yX3_place, Cond.code yX3_place cX3_place 3 none, Cond.methodLink RX5 142 yX2_removeFirst, Cond.instanceMethod yX2_removeFirst, Cond.selects RX2 yX2_removeFirst yX2_removeFirst, Cond.code yX2_removeFirst cX2_removeFirst 1 none, Cond.methodLink RX5 117 yX5_copyLot, Cond.instanceMethod yX5_copyLot, Cond.selects RX5 yX5_copyLot yX5_copyLot, Cond.code yX5_copyLot cX5_copyLot 3 none, Cond.methodLink RX5 67 yX3_at, Cond.instanceMethod yX3_at, Cond.selects RX3 yX3_at yX3_at, Cond.code yX3_at cX3_at 2 (some .int), Cond.methodLink RX5 151 yX0_copyKey, Cond.instanceMethod yX0_copyKey, Cond.selects RX0 yX0_copyKey yX0_copyKey, Cond.code yX0_copyKey cX0_copyKey 4 (some .boolean), Cond.methodLink RX0 56 yX3_at]
def wsX6_tick_r6 : List Cond := [Cond.methodLink RX0 60 yX3_place, Cond.methodLink RX6 44 yX6_recorded, Cond.instanceMethod yX6_recorded, Cond.selects RX6 yX6_recorded yX6_recorded, Cond.code yX6_recorded cX6_recorded 2 (some .int), Cond.methodLink RX6 95 yX6_isError, Cond.static yX6_isError, Cond.code yX6_isError cX6_isError 1 (some .boolean), Cond.methodLink RX6 82 yX1_keepPrepared, Cond.instanceMethod yX1_keepPrepared, Cond.selects RX1 yX1_keepPrepared yX1_keepPrepared, Cond.code yX1_keepPrepared cX1_keepPrepared 1 none]
def wsX6_tick : List Cond := .code yX6_tick cX6_tick 2 (some .int) :: ((wsX6_tick_r1 ++ (wsX6_tick_r2 ++ (wsX6_tick_r3 ++ (wsX6_tick_r4 ++ (wsX6_tick_r5 ++ wsX6_tick_r6))))) ++ wsX60 ++ wsX10 ++ wsX50 ++ wsX30 ++ wsX00 ++ wsX20)
def wsX6_lock_r1 : List Cond := [Cond.fieldLink RX6 25 "ShadowTable" "history" "LShadowTable$History;", Cond.fieldLink RX6 10 "ShadowTable" "state" "LShadowTable$State;", Cond.methodLink RX6 36 yX1_prepare, Cond.instanceMethod yX1_prepare, Cond.selects RX1 yX1_prepare yX1_prepare, Cond.initialized RX1, Cond.code yX1_prepare cX1_prepare 2 none, Cond.fieldLink RX1 13 "ShadowTable$History" "slots" "[LShadowTable$State;", Cond.fieldLink RX1 18 "ShadowTable$History" "count" "I", Cond.methodLink RX1 22 yX1_slotOf, Cond.instanceMethod yX1_slotOf, Cond.selects RX1 yX1_slotOf yX1_slotOf, Cond.code yX1_slotOf cX1_slotOf 2 (some .int), Cond.fieldLink RX1 30 "ShadowTable$History" "start" "I", Cond.methodLink RX1 26 yX5_take, Cond.instanceMethod yX5_take, Cond.selects RX5 yX5_take yX5_take, Cond.initialized RX5, Cond.code yX5_take cX5_take 2 none, Cond.fieldLink RX5 12 "ShadowTable$State" "live" "LShadowTable$Rows;", Cond.fieldLink RX5 18 "ShadowTable$State" "old" "LShadowTable$Rows;", Cond.fieldLink RX5 39 "ShadowTable$State" "hasOld" "Z", Cond.fieldLink RX5 24 "ShadowTable$State" "copy" "LShadowTable$Copy;", Cond.fieldLink RX5 28 "ShadowTable$State" "settings" "[I"]
def wsX6_lock_r2 : List Cond := [Cond.methodLink RX5 46 arraycopyName, Cond.native arraycopyName, Cond.static arraycopyName, Cond.initialized "java/lang/System", Cond.fieldLink RX5 32 "ShadowTable$State" "totals" "[I", Cond.methodLink RX5 35 yX3_take, Cond.instanceMethod yX3_take, Cond.selects RX3 yX3_take yX3_take, Cond.initialized RX3, Cond.code yX3_take cX3_take 2 none, Cond.fieldLink RX3 9 "ShadowTable$Rows" "values" "[I", Cond.methodLink RX3 21 arraycopyName, Cond.methodLink RX5 43 yX0_take, Cond.instanceMethod yX0_take, Cond.selects RX0 yX0_take yX0_take, Cond.initialized RX0, Cond.code yX0_take cX0_take 2 none, Cond.fieldLink RX0 12 "ShadowTable$Copy" "shadow" "LShadowTable$Rows;", Cond.fieldLink RX0 21 "ShadowTable$Copy" "log" "LShadowTable$Log;", Cond.fieldLink RX0 25 "ShadowTable$Copy" "phase" "I", Cond.fieldLink RX0 33 "ShadowTable$Copy" "kind" "I", Cond.fieldLink RX0 36 "ShadowTable$Copy" "lot" "I", Cond.fieldLink RX0 39 "ShadowTable$Copy" "cursor" "I", Cond.fieldLink RX0 49 "ShadowTable$Copy" "age" "I"]
def wsX6_lock_r3 : List Cond := [Cond.methodLink RX0 42 yX3_take, Cond.methodLink RX0 46 yX2_take, Cond.instanceMethod yX2_take, Cond.selects RX2 yX2_take yX2_take, Cond.initialized RX2, Cond.code yX2_take cX2_take 2 none, Cond.fieldLink RX2 9 "ShadowTable$Log" "keys" "[I", Cond.methodLink RX2 25 arraycopyName, Cond.fieldLink RX2 15 "ShadowTable$Log" "values" "[I", Cond.fieldLink RX2 18 "ShadowTable$Log" "start" "I", Cond.fieldLink RX2 22 "ShadowTable$Log" "size" "I", Cond.methodLink RX6 57 yX5_lockLive, Cond.instanceMethod yX5_lockLive, Cond.selects RX5 yX5_lockLive yX5_lockLive, Cond.code yX5_lockLive cX5_lockLive 1 (some .int), Cond.methodLink RX6 44 yX6_recorded, Cond.instanceMethod yX6_recorded, Cond.selects RX6 yX6_recorded yX6_recorded, Cond.initialized RX6, Cond.code yX6_recorded cX6_recorded 2 (some .int), Cond.methodLink RX6 95 yX6_isError, Cond.static yX6_isError, Cond.code yX6_isError cX6_isError 1 (some .boolean), Cond.methodLink RX6 82 yX1_keepPrepared]
def wsX6_lock_r4 : List Cond := [Cond.instanceMethod yX1_keepPrepared, Cond.selects RX1 yX1_keepPrepared yX1_keepPrepared, Cond.code yX1_keepPrepared cX1_keepPrepared 1 none]
def wsX6_lock : List Cond := .code yX6_lock cX6_lock 1 (some .int) :: ((wsX6_lock_r1 ++ (wsX6_lock_r2 ++ (wsX6_lock_r3 ++ wsX6_lock_r4))) ++ wsX60 ++ wsX10 ++ wsX50 ++ wsX30 ++ wsX00 ++ wsX20)
def wsX6_unlock_r1 : List Cond := [Cond.fieldLink RX6 25 "ShadowTable" "history" "LShadowTable$History;", Cond.fieldLink RX6 10 "ShadowTable" "state" "LShadowTable$State;", Cond.methodLink RX6 36 yX1_prepare, Cond.instanceMethod yX1_prepare, Cond.selects RX1 yX1_prepare yX1_prepare, Cond.initialized RX1, Cond.code yX1_prepare cX1_prepare 2 none, Cond.fieldLink RX1 13 "ShadowTable$History" "slots" "[LShadowTable$State;", Cond.fieldLink RX1 18 "ShadowTable$History" "count" "I", Cond.methodLink RX1 22 yX1_slotOf, Cond.instanceMethod yX1_slotOf, Cond.selects RX1 yX1_slotOf yX1_slotOf, Cond.code yX1_slotOf cX1_slotOf 2 (some .int), Cond.fieldLink RX1 30 "ShadowTable$History" "start" "I", Cond.methodLink RX1 26 yX5_take, Cond.instanceMethod yX5_take, Cond.selects RX5 yX5_take yX5_take, Cond.initialized RX5, Cond.code yX5_take cX5_take 2 none, Cond.fieldLink RX5 12 "ShadowTable$State" "live" "LShadowTable$Rows;", Cond.fieldLink RX5 18 "ShadowTable$State" "old" "LShadowTable$Rows;", Cond.fieldLink RX5 39 "ShadowTable$State" "hasOld" "Z", Cond.fieldLink RX5 24 "ShadowTable$State" "copy" "LShadowTable$Copy;", Cond.fieldLink RX5 28 "ShadowTable$State" "settings" "[I"]
def wsX6_unlock_r2 : List Cond := [Cond.methodLink RX5 46 arraycopyName, Cond.native arraycopyName, Cond.static arraycopyName, Cond.initialized "java/lang/System", Cond.fieldLink RX5 32 "ShadowTable$State" "totals" "[I", Cond.methodLink RX5 35 yX3_take, Cond.instanceMethod yX3_take, Cond.selects RX3 yX3_take yX3_take, Cond.initialized RX3, Cond.code yX3_take cX3_take 2 none, Cond.fieldLink RX3 9 "ShadowTable$Rows" "values" "[I", Cond.methodLink RX3 21 arraycopyName, Cond.methodLink RX5 43 yX0_take, Cond.instanceMethod yX0_take, Cond.selects RX0 yX0_take yX0_take, Cond.initialized RX0, Cond.code yX0_take cX0_take 2 none, Cond.fieldLink RX0 12 "ShadowTable$Copy" "shadow" "LShadowTable$Rows;", Cond.fieldLink RX0 21 "ShadowTable$Copy" "log" "LShadowTable$Log;", Cond.fieldLink RX0 25 "ShadowTable$Copy" "phase" "I", Cond.fieldLink RX0 33 "ShadowTable$Copy" "kind" "I", Cond.fieldLink RX0 36 "ShadowTable$Copy" "lot" "I", Cond.fieldLink RX0 39 "ShadowTable$Copy" "cursor" "I", Cond.fieldLink RX0 49 "ShadowTable$Copy" "age" "I"]
def wsX6_unlock_r3 : List Cond := [Cond.methodLink RX0 42 yX3_take, Cond.methodLink RX0 46 yX2_take, Cond.instanceMethod yX2_take, Cond.selects RX2 yX2_take yX2_take, Cond.initialized RX2, Cond.code yX2_take cX2_take 2 none, Cond.fieldLink RX2 9 "ShadowTable$Log" "keys" "[I", Cond.methodLink RX2 25 arraycopyName, Cond.fieldLink RX2 15 "ShadowTable$Log" "values" "[I", Cond.fieldLink RX2 18 "ShadowTable$Log" "start" "I", Cond.fieldLink RX2 22 "ShadowTable$Log" "size" "I", Cond.methodLink RX6 61 yX5_unlockLive, Cond.instanceMethod yX5_unlockLive, Cond.selects RX5 yX5_unlockLive yX5_unlockLive, Cond.code yX5_unlockLive cX5_unlockLive 1 (some .int), Cond.methodLink RX6 44 yX6_recorded, Cond.instanceMethod yX6_recorded, Cond.selects RX6 yX6_recorded yX6_recorded, Cond.initialized RX6, Cond.code yX6_recorded cX6_recorded 2 (some .int), Cond.methodLink RX6 95 yX6_isError, Cond.static yX6_isError, Cond.code yX6_isError cX6_isError 1 (some .boolean), Cond.methodLink RX6 82 yX1_keepPrepared]
def wsX6_unlock_r4 : List Cond := [Cond.instanceMethod yX1_keepPrepared, Cond.selects RX1 yX1_keepPrepared yX1_keepPrepared, Cond.code yX1_keepPrepared cX1_keepPrepared 1 none]
def wsX6_unlock : List Cond := .code yX6_unlock cX6_unlock 1 (some .int) :: ((wsX6_unlock_r1 ++ (wsX6_unlock_r2 ++ (wsX6_unlock_r3 ++ wsX6_unlock_r4))) ++ wsX60 ++ wsX10 ++ wsX50 ++ wsX30 ++ wsX00 ++ wsX20)
def wsX6_swap_r1 : List Cond := [Cond.fieldLink RX6 25 "ShadowTable" "history" "LShadowTable$History;", Cond.fieldLink RX6 10 "ShadowTable" "state" "LShadowTable$State;", Cond.methodLink RX6 36 yX1_prepare, Cond.instanceMethod yX1_prepare, Cond.selects RX1 yX1_prepare yX1_prepare, Cond.initialized RX1, Cond.code yX1_prepare cX1_prepare 2 none, Cond.fieldLink RX1 13 "ShadowTable$History" "slots" "[LShadowTable$State;", Cond.fieldLink RX1 18 "ShadowTable$History" "count" "I", Cond.methodLink RX1 22 yX1_slotOf, Cond.instanceMethod yX1_slotOf, Cond.selects RX1 yX1_slotOf yX1_slotOf, Cond.code yX1_slotOf cX1_slotOf 2 (some .int), Cond.fieldLink RX1 30 "ShadowTable$History" "start" "I", Cond.methodLink RX1 26 yX5_take, Cond.instanceMethod yX5_take, Cond.selects RX5 yX5_take yX5_take, Cond.initialized RX5, Cond.code yX5_take cX5_take 2 none, Cond.fieldLink RX5 12 "ShadowTable$State" "live" "LShadowTable$Rows;", Cond.fieldLink RX5 18 "ShadowTable$State" "old" "LShadowTable$Rows;", Cond.fieldLink RX5 39 "ShadowTable$State" "hasOld" "Z", Cond.fieldLink RX5 24 "ShadowTable$State" "copy" "LShadowTable$Copy;", Cond.fieldLink RX5 28 "ShadowTable$State" "settings" "[I"]
def wsX6_swap_r2 : List Cond := [Cond.methodLink RX5 46 arraycopyName, Cond.native arraycopyName, Cond.static arraycopyName, Cond.initialized "java/lang/System", Cond.fieldLink RX5 32 "ShadowTable$State" "totals" "[I", Cond.methodLink RX5 35 yX3_take, Cond.instanceMethod yX3_take, Cond.selects RX3 yX3_take yX3_take, Cond.initialized RX3, Cond.code yX3_take cX3_take 2 none, Cond.fieldLink RX3 9 "ShadowTable$Rows" "values" "[I", Cond.methodLink RX3 21 arraycopyName, Cond.methodLink RX5 43 yX0_take, Cond.instanceMethod yX0_take, Cond.selects RX0 yX0_take yX0_take, Cond.initialized RX0, Cond.code yX0_take cX0_take 2 none, Cond.fieldLink RX0 12 "ShadowTable$Copy" "shadow" "LShadowTable$Rows;", Cond.fieldLink RX0 21 "ShadowTable$Copy" "log" "LShadowTable$Log;", Cond.fieldLink RX0 25 "ShadowTable$Copy" "phase" "I", Cond.fieldLink RX0 33 "ShadowTable$Copy" "kind" "I", Cond.fieldLink RX0 36 "ShadowTable$Copy" "lot" "I", Cond.fieldLink RX0 39 "ShadowTable$Copy" "cursor" "I", Cond.fieldLink RX0 49 "ShadowTable$Copy" "age" "I"]
def wsX6_swap_r3 : List Cond := [Cond.methodLink RX0 42 yX3_take, Cond.methodLink RX0 46 yX2_take, Cond.instanceMethod yX2_take, Cond.selects RX2 yX2_take yX2_take, Cond.initialized RX2, Cond.code yX2_take cX2_take 2 none, Cond.fieldLink RX2 9 "ShadowTable$Log" "keys" "[I", Cond.methodLink RX2 25 arraycopyName, Cond.fieldLink RX2 15 "ShadowTable$Log" "values" "[I", Cond.fieldLink RX2 18 "ShadowTable$Log" "start" "I", Cond.fieldLink RX2 22 "ShadowTable$Log" "size" "I", Cond.methodLink RX6 64 yX5_swapTables, Cond.instanceMethod yX5_swapTables, Cond.selects RX5 yX5_swapTables yX5_swapTables, Cond.code yX5_swapTables cX5_swapTables 1 (some .int), Cond.methodLink RX5 101 yX3_count, Cond.instanceMethod yX3_count, Cond.selects RX3 yX3_count yX3_count, Cond.code yX3_count cX3_count 3 (some .int), Cond.methodLink RX6 44 yX6_recorded, Cond.instanceMethod yX6_recorded, Cond.selects RX6 yX6_recorded yX6_recorded, Cond.initialized RX6, Cond.code yX6_recorded cX6_recorded 2 (some .int)]
def wsX6_swap_r4 : List Cond := [Cond.methodLink RX6 95 yX6_isError, Cond.static yX6_isError, Cond.code yX6_isError cX6_isError 1 (some .boolean), Cond.methodLink RX6 82 yX1_keepPrepared, Cond.instanceMethod yX1_keepPrepared, Cond.selects RX1 yX1_keepPrepared yX1_keepPrepared, Cond.code yX1_keepPrepared cX1_keepPrepared 1 none]
def wsX6_swap : List Cond := .code yX6_swap cX6_swap 1 (some .int) :: ((wsX6_swap_r1 ++ (wsX6_swap_r2 ++ (wsX6_swap_r3 ++ wsX6_swap_r4))) ++ wsX60 ++ wsX10 ++ wsX50 ++ wsX30 ++ wsX00 ++ wsX20)
def wsX6_giveUp_r1 : List Cond := [Cond.fieldLink RX6 25 "ShadowTable" "history" "LShadowTable$History;", Cond.fieldLink RX6 10 "ShadowTable" "state" "LShadowTable$State;", Cond.methodLink RX6 36 yX1_prepare, Cond.instanceMethod yX1_prepare, Cond.selects RX1 yX1_prepare yX1_prepare, Cond.initialized RX1, Cond.code yX1_prepare cX1_prepare 2 none, Cond.fieldLink RX1 13 "ShadowTable$History" "slots" "[LShadowTable$State;", Cond.fieldLink RX1 18 "ShadowTable$History" "count" "I", Cond.methodLink RX1 22 yX1_slotOf, Cond.instanceMethod yX1_slotOf, Cond.selects RX1 yX1_slotOf yX1_slotOf, Cond.code yX1_slotOf cX1_slotOf 2 (some .int), Cond.fieldLink RX1 30 "ShadowTable$History" "start" "I", Cond.methodLink RX1 26 yX5_take, Cond.instanceMethod yX5_take, Cond.selects RX5 yX5_take yX5_take, Cond.initialized RX5, Cond.code yX5_take cX5_take 2 none, Cond.fieldLink RX5 12 "ShadowTable$State" "live" "LShadowTable$Rows;", Cond.fieldLink RX5 18 "ShadowTable$State" "old" "LShadowTable$Rows;", Cond.fieldLink RX5 39 "ShadowTable$State" "hasOld" "Z", Cond.fieldLink RX5 24 "ShadowTable$State" "copy" "LShadowTable$Copy;", Cond.fieldLink RX5 28 "ShadowTable$State" "settings" "[I"]
def wsX6_giveUp_r2 : List Cond := [Cond.methodLink RX5 46 arraycopyName, Cond.native arraycopyName, Cond.static arraycopyName, Cond.initialized "java/lang/System", Cond.fieldLink RX5 32 "ShadowTable$State" "totals" "[I", Cond.methodLink RX5 35 yX3_take, Cond.instanceMethod yX3_take, Cond.selects RX3 yX3_take yX3_take, Cond.initialized RX3, Cond.code yX3_take cX3_take 2 none, Cond.fieldLink RX3 9 "ShadowTable$Rows" "values" "[I", Cond.methodLink RX3 21 arraycopyName, Cond.methodLink RX5 43 yX0_take, Cond.instanceMethod yX0_take, Cond.selects RX0 yX0_take yX0_take, Cond.initialized RX0, Cond.code yX0_take cX0_take 2 none, Cond.fieldLink RX0 12 "ShadowTable$Copy" "shadow" "LShadowTable$Rows;", Cond.fieldLink RX0 21 "ShadowTable$Copy" "log" "LShadowTable$Log;", Cond.fieldLink RX0 25 "ShadowTable$Copy" "phase" "I", Cond.fieldLink RX0 33 "ShadowTable$Copy" "kind" "I", Cond.fieldLink RX0 36 "ShadowTable$Copy" "lot" "I", Cond.fieldLink RX0 39 "ShadowTable$Copy" "cursor" "I", Cond.fieldLink RX0 49 "ShadowTable$Copy" "age" "I"]
def wsX6_giveUp_r3 : List Cond := [Cond.methodLink RX0 42 yX3_take, Cond.methodLink RX0 46 yX2_take, Cond.instanceMethod yX2_take, Cond.selects RX2 yX2_take yX2_take, Cond.initialized RX2, Cond.code yX2_take cX2_take 2 none, Cond.fieldLink RX2 9 "ShadowTable$Log" "keys" "[I", Cond.methodLink RX2 25 arraycopyName, Cond.fieldLink RX2 15 "ShadowTable$Log" "values" "[I", Cond.fieldLink RX2 18 "ShadowTable$Log" "start" "I", Cond.fieldLink RX2 22 "ShadowTable$Log" "size" "I", Cond.methodLink RX6 67 yX5_giveCopyUp, Cond.instanceMethod yX5_giveCopyUp, Cond.selects RX5 yX5_giveCopyUp yX5_giveCopyUp, Cond.code yX5_giveCopyUp cX5_giveCopyUp 1 (some .int), Cond.methodLink RX5 71 yX5_hasCopy, Cond.instanceMethod yX5_hasCopy, Cond.selects RX5 yX5_hasCopy yX5_hasCopy, Cond.code yX5_hasCopy cX5_hasCopy 1 (some .boolean), Cond.methodLink RX5 85 yX5_endGivenUp, Cond.instanceMethod yX5_endGivenUp, Cond.selects RX5 yX5_endGivenUp yX5_endGivenUp, Cond.code yX5_endGivenUp cX5_endGivenUp 1 none, Cond.methodLink RX5 101 yX3_count]
def wsX6_giveUp_r4 : List Cond := [Cond.instanceMethod yX3_count, Cond.selects RX3 yX3_count yX3_count, Cond.code yX3_count cX3_count 3 (some .int), Cond.methodLink RX6 44 yX6_recorded, Cond.instanceMethod yX6_recorded, Cond.selects RX6 yX6_recorded yX6_recorded, Cond.initialized RX6, Cond.code yX6_recorded cX6_recorded 2 (some .int), Cond.methodLink RX6 95 yX6_isError, Cond.static yX6_isError, Cond.code yX6_isError cX6_isError 1 (some .boolean), Cond.methodLink RX6 82 yX1_keepPrepared, Cond.instanceMethod yX1_keepPrepared, Cond.selects RX1 yX1_keepPrepared yX1_keepPrepared, Cond.code yX1_keepPrepared cX1_keepPrepared 1 none]
def wsX6_giveUp : List Cond := .code yX6_giveUp cX6_giveUp 1 (some .int) :: ((wsX6_giveUp_r1 ++ (wsX6_giveUp_r2 ++ (wsX6_giveUp_r3 ++ wsX6_giveUp_r4))) ++ wsX60 ++ wsX10 ++ wsX50 ++ wsX30 ++ wsX00 ++ wsX20)
def wsX6_set_r1 : List Cond := [Cond.fieldLink RX6 25 "ShadowTable" "history" "LShadowTable$History;", Cond.fieldLink RX6 10 "ShadowTable" "state" "LShadowTable$State;", Cond.methodLink RX6 36 yX1_prepare, Cond.instanceMethod yX1_prepare, Cond.selects RX1 yX1_prepare yX1_prepare, Cond.initialized RX1, Cond.code yX1_prepare cX1_prepare 2 none, Cond.fieldLink RX1 13 "ShadowTable$History" "slots" "[LShadowTable$State;", Cond.fieldLink RX1 18 "ShadowTable$History" "count" "I", Cond.methodLink RX1 22 yX1_slotOf, Cond.instanceMethod yX1_slotOf, Cond.selects RX1 yX1_slotOf yX1_slotOf, Cond.code yX1_slotOf cX1_slotOf 2 (some .int), Cond.fieldLink RX1 30 "ShadowTable$History" "start" "I", Cond.methodLink RX1 26 yX5_take, Cond.instanceMethod yX5_take, Cond.selects RX5 yX5_take yX5_take, Cond.initialized RX5, Cond.code yX5_take cX5_take 2 none, Cond.fieldLink RX5 12 "ShadowTable$State" "live" "LShadowTable$Rows;", Cond.fieldLink RX5 18 "ShadowTable$State" "old" "LShadowTable$Rows;", Cond.fieldLink RX5 39 "ShadowTable$State" "hasOld" "Z", Cond.fieldLink RX5 24 "ShadowTable$State" "copy" "LShadowTable$Copy;", Cond.fieldLink RX5 28 "ShadowTable$State" "settings" "[I"]
def wsX6_set_r2 : List Cond := [Cond.methodLink RX5 46 arraycopyName, Cond.native arraycopyName, Cond.static arraycopyName, Cond.initialized "java/lang/System", Cond.fieldLink RX5 32 "ShadowTable$State" "totals" "[I", Cond.methodLink RX5 35 yX3_take, Cond.instanceMethod yX3_take, Cond.selects RX3 yX3_take yX3_take, Cond.initialized RX3, Cond.code yX3_take cX3_take 2 none, Cond.fieldLink RX3 9 "ShadowTable$Rows" "values" "[I", Cond.methodLink RX3 21 arraycopyName, Cond.methodLink RX5 43 yX0_take, Cond.instanceMethod yX0_take, Cond.selects RX0 yX0_take yX0_take, Cond.initialized RX0, Cond.code yX0_take cX0_take 2 none, Cond.fieldLink RX0 12 "ShadowTable$Copy" "shadow" "LShadowTable$Rows;", Cond.fieldLink RX0 21 "ShadowTable$Copy" "log" "LShadowTable$Log;", Cond.fieldLink RX0 25 "ShadowTable$Copy" "phase" "I", Cond.fieldLink RX0 33 "ShadowTable$Copy" "kind" "I", Cond.fieldLink RX0 36 "ShadowTable$Copy" "lot" "I", Cond.fieldLink RX0 39 "ShadowTable$Copy" "cursor" "I", Cond.fieldLink RX0 49 "ShadowTable$Copy" "age" "I"]
def wsX6_set_r3 : List Cond := [Cond.methodLink RX0 42 yX3_take, Cond.methodLink RX0 46 yX2_take, Cond.instanceMethod yX2_take, Cond.selects RX2 yX2_take yX2_take, Cond.initialized RX2, Cond.code yX2_take cX2_take 2 none, Cond.fieldLink RX2 9 "ShadowTable$Log" "keys" "[I", Cond.methodLink RX2 25 arraycopyName, Cond.fieldLink RX2 15 "ShadowTable$Log" "values" "[I", Cond.fieldLink RX2 18 "ShadowTable$Log" "start" "I", Cond.fieldLink RX2 22 "ShadowTable$Log" "size" "I", Cond.methodLink RX6 70 yX5_changeSetting, Cond.instanceMethod yX5_changeSetting, Cond.selects RX5 yX5_changeSetting yX5_changeSetting, Cond.code yX5_changeSetting cX5_changeSetting 4 (some .int), Cond.static yX6_isSetting, Cond.initialized RX6, Cond.code yX6_isSetting cX6_isSetting 1 (some .boolean), Cond.methodLink RX6 135 yX6_isIn, Cond.static yX6_isIn, Cond.code yX6_isIn cX6_isIn 3 (some .boolean), Cond.methodLink RX6 44 yX6_recorded, Cond.instanceMethod yX6_recorded, Cond.selects RX6 yX6_recorded yX6_recorded]
def wsX6_set_r4 : List Cond := [Cond.code yX6_recorded cX6_recorded 2 (some .int), Cond.methodLink RX6 95 yX6_isError, Cond.static yX6_isError, Cond.code yX6_isError cX6_isError 1 (some .boolean), Cond.methodLink RX6 82 yX1_keepPrepared, Cond.instanceMethod yX1_keepPrepared, Cond.selects RX1 yX1_keepPrepared yX1_keepPrepared, Cond.code yX1_keepPrepared cX1_keepPrepared 1 none]
def wsX6_set : List Cond := .code yX6_set cX6_set 3 (some .int) :: ((wsX6_set_r1 ++ (wsX6_set_r2 ++ (wsX6_set_r3 ++ wsX6_set_r4))) ++ wsX60 ++ wsX10 ++ wsX50 ++ wsX30 ++ wsX00 ++ wsX20)
def wsX6_append : List Cond := .code yX6_append cX6_append 2 (some .int) :: ([.fieldLink RX6 32 "ShadowTable" "script" "LShadowTable$Script;", .methodLink RX6 73 yX4_appendCharacter, .instanceMethod yX4_appendCharacter, .selects RX4 yX4_appendCharacter yX4_appendCharacter, .initialized RX4, .code yX4_appendCharacter cX4_appendCharacter 2 (some .int), .fieldLink RX4 19 "ShadowTable$Script" "length" "I", .fieldLink RX4 9 "ShadowTable$Script" "characters" "[I", .static yX6_isIn, .initialized RX6, .code yX6_isIn cX6_isIn 3 (some .boolean)] ++ wsX60 ++ wsX40)
def wsX6_clearText : List Cond := .code yX6_clearText cX6_clearText 1 (some .int) :: ([.fieldLink RX6 32 "ShadowTable" "script" "LShadowTable$Script;", .methodLink RX6 76 yX4_empty, .instanceMethod yX4_empty, .selects RX4 yX4_empty yX4_empty, .initialized RX4, .code yX4_empty cX4_empty 2 (some .int), .fieldLink RX4 19 "ShadowTable$Script" "length" "I"] ++ wsX60 ++ wsX40)
def wsX6_fault_r1 : List Cond := [Cond.fieldLink RX6 32 "ShadowTable" "script" "LShadowTable$Script;", Cond.methodLink RX6 79 yX4_findFault, Cond.instanceMethod yX4_findFault, Cond.selects RX4 yX4_findFault yX4_findFault, Cond.initialized RX4, Cond.code yX4_findFault cX4_findFault 2 (some .int), Cond.fieldLink RX4 23 "ShadowTable$Script" "position" "I", Cond.fieldLink RX4 19 "ShadowTable$Script" "length" "I", Cond.methodLink RX4 26 yX4_goToStart, Cond.instanceMethod yX4_goToStart, Cond.selects RX4 yX4_goToStart yX4_goToStart, Cond.code yX4_goToStart cX4_goToStart 1 none, Cond.methodLink RX4 29 yX4_readOrder, Cond.instanceMethod yX4_readOrder, Cond.selects RX4 yX4_readOrder yX4_readOrder, Cond.code yX4_readOrder cX4_readOrder 1 (some .boolean), Cond.fieldLink RX4 41 "ShadowTable$Script" "order" "I", Cond.fieldLink RX4 51 "ShadowTable$Script" "first" "I", Cond.methodLink RX4 37 yX4_here, Cond.instanceMethod yX4_here, Cond.selects RX4 yX4_here yX4_here, Cond.code yX4_here cX4_here 1 (some .int), Cond.fieldLink RX4 9 "ShadowTable$Script" "characters" "[I", Cond.methodLink RX4 44 yX4_readFirst]
def wsX6_fault_r2 : List Cond := [Cond.instanceMethod yX4_readFirst, Cond.selects RX4 yX4_readFirst yX4_readFirst, Cond.code yX4_readFirst cX4_readFirst 4 (some .boolean), Cond.fieldLink RX4 57 "ShadowTable$Script" "number" "I", Cond.methodLink RX4 54 yX4_readNumber, Cond.instanceMethod yX4_readNumber, Cond.selects RX4 yX4_readNumber yX4_readNumber, Cond.code yX4_readNumber cX4_readNumber 4 (some .boolean), Cond.methodLink RX4 63 yX4_digitHere, Cond.instanceMethod yX4_digitHere, Cond.selects RX4 yX4_digitHere yX4_digitHere, Cond.code yX4_digitHere cX4_digitHere 2 (some .int), Cond.static yX6_isIn, Cond.initialized RX6, Cond.code yX6_isIn cX6_isIn 3 (some .boolean), Cond.methodLink RX4 33 yX4_skip, Cond.instanceMethod yX4_skip, Cond.selects RX4 yX4_skip yX4_skip, Cond.code yX4_skip cX4_skip 2 (some .boolean), Cond.methodLink RX4 48 yX4_readSecond, Cond.instanceMethod yX4_readSecond, Cond.selects RX4 yX4_readSecond yX4_readSecond, Cond.code yX4_readSecond cX4_readSecond 4 (some .boolean), Cond.fieldLink RX4 60 "ShadowTable$Script" "second" "I"]
def wsX6_fault : List Cond := .code yX6_fault cX6_fault 1 (some .int) :: ((wsX6_fault_r1 ++ wsX6_fault_r2) ++ wsX60 ++ wsX40)
def wsX6_carryOutOrder_r1 : List Cond := [Cond.fieldLink RX6 32 "ShadowTable" "script" "LShadowTable$Script;", Cond.fieldLink RX6 10 "ShadowTable" "state" "LShadowTable$State;", Cond.methodLink RX6 40 yX5_putRow, Cond.instanceMethod yX5_putRow, Cond.selects RX5 yX5_putRow yX5_putRow, Cond.initialized RX5, Cond.code yX5_putRow cX5_putRow 3 (some .int), Cond.fieldLink RX5 24 "ShadowTable$State" "copy" "LShadowTable$Copy;", Cond.static yX6_isKey, Cond.initialized RX6, Cond.code yX6_isKey cX6_isKey 1 (some .boolean), Cond.methodLink RX6 135 yX6_isIn, Cond.static yX6_isIn, Cond.code yX6_isIn cX6_isIn 3 (some .boolean), Cond.static yX6_isValue, Cond.code yX6_isValue cX6_isValue 1 (some .boolean), Cond.methodLink RX5 63 yX5_changeRow, Cond.instanceMethod yX5_changeRow, Cond.selects RX5 yX5_changeRow yX5_changeRow, Cond.code yX5_changeRow cX5_changeRow 4 (some .int), Cond.fieldLink RX5 28 "ShadowTable$State" "settings" "[I", Cond.fieldLink RX5 12 "ShadowTable$State" "live" "LShadowTable$Rows;", Cond.methodLink RX5 71 yX5_hasCopy, Cond.instanceMethod yX5_hasCopy]
def wsX6_carryOutOrder_r2 : List Cond := [Cond.selects RX5 yX5_hasCopy yX5_hasCopy, Cond.code yX5_hasCopy cX5_hasCopy 1 (some .boolean), Cond.methodLink RX5 79 yX2_add, Cond.instanceMethod yX2_add, Cond.selects RX2 yX2_add yX2_add, Cond.initialized RX2, Cond.code yX2_add cX2_add 4 (some .boolean), Cond.fieldLink RX2 22 "ShadowTable$Log" "size" "I", Cond.fieldLink RX2 9 "ShadowTable$Log" "keys" "[I", Cond.fieldLink RX2 15 "ShadowTable$Log" "values" "[I", Cond.methodLink RX2 31 yX2_slotOf, Cond.instanceMethod yX2_slotOf, Cond.selects RX2 yX2_slotOf yX2_slotOf, Cond.code yX2_slotOf cX2_slotOf 2 (some .int), Cond.fieldLink RX2 18 "ShadowTable$Log" "start" "I", Cond.methodLink RX5 85 yX5_endGivenUp, Cond.instanceMethod yX5_endGivenUp, Cond.selects RX5 yX5_endGivenUp yX5_endGivenUp, Cond.code yX5_endGivenUp cX5_endGivenUp 1 none, Cond.fieldLink RX5 32 "ShadowTable$State" "totals" "[I", Cond.methodLink RX5 67 yX3_at, Cond.instanceMethod yX3_at, Cond.selects RX3 yX3_at yX3_at, Cond.initialized RX3]
def wsX6_carryOutOrder_r3 : List Cond := [Cond.code yX3_at cX3_at 2 (some .int), Cond.fieldLink RX3 9 "ShadowTable$Rows" "values" "[I", Cond.methodLink RX5 88 yX3_place, Cond.instanceMethod yX3_place, Cond.selects RX3 yX3_place yX3_place, Cond.code yX3_place cX3_place 3 none, Cond.methodLink RX6 48 yX5_eraseRow, Cond.instanceMethod yX5_eraseRow, Cond.selects RX5 yX5_eraseRow yX5_eraseRow, Cond.code yX5_eraseRow cX5_eraseRow 2 (some .int), Cond.methodLink RX6 51 yX5_beginCopy, Cond.instanceMethod yX5_beginCopy, Cond.selects RX5 yX5_beginCopy yX5_beginCopy, Cond.code yX5_beginCopy cX5_beginCopy 3 (some .int), Cond.static yX6_isKind, Cond.code yX6_isKind cX6_isKind 1 (some .boolean), Cond.static yX6_isLot, Cond.code yX6_isLot cX6_isLot 1 (some .boolean), Cond.methodLink RX5 98 yX0_start, Cond.instanceMethod yX0_start, Cond.selects RX0 yX0_start yX0_start, Cond.initialized RX0, Cond.code yX0_start cX0_start 3 none, Cond.fieldLink RX0 12 "ShadowTable$Copy" "shadow" "LShadowTable$Rows;"]
def wsX6_carryOutOrder_r4 : List Cond := [Cond.fieldLink RX0 21 "ShadowTable$Copy" "log" "LShadowTable$Log;", Cond.fieldLink RX0 25 "ShadowTable$Copy" "phase" "I", Cond.fieldLink RX0 33 "ShadowTable$Copy" "kind" "I", Cond.fieldLink RX0 36 "ShadowTable$Copy" "lot" "I", Cond.fieldLink RX0 39 "ShadowTable$Copy" "cursor" "I", Cond.methodLink RX0 29 yX3_removeAll, Cond.instanceMethod yX3_removeAll, Cond.selects RX3 yX3_removeAll yX3_removeAll, Cond.code yX3_removeAll cX3_removeAll 1 none, Cond.methodLink RX3 15 yJ7_fill_53178, Cond.static yJ7_fill_53178, Cond.initialized RJ7, Cond.code yJ7_fill_53178 cJ7_fill_53178 4 none, Cond.methodLink RX0 32 yX2_removeAll, Cond.instanceMethod yX2_removeAll, Cond.selects RX2 yX2_removeAll yX2_removeAll, Cond.code yX2_removeAll cX2_removeAll 1 none, Cond.methodLink RX5 101 yX3_count, Cond.instanceMethod yX3_count, Cond.selects RX3 yX3_count yX3_count, Cond.code yX3_count cX3_count 3 (some .int), Cond.methodLink RX6 54 yX5_makeTicks, Cond.instanceMethod yX5_makeTicks, Cond.selects RX5 yX5_makeTicks yX5_makeTicks]
def wsX6_carryOutOrder_r5 : List Cond := [Cond.code yX5_makeTicks cX5_makeTicks 3 (some .int), Cond.static yX6_isTicks, Cond.code yX6_isTicks cX6_isTicks 1 (some .boolean), Cond.methodLink RX5 108 yX5_makeTick, Cond.instanceMethod yX5_makeTick, Cond.selects RX5 yX5_makeTick yX5_makeTick, Cond.code yX5_makeTick cX5_makeTick 1 none, Cond.methodLink RX5 111 yX5_lockRunsOut, Cond.instanceMethod yX5_lockRunsOut, Cond.selects RX5 yX5_lockRunsOut yX5_lockRunsOut, Cond.code yX5_lockRunsOut cX5_lockRunsOut 1 (some .boolean), Cond.methodLink RX5 114 yX5_applyEntries, Cond.instanceMethod yX5_applyEntries, Cond.selects RX5 yX5_applyEntries yX5_applyEntries, Cond.code yX5_applyEntries cX5_applyEntries 4 none, Cond.methodLink RX5 126 yX2_keyAt, Cond.instanceMethod yX2_keyAt, Cond.selects RX2 yX2_keyAt yX2_keyAt, Cond.code yX2_keyAt cX2_keyAt 2 (some .int), Cond.methodLink RX5 135 yX2_valueAt, Cond.instanceMethod yX2_valueAt, Cond.selects RX2 yX2_valueAt yX2_valueAt, Cond.code yX2_valueAt cX2_valueAt 2 (some .int), Cond.static yX6_changedValue]
def wsX6_carryOutOrder_r6 : List Cond := [Cond.code yX6_changedValue cX6_changedValue 3 (some .int), Cond.methodLink RX5 142 yX2_removeFirst, Cond.instanceMethod yX2_removeFirst, Cond.selects RX2 yX2_removeFirst yX2_removeFirst, Cond.code yX2_removeFirst cX2_removeFirst 1 none, Cond.methodLink RX5 117 yX5_copyLot, Cond.instanceMethod yX5_copyLot, Cond.selects RX5 yX5_copyLot yX5_copyLot, Cond.code yX5_copyLot cX5_copyLot 3 none, Cond.methodLink RX5 151 yX0_copyKey, Cond.instanceMethod yX0_copyKey, Cond.selects RX0 yX0_copyKey yX0_copyKey, Cond.code yX0_copyKey cX0_copyKey 4 (some .boolean), Cond.methodLink RX0 56 yX3_at, Cond.methodLink RX0 60 yX3_place, Cond.methodLink RX6 57 yX5_lockLive, Cond.instanceMethod yX5_lockLive, Cond.selects RX5 yX5_lockLive yX5_lockLive, Cond.code yX5_lockLive cX5_lockLive 1 (some .int), Cond.methodLink RX6 61 yX5_unlockLive, Cond.instanceMethod yX5_unlockLive, Cond.selects RX5 yX5_unlockLive yX5_unlockLive, Cond.code yX5_unlockLive cX5_unlockLive 1 (some .int), Cond.methodLink RX6 64 yX5_swapTables]
def wsX6_carryOutOrder_r7 : List Cond := [Cond.instanceMethod yX5_swapTables, Cond.selects RX5 yX5_swapTables yX5_swapTables, Cond.code yX5_swapTables cX5_swapTables 1 (some .int), Cond.fieldLink RX5 18 "ShadowTable$State" "old" "LShadowTable$Rows;", Cond.fieldLink RX5 39 "ShadowTable$State" "hasOld" "Z", Cond.methodLink RX5 35 yX3_take, Cond.instanceMethod yX3_take, Cond.selects RX3 yX3_take yX3_take, Cond.code yX3_take cX3_take 2 none, Cond.methodLink RX3 21 arraycopyName, Cond.native arraycopyName, Cond.static arraycopyName, Cond.initialized "java/lang/System", Cond.methodLink RX6 67 yX5_giveCopyUp, Cond.instanceMethod yX5_giveCopyUp, Cond.selects RX5 yX5_giveCopyUp yX5_giveCopyUp, Cond.code yX5_giveCopyUp cX5_giveCopyUp 1 (some .int)]
def wsX6_carryOutOrder : List Cond := .code yX6_carryOutOrder cX6_carryOutOrder 1 (some .int) :: ((wsX6_carryOutOrder_r1 ++ (wsX6_carryOutOrder_r2 ++ (wsX6_carryOutOrder_r3 ++ (wsX6_carryOutOrder_r4 ++ (wsX6_carryOutOrder_r5 ++ (wsX6_carryOutOrder_r6 ++ wsX6_carryOutOrder_r7)))))) ++ wsX60 ++ wsX40 ++ wsX50 ++ wsX00 ++ wsX20 ++ wsX30)
def wsX6_run_r1 : List Cond := [Cond.fieldLink RX6 32 "ShadowTable" "script" "LShadowTable$Script;", Cond.fieldLink RX6 25 "ShadowTable" "history" "LShadowTable$History;", Cond.fieldLink RX6 10 "ShadowTable" "state" "LShadowTable$State;", Cond.methodLink RX6 79 yX4_findFault, Cond.instanceMethod yX4_findFault, Cond.selects RX4 yX4_findFault yX4_findFault, Cond.initialized RX4, Cond.code yX4_findFault cX4_findFault 2 (some .int), Cond.fieldLink RX4 23 "ShadowTable$Script" "position" "I", Cond.fieldLink RX4 19 "ShadowTable$Script" "length" "I", Cond.methodLink RX4 26 yX4_goToStart, Cond.instanceMethod yX4_goToStart, Cond.selects RX4 yX4_goToStart yX4_goToStart, Cond.code yX4_goToStart cX4_goToStart 1 none, Cond.methodLink RX4 29 yX4_readOrder, Cond.instanceMethod yX4_readOrder, Cond.selects RX4 yX4_readOrder yX4_readOrder, Cond.code yX4_readOrder cX4_readOrder 1 (some .boolean), Cond.fieldLink RX4 41 "ShadowTable$Script" "order" "I", Cond.fieldLink RX4 51 "ShadowTable$Script" "first" "I", Cond.methodLink RX4 37 yX4_here, Cond.instanceMethod yX4_here, Cond.selects RX4 yX4_here yX4_here, Cond.code yX4_here cX4_here 1 (some .int)]
def wsX6_run_r2 : List Cond := [Cond.fieldLink RX4 9 "ShadowTable$Script" "characters" "[I", Cond.methodLink RX4 44 yX4_readFirst, Cond.instanceMethod yX4_readFirst, Cond.selects RX4 yX4_readFirst yX4_readFirst, Cond.code yX4_readFirst cX4_readFirst 4 (some .boolean), Cond.fieldLink RX4 57 "ShadowTable$Script" "number" "I", Cond.methodLink RX4 54 yX4_readNumber, Cond.instanceMethod yX4_readNumber, Cond.selects RX4 yX4_readNumber yX4_readNumber, Cond.code yX4_readNumber cX4_readNumber 4 (some .boolean), Cond.methodLink RX4 63 yX4_digitHere, Cond.instanceMethod yX4_digitHere, Cond.selects RX4 yX4_digitHere yX4_digitHere, Cond.code yX4_digitHere cX4_digitHere 2 (some .int), Cond.static yX6_isIn, Cond.initialized RX6, Cond.code yX6_isIn cX6_isIn 3 (some .boolean), Cond.methodLink RX4 33 yX4_skip, Cond.instanceMethod yX4_skip, Cond.selects RX4 yX4_skip yX4_skip, Cond.code yX4_skip cX4_skip 2 (some .boolean), Cond.methodLink RX4 48 yX4_readSecond, Cond.instanceMethod yX4_readSecond, Cond.selects RX4 yX4_readSecond yX4_readSecond]
def wsX6_run_r3 : List Cond := [Cond.code yX4_readSecond cX4_readSecond 4 (some .boolean), Cond.fieldLink RX4 60 "ShadowTable$Script" "second" "I", Cond.methodLink RX6 36 yX1_prepare, Cond.instanceMethod yX1_prepare, Cond.selects RX1 yX1_prepare yX1_prepare, Cond.initialized RX1, Cond.code yX1_prepare cX1_prepare 2 none, Cond.fieldLink RX1 13 "ShadowTable$History" "slots" "[LShadowTable$State;", Cond.fieldLink RX1 18 "ShadowTable$History" "count" "I", Cond.methodLink RX1 22 yX1_slotOf, Cond.instanceMethod yX1_slotOf, Cond.selects RX1 yX1_slotOf yX1_slotOf, Cond.code yX1_slotOf cX1_slotOf 2 (some .int), Cond.fieldLink RX1 30 "ShadowTable$History" "start" "I", Cond.methodLink RX1 26 yX5_take, Cond.instanceMethod yX5_take, Cond.selects RX5 yX5_take yX5_take, Cond.initialized RX5, Cond.code yX5_take cX5_take 2 none, Cond.fieldLink RX5 12 "ShadowTable$State" "live" "LShadowTable$Rows;", Cond.fieldLink RX5 18 "ShadowTable$State" "old" "LShadowTable$Rows;", Cond.fieldLink RX5 39 "ShadowTable$State" "hasOld" "Z", Cond.fieldLink RX5 24 "ShadowTable$State" "copy" "LShadowTable$Copy;", Cond.fieldLink RX5 28 "ShadowTable$State" "settings" "[I"]
def wsX6_run_r4 : List Cond := [Cond.methodLink RX5 46 arraycopyName, Cond.native arraycopyName, Cond.static arraycopyName, Cond.initialized "java/lang/System", Cond.fieldLink RX5 32 "ShadowTable$State" "totals" "[I", Cond.methodLink RX5 35 yX3_take, Cond.instanceMethod yX3_take, Cond.selects RX3 yX3_take yX3_take, Cond.initialized RX3, Cond.code yX3_take cX3_take 2 none, Cond.fieldLink RX3 9 "ShadowTable$Rows" "values" "[I", Cond.methodLink RX3 21 arraycopyName, Cond.methodLink RX5 43 yX0_take, Cond.instanceMethod yX0_take, Cond.selects RX0 yX0_take yX0_take, Cond.initialized RX0, Cond.code yX0_take cX0_take 2 none, Cond.fieldLink RX0 12 "ShadowTable$Copy" "shadow" "LShadowTable$Rows;", Cond.fieldLink RX0 21 "ShadowTable$Copy" "log" "LShadowTable$Log;", Cond.fieldLink RX0 25 "ShadowTable$Copy" "phase" "I", Cond.fieldLink RX0 33 "ShadowTable$Copy" "kind" "I", Cond.fieldLink RX0 36 "ShadowTable$Copy" "lot" "I", Cond.fieldLink RX0 39 "ShadowTable$Copy" "cursor" "I", Cond.fieldLink RX0 49 "ShadowTable$Copy" "age" "I"]
def wsX6_run_r5 : List Cond := [Cond.methodLink RX0 42 yX3_take, Cond.methodLink RX0 46 yX2_take, Cond.instanceMethod yX2_take, Cond.selects RX2 yX2_take yX2_take, Cond.initialized RX2, Cond.code yX2_take cX2_take 2 none, Cond.fieldLink RX2 9 "ShadowTable$Log" "keys" "[I", Cond.methodLink RX2 25 arraycopyName, Cond.fieldLink RX2 15 "ShadowTable$Log" "values" "[I", Cond.fieldLink RX2 18 "ShadowTable$Log" "start" "I", Cond.fieldLink RX2 22 "ShadowTable$Log" "size" "I", Cond.methodLink RX6 82 yX1_keepPrepared, Cond.instanceMethod yX1_keepPrepared, Cond.selects RX1 yX1_keepPrepared yX1_keepPrepared, Cond.code yX1_keepPrepared cX1_keepPrepared 1 none, Cond.methodLink RX6 85 yX4_goToStart, Cond.methodLink RX6 88 yX4_readOrder, Cond.methodLink RX6 92 yX6_carryOutOrder, Cond.instanceMethod yX6_carryOutOrder, Cond.selects RX6 yX6_carryOutOrder yX6_carryOutOrder, Cond.code yX6_carryOutOrder cX6_carryOutOrder 1 (some .int), Cond.methodLink RX6 40 yX5_putRow, Cond.instanceMethod yX5_putRow, Cond.selects RX5 yX5_putRow yX5_putRow]
def wsX6_run_r6 : List Cond := [Cond.code yX5_putRow cX5_putRow 3 (some .int), Cond.static yX6_isKey, Cond.code yX6_isKey cX6_isKey 1 (some .boolean), Cond.methodLink RX6 135 yX6_isIn, Cond.static yX6_isValue, Cond.code yX6_isValue cX6_isValue 1 (some .boolean), Cond.methodLink RX5 63 yX5_changeRow, Cond.instanceMethod yX5_changeRow, Cond.selects RX5 yX5_changeRow yX5_changeRow, Cond.code yX5_changeRow cX5_changeRow 4 (some .int), Cond.methodLink RX5 71 yX5_hasCopy, Cond.instanceMethod yX5_hasCopy, Cond.selects RX5 yX5_hasCopy yX5_hasCopy, Cond.code yX5_hasCopy cX5_hasCopy 1 (some .boolean), Cond.methodLink RX5 79 yX2_add, Cond.instanceMethod yX2_add, Cond.selects RX2 yX2_add yX2_add, Cond.code yX2_add cX2_add 4 (some .boolean), Cond.methodLink RX2 31 yX2_slotOf, Cond.instanceMethod yX2_slotOf, Cond.selects RX2 yX2_slotOf yX2_slotOf, Cond.code yX2_slotOf cX2_slotOf 2 (some .int), Cond.methodLink RX5 85 yX5_endGivenUp, Cond.instanceMethod yX5_endGivenUp]
def wsX6_run_r7 : List Cond := [Cond.selects RX5 yX5_endGivenUp yX5_endGivenUp, Cond.code yX5_endGivenUp cX5_endGivenUp 1 none, Cond.methodLink RX5 67 yX3_at, Cond.instanceMethod yX3_at, Cond.selects RX3 yX3_at yX3_at, Cond.code yX3_at cX3_at 2 (some .int), Cond.methodLink RX5 88 yX3_place, Cond.instanceMethod yX3_place, Cond.selects RX3 yX3_place yX3_place, Cond.code yX3_place cX3_place 3 none, Cond.methodLink RX6 48 yX5_eraseRow, Cond.instanceMethod yX5_eraseRow, Cond.selects RX5 yX5_eraseRow yX5_eraseRow, Cond.code yX5_eraseRow cX5_eraseRow 2 (some .int), Cond.methodLink RX6 51 yX5_beginCopy, Cond.instanceMethod yX5_beginCopy, Cond.selects RX5 yX5_beginCopy yX5_beginCopy, Cond.code yX5_beginCopy cX5_beginCopy 3 (some .int), Cond.static yX6_isKind, Cond.code yX6_isKind cX6_isKind 1 (some .boolean), Cond.static yX6_isLot, Cond.code yX6_isLot cX6_isLot 1 (some .boolean), Cond.methodLink RX5 98 yX0_start, Cond.instanceMethod yX0_start]
def wsX6_run_r8 : List Cond := [Cond.selects RX0 yX0_start yX0_start, Cond.code yX0_start cX0_start 3 none, Cond.methodLink RX0 29 yX3_removeAll, Cond.instanceMethod yX3_removeAll, Cond.selects RX3 yX3_removeAll yX3_removeAll, Cond.code yX3_removeAll cX3_removeAll 1 none, Cond.methodLink RX3 15 yJ7_fill_53178, Cond.static yJ7_fill_53178, Cond.initialized RJ7, Cond.code yJ7_fill_53178 cJ7_fill_53178 4 none, Cond.methodLink RX0 32 yX2_removeAll, Cond.instanceMethod yX2_removeAll, Cond.selects RX2 yX2_removeAll yX2_removeAll, Cond.code yX2_removeAll cX2_removeAll 1 none, Cond.methodLink RX5 101 yX3_count, Cond.instanceMethod yX3_count, Cond.selects RX3 yX3_count yX3_count, Cond.code yX3_count cX3_count 3 (some .int), Cond.methodLink RX6 54 yX5_makeTicks, Cond.instanceMethod yX5_makeTicks, Cond.selects RX5 yX5_makeTicks yX5_makeTicks, Cond.code yX5_makeTicks cX5_makeTicks 3 (some .int), Cond.static yX6_isTicks, Cond.code yX6_isTicks cX6_isTicks 1 (some .boolean)]
def wsX6_run_r9 : List Cond := [Cond.methodLink RX5 108 yX5_makeTick, Cond.instanceMethod yX5_makeTick, Cond.selects RX5 yX5_makeTick yX5_makeTick, Cond.code yX5_makeTick cX5_makeTick 1 none, Cond.methodLink RX5 111 yX5_lockRunsOut, Cond.instanceMethod yX5_lockRunsOut, Cond.selects RX5 yX5_lockRunsOut yX5_lockRunsOut, Cond.code yX5_lockRunsOut cX5_lockRunsOut 1 (some .boolean), Cond.methodLink RX5 114 yX5_applyEntries, Cond.instanceMethod yX5_applyEntries, Cond.selects RX5 yX5_applyEntries yX5_applyEntries, Cond.code yX5_applyEntries cX5_applyEntries 4 none, Cond.methodLink RX5 126 yX2_keyAt, Cond.instanceMethod yX2_keyAt, Cond.selects RX2 yX2_keyAt yX2_keyAt, Cond.code yX2_keyAt cX2_keyAt 2 (some .int), Cond.methodLink RX5 135 yX2_valueAt, Cond.instanceMethod yX2_valueAt, Cond.selects RX2 yX2_valueAt yX2_valueAt, Cond.code yX2_valueAt cX2_valueAt 2 (some .int), Cond.static yX6_changedValue, Cond.code yX6_changedValue cX6_changedValue 3 (some .int), Cond.methodLink RX5 142 yX2_removeFirst, Cond.instanceMethod yX2_removeFirst]
def wsX6_run_r10 : List Cond := [Cond.selects RX2 yX2_removeFirst yX2_removeFirst, Cond.code yX2_removeFirst cX2_removeFirst 1 none, Cond.methodLink RX5 117 yX5_copyLot, Cond.instanceMethod yX5_copyLot, Cond.selects RX5 yX5_copyLot yX5_copyLot, Cond.code yX5_copyLot cX5_copyLot 3 none, Cond.methodLink RX5 151 yX0_copyKey, Cond.instanceMethod yX0_copyKey, Cond.selects RX0 yX0_copyKey yX0_copyKey, Cond.code yX0_copyKey cX0_copyKey 4 (some .boolean), Cond.methodLink RX0 56 yX3_at, Cond.methodLink RX0 60 yX3_place, Cond.methodLink RX6 57 yX5_lockLive, Cond.instanceMethod yX5_lockLive, Cond.selects RX5 yX5_lockLive yX5_lockLive, Cond.code yX5_lockLive cX5_lockLive 1 (some .int), Cond.methodLink RX6 61 yX5_unlockLive, Cond.instanceMethod yX5_unlockLive, Cond.selects RX5 yX5_unlockLive yX5_unlockLive, Cond.code yX5_unlockLive cX5_unlockLive 1 (some .int), Cond.methodLink RX6 64 yX5_swapTables, Cond.instanceMethod yX5_swapTables, Cond.selects RX5 yX5_swapTables yX5_swapTables, Cond.code yX5_swapTables cX5_swapTables 1 (some .int)]
def wsX6_run_r11 : List Cond := [Cond.methodLink RX6 67 yX5_giveCopyUp, Cond.instanceMethod yX5_giveCopyUp, Cond.selects RX5 yX5_giveCopyUp yX5_giveCopyUp, Cond.code yX5_giveCopyUp cX5_giveCopyUp 1 (some .int), Cond.methodLink RX6 95 yX6_isError, Cond.static yX6_isError, Cond.code yX6_isError cX6_isError 1 (some .boolean), Cond.methodLink RX6 99 yX4_skip]
def wsX6_run : List Cond := .code yX6_run cX6_run 3 (some .int) :: ((wsX6_run_r1 ++ (wsX6_run_r2 ++ (wsX6_run_r3 ++ (wsX6_run_r4 ++ (wsX6_run_r5 ++ (wsX6_run_r6 ++ (wsX6_run_r7 ++ (wsX6_run_r8 ++ (wsX6_run_r9 ++ (wsX6_run_r10 ++ wsX6_run_r11)))))))))) ++ wsX60 ++ wsX40 ++ wsX10 ++ wsX50 ++ wsX30 ++ wsX00 ++ wsX20)
def wsX6_undo_r1 : List Cond := [Cond.fieldLink RX6 25 "ShadowTable" "history" "LShadowTable$History;", Cond.fieldLink RX6 10 "ShadowTable" "state" "LShadowTable$State;", Cond.methodLink RX6 102 yX1_takeBack, Cond.instanceMethod yX1_takeBack, Cond.selects RX1 yX1_takeBack yX1_takeBack, Cond.initialized RX1, Cond.code yX1_takeBack cX1_takeBack 2 (some .int), Cond.fieldLink RX1 18 "ShadowTable$History" "count" "I", Cond.fieldLink RX1 13 "ShadowTable$History" "slots" "[LShadowTable$State;", Cond.methodLink RX1 22 yX1_slotOf, Cond.instanceMethod yX1_slotOf, Cond.selects RX1 yX1_slotOf yX1_slotOf, Cond.code yX1_slotOf cX1_slotOf 2 (some .int), Cond.fieldLink RX1 30 "ShadowTable$History" "start" "I", Cond.methodLink RX1 26 yX5_take, Cond.instanceMethod yX5_take, Cond.selects RX5 yX5_take yX5_take, Cond.initialized RX5, Cond.code yX5_take cX5_take 2 none, Cond.fieldLink RX5 12 "ShadowTable$State" "live" "LShadowTable$Rows;", Cond.fieldLink RX5 18 "ShadowTable$State" "old" "LShadowTable$Rows;", Cond.fieldLink RX5 39 "ShadowTable$State" "hasOld" "Z", Cond.fieldLink RX5 24 "ShadowTable$State" "copy" "LShadowTable$Copy;", Cond.fieldLink RX5 28 "ShadowTable$State" "settings" "[I"]
def wsX6_undo_r2 : List Cond := [Cond.methodLink RX5 46 arraycopyName, Cond.native arraycopyName, Cond.static arraycopyName, Cond.initialized "java/lang/System", Cond.fieldLink RX5 32 "ShadowTable$State" "totals" "[I", Cond.methodLink RX5 35 yX3_take, Cond.instanceMethod yX3_take, Cond.selects RX3 yX3_take yX3_take, Cond.initialized RX3, Cond.code yX3_take cX3_take 2 none, Cond.fieldLink RX3 9 "ShadowTable$Rows" "values" "[I", Cond.methodLink RX3 21 arraycopyName, Cond.methodLink RX5 43 yX0_take, Cond.instanceMethod yX0_take, Cond.selects RX0 yX0_take yX0_take, Cond.initialized RX0, Cond.code yX0_take cX0_take 2 none, Cond.fieldLink RX0 12 "ShadowTable$Copy" "shadow" "LShadowTable$Rows;", Cond.fieldLink RX0 21 "ShadowTable$Copy" "log" "LShadowTable$Log;", Cond.fieldLink RX0 25 "ShadowTable$Copy" "phase" "I", Cond.fieldLink RX0 33 "ShadowTable$Copy" "kind" "I", Cond.fieldLink RX0 36 "ShadowTable$Copy" "lot" "I", Cond.fieldLink RX0 39 "ShadowTable$Copy" "cursor" "I", Cond.fieldLink RX0 49 "ShadowTable$Copy" "age" "I"]
def wsX6_undo_r3 : List Cond := [Cond.methodLink RX0 42 yX3_take, Cond.methodLink RX0 46 yX2_take, Cond.instanceMethod yX2_take, Cond.selects RX2 yX2_take yX2_take, Cond.initialized RX2, Cond.code yX2_take cX2_take 2 none, Cond.fieldLink RX2 9 "ShadowTable$Log" "keys" "[I", Cond.methodLink RX2 25 arraycopyName, Cond.fieldLink RX2 15 "ShadowTable$Log" "values" "[I", Cond.fieldLink RX2 18 "ShadowTable$Log" "start" "I", Cond.fieldLink RX2 22 "ShadowTable$Log" "size" "I"]
def wsX6_undo : List Cond := .code yX6_undo cX6_undo 1 (some .int) :: ((wsX6_undo_r1 ++ (wsX6_undo_r2 ++ wsX6_undo_r3)) ++ wsX60 ++ wsX10 ++ wsX50 ++ wsX30 ++ wsX00 ++ wsX20)
def wsX6_save_r1 : List Cond := [Cond.fieldLink RX6 16 "ShadowTable" "snapshot" "LShadowTable$State;", Cond.fieldLink RX6 10 "ShadowTable" "state" "LShadowTable$State;", Cond.fieldLink RX6 109 "ShadowTable" "hasSnapshot" "Z", Cond.methodLink RX6 106 yX5_take, Cond.instanceMethod yX5_take, Cond.selects RX5 yX5_take yX5_take, Cond.initialized RX5, Cond.code yX5_take cX5_take 2 none, Cond.fieldLink RX5 12 "ShadowTable$State" "live" "LShadowTable$Rows;", Cond.fieldLink RX5 18 "ShadowTable$State" "old" "LShadowTable$Rows;", Cond.fieldLink RX5 39 "ShadowTable$State" "hasOld" "Z", Cond.fieldLink RX5 24 "ShadowTable$State" "copy" "LShadowTable$Copy;", Cond.fieldLink RX5 28 "ShadowTable$State" "settings" "[I", Cond.methodLink RX5 46 arraycopyName, Cond.native arraycopyName, Cond.static arraycopyName, Cond.initialized "java/lang/System", Cond.fieldLink RX5 32 "ShadowTable$State" "totals" "[I", Cond.methodLink RX5 35 yX3_take, Cond.instanceMethod yX3_take, Cond.selects RX3 yX3_take yX3_take, Cond.initialized RX3, Cond.code yX3_take cX3_take 2 none, Cond.fieldLink RX3 9 "ShadowTable$Rows" "values" "[I"]
def wsX6_save_r2 : List Cond := [Cond.methodLink RX3 21 arraycopyName, Cond.methodLink RX5 43 yX0_take, Cond.instanceMethod yX0_take, Cond.selects RX0 yX0_take yX0_take, Cond.initialized RX0, Cond.code yX0_take cX0_take 2 none, Cond.fieldLink RX0 12 "ShadowTable$Copy" "shadow" "LShadowTable$Rows;", Cond.fieldLink RX0 21 "ShadowTable$Copy" "log" "LShadowTable$Log;", Cond.fieldLink RX0 25 "ShadowTable$Copy" "phase" "I", Cond.fieldLink RX0 33 "ShadowTable$Copy" "kind" "I", Cond.fieldLink RX0 36 "ShadowTable$Copy" "lot" "I", Cond.fieldLink RX0 39 "ShadowTable$Copy" "cursor" "I", Cond.fieldLink RX0 49 "ShadowTable$Copy" "age" "I", Cond.methodLink RX0 42 yX3_take, Cond.methodLink RX0 46 yX2_take, Cond.instanceMethod yX2_take, Cond.selects RX2 yX2_take yX2_take, Cond.initialized RX2, Cond.code yX2_take cX2_take 2 none, Cond.fieldLink RX2 9 "ShadowTable$Log" "keys" "[I", Cond.methodLink RX2 25 arraycopyName, Cond.fieldLink RX2 15 "ShadowTable$Log" "values" "[I", Cond.fieldLink RX2 18 "ShadowTable$Log" "start" "I", Cond.fieldLink RX2 22 "ShadowTable$Log" "size" "I"]
def wsX6_save_r3 : List Cond := [Cond.methodLink RX6 117 yX3_count, Cond.instanceMethod yX3_count, Cond.selects RX3 yX3_count yX3_count, Cond.code yX3_count cX3_count 3 (some .int)]
def wsX6_save : List Cond := .code yX6_save cX6_save 1 (some .int) :: ((wsX6_save_r1 ++ (wsX6_save_r2 ++ wsX6_save_r3)) ++ wsX60 ++ wsX50 ++ wsX30 ++ wsX00 ++ wsX20)
def wsX6_restore_r1 : List Cond := [Cond.fieldLink RX6 109 "ShadowTable" "hasSnapshot" "Z", Cond.fieldLink RX6 25 "ShadowTable" "history" "LShadowTable$History;", Cond.fieldLink RX6 10 "ShadowTable" "state" "LShadowTable$State;", Cond.fieldLink RX6 16 "ShadowTable" "snapshot" "LShadowTable$State;", Cond.methodLink RX6 36 yX1_prepare, Cond.instanceMethod yX1_prepare, Cond.selects RX1 yX1_prepare yX1_prepare, Cond.initialized RX1, Cond.code yX1_prepare cX1_prepare 2 none, Cond.fieldLink RX1 13 "ShadowTable$History" "slots" "[LShadowTable$State;", Cond.fieldLink RX1 18 "ShadowTable$History" "count" "I", Cond.methodLink RX1 22 yX1_slotOf, Cond.instanceMethod yX1_slotOf, Cond.selects RX1 yX1_slotOf yX1_slotOf, Cond.code yX1_slotOf cX1_slotOf 2 (some .int), Cond.fieldLink RX1 30 "ShadowTable$History" "start" "I", Cond.methodLink RX1 26 yX5_take, Cond.instanceMethod yX5_take, Cond.selects RX5 yX5_take yX5_take, Cond.initialized RX5, Cond.code yX5_take cX5_take 2 none, Cond.fieldLink RX5 12 "ShadowTable$State" "live" "LShadowTable$Rows;", Cond.fieldLink RX5 18 "ShadowTable$State" "old" "LShadowTable$Rows;", Cond.fieldLink RX5 39 "ShadowTable$State" "hasOld" "Z"]
def wsX6_restore_r2 : List Cond := [Cond.fieldLink RX5 24 "ShadowTable$State" "copy" "LShadowTable$Copy;", Cond.fieldLink RX5 28 "ShadowTable$State" "settings" "[I", Cond.methodLink RX5 46 arraycopyName, Cond.native arraycopyName, Cond.static arraycopyName, Cond.initialized "java/lang/System", Cond.fieldLink RX5 32 "ShadowTable$State" "totals" "[I", Cond.methodLink RX5 35 yX3_take, Cond.instanceMethod yX3_take, Cond.selects RX3 yX3_take yX3_take, Cond.initialized RX3, Cond.code yX3_take cX3_take 2 none, Cond.fieldLink RX3 9 "ShadowTable$Rows" "values" "[I", Cond.methodLink RX3 21 arraycopyName, Cond.methodLink RX5 43 yX0_take, Cond.instanceMethod yX0_take, Cond.selects RX0 yX0_take yX0_take, Cond.initialized RX0, Cond.code yX0_take cX0_take 2 none, Cond.fieldLink RX0 12 "ShadowTable$Copy" "shadow" "LShadowTable$Rows;", Cond.fieldLink RX0 21 "ShadowTable$Copy" "log" "LShadowTable$Log;", Cond.fieldLink RX0 25 "ShadowTable$Copy" "phase" "I", Cond.fieldLink RX0 33 "ShadowTable$Copy" "kind" "I", Cond.fieldLink RX0 36 "ShadowTable$Copy" "lot" "I"]
def wsX6_restore_r3 : List Cond := [Cond.fieldLink RX0 39 "ShadowTable$Copy" "cursor" "I", Cond.fieldLink RX0 49 "ShadowTable$Copy" "age" "I", Cond.methodLink RX0 42 yX3_take, Cond.methodLink RX0 46 yX2_take, Cond.instanceMethod yX2_take, Cond.selects RX2 yX2_take yX2_take, Cond.initialized RX2, Cond.code yX2_take cX2_take 2 none, Cond.fieldLink RX2 9 "ShadowTable$Log" "keys" "[I", Cond.methodLink RX2 25 arraycopyName, Cond.fieldLink RX2 15 "ShadowTable$Log" "values" "[I", Cond.fieldLink RX2 18 "ShadowTable$Log" "start" "I", Cond.fieldLink RX2 22 "ShadowTable$Log" "size" "I", Cond.methodLink RX6 106 yX5_take, Cond.methodLink RX6 117 yX3_count, Cond.instanceMethod yX3_count, Cond.selects RX3 yX3_count yX3_count, Cond.code yX3_count cX3_count 3 (some .int), Cond.methodLink RX6 44 yX6_recorded, Cond.instanceMethod yX6_recorded, Cond.selects RX6 yX6_recorded yX6_recorded, Cond.initialized RX6, Cond.code yX6_recorded cX6_recorded 2 (some .int), Cond.methodLink RX6 95 yX6_isError]
def wsX6_restore_r4 : List Cond := [Cond.static yX6_isError, Cond.code yX6_isError cX6_isError 1 (some .boolean), Cond.methodLink RX6 82 yX1_keepPrepared, Cond.instanceMethod yX1_keepPrepared, Cond.selects RX1 yX1_keepPrepared yX1_keepPrepared, Cond.code yX1_keepPrepared cX1_keepPrepared 1 none]
def wsX6_restore : List Cond := .code yX6_restore cX6_restore 1 (some .int) :: ((wsX6_restore_r1 ++ (wsX6_restore_r2 ++ (wsX6_restore_r3 ++ wsX6_restore_r4))) ++ wsX60 ++ wsX50 ++ wsX10 ++ wsX30 ++ wsX00 ++ wsX20)
def wsX6_isTable : List Cond := .code yX6_isTable cX6_isTable 1 (some .boolean) :: ([.methodLink RX6 135 yX6_isIn, .static yX6_isIn, .initialized RX6, .code yX6_isIn cX6_isIn 3 (some .boolean)])
def wsX6_value_r1 : List Cond := [Cond.fieldLink RX6 10 "ShadowTable" "state" "LShadowTable$State;", Cond.methodLink RX6 122 yX6_isKey, Cond.static yX6_isKey, Cond.initialized RX6, Cond.code yX6_isKey cX6_isKey 1 (some .boolean), Cond.methodLink RX6 135 yX6_isIn, Cond.static yX6_isIn, Cond.code yX6_isIn cX6_isIn 3 (some .boolean), Cond.methodLink RX6 125 yX6_isTable, Cond.static yX6_isTable, Cond.code yX6_isTable cX6_isTable 1 (some .boolean), Cond.methodLink RX6 128 yX5_rowsOf, Cond.instanceMethod yX5_rowsOf, Cond.selects RX5 yX5_rowsOf yX5_rowsOf, Cond.initialized RX5, Cond.code yX5_rowsOf cX5_rowsOf 2 (some (.object "ShadowTable$Rows")), Cond.fieldLink RX5 12 "ShadowTable$State" "live" "LShadowTable$Rows;", Cond.fieldLink RX5 24 "ShadowTable$State" "copy" "LShadowTable$Copy;", Cond.fieldLink RX5 39 "ShadowTable$State" "hasOld" "Z", Cond.fieldLink RX5 18 "ShadowTable$State" "old" "LShadowTable$Rows;", Cond.methodLink RX5 71 yX5_hasCopy, Cond.instanceMethod yX5_hasCopy, Cond.selects RX5 yX5_hasCopy yX5_hasCopy, Cond.code yX5_hasCopy cX5_hasCopy 1 (some .boolean)]
def wsX6_value_r2 : List Cond := [Cond.methodLink RX6 132 yX3_at, Cond.instanceMethod yX3_at, Cond.selects RX3 yX3_at yX3_at, Cond.initialized RX3, Cond.code yX3_at cX3_at 2 (some .int), Cond.fieldLink RX3 9 "ShadowTable$Rows" "values" "[I"]
def wsX6_value : List Cond := .code yX6_value cX6_value 4 (some .int) :: ((wsX6_value_r1 ++ wsX6_value_r2) ++ wsX60 ++ wsX50 ++ wsX00 ++ wsX30)
def wsX6_table_r1 : List Cond := [Cond.fieldLink RX6 10 "ShadowTable" "state" "LShadowTable$State;", Cond.methodLink RX6 125 yX6_isTable, Cond.static yX6_isTable, Cond.initialized RX6, Cond.code yX6_isTable cX6_isTable 1 (some .boolean), Cond.methodLink RX6 135 yX6_isIn, Cond.static yX6_isIn, Cond.code yX6_isIn cX6_isIn 3 (some .boolean), Cond.methodLink RX6 128 yX5_rowsOf, Cond.instanceMethod yX5_rowsOf, Cond.selects RX5 yX5_rowsOf yX5_rowsOf, Cond.initialized RX5, Cond.code yX5_rowsOf cX5_rowsOf 2 (some (.object "ShadowTable$Rows")), Cond.fieldLink RX5 12 "ShadowTable$State" "live" "LShadowTable$Rows;", Cond.fieldLink RX5 24 "ShadowTable$State" "copy" "LShadowTable$Copy;", Cond.fieldLink RX5 39 "ShadowTable$State" "hasOld" "Z", Cond.fieldLink RX5 18 "ShadowTable$State" "old" "LShadowTable$Rows;", Cond.methodLink RX5 71 yX5_hasCopy, Cond.instanceMethod yX5_hasCopy, Cond.selects RX5 yX5_hasCopy yX5_hasCopy, Cond.code yX5_hasCopy cX5_hasCopy 1 (some .boolean), Cond.methodLink RX6 139 yX3_tell, Cond.instanceMethod yX3_tell, Cond.selects RX3 yX3_tell yX3_tell]
def wsX6_table_r2 : List Cond := [Cond.initialized RX3, Cond.code yX3_tell cX3_tell 2 (some .int), Cond.methodLink RX3 27 yX3_count, Cond.instanceMethod yX3_count, Cond.selects RX3 yX3_count yX3_count, Cond.code yX3_count cX3_count 3 (some .int), Cond.fieldLink RX3 9 "ShadowTable$Rows" "values" "[I", Cond.methodLink RX3 31 yX3_sum, Cond.instanceMethod yX3_sum, Cond.selects RX3 yX3_sum yX3_sum, Cond.code yX3_sum cX3_sum 3 (some .int), Cond.methodLink RX3 34 yX3_leastKey, Cond.instanceMethod yX3_leastKey, Cond.selects RX3 yX3_leastKey yX3_leastKey, Cond.code yX3_leastKey cX3_leastKey 2 (some .int), Cond.methodLink RX3 37 yX3_greatestKey, Cond.instanceMethod yX3_greatestKey, Cond.selects RX3 yX3_greatestKey yX3_greatestKey, Cond.code yX3_greatestKey cX3_greatestKey 2 (some .int)]
def wsX6_table : List Cond := .code yX6_table cX6_table 4 (some .int) :: ((wsX6_table_r1 ++ wsX6_table_r2) ++ wsX60 ++ wsX50 ++ wsX00 ++ wsX30)
def wsX6_copy : List Cond := .code yX6_copy cX6_copy 2 (some .int) :: ([.fieldLink RX6 10 "ShadowTable" "state" "LShadowTable$State;", .methodLink RX6 135 yX6_isIn, .static yX6_isIn, .initialized RX6, .code yX6_isIn cX6_isIn 3 (some .boolean), .methodLink RX6 146 yX0_tell, .instanceMethod yX0_tell, .selects RX0 yX0_tell yX0_tell, .initialized RX0, .code yX0_tell cX0_tell 2 (some .int), .fieldLink RX0 25 "ShadowTable$Copy" "phase" "I", .fieldLink RX0 49 "ShadowTable$Copy" "age" "I", .fieldLink RX0 33 "ShadowTable$Copy" "kind" "I", .fieldLink RX0 36 "ShadowTable$Copy" "lot" "I", .fieldLink RX0 39 "ShadowTable$Copy" "cursor" "I", .fieldLink RX0 21 "ShadowTable$Copy" "log" "LShadowTable$Log;"] ++ wsX60 ++ wsX50 ++ wsX00 ++ wsX20)
def wsX6_entry_r1 : List Cond := [Cond.fieldLink RX6 10 "ShadowTable" "state" "LShadowTable$State;", Cond.methodLink RX6 135 yX6_isIn, Cond.static yX6_isIn, Cond.initialized RX6, Cond.code yX6_isIn cX6_isIn 3 (some .boolean), Cond.methodLink RX6 149 yX5_hasCopy, Cond.instanceMethod yX5_hasCopy, Cond.selects RX5 yX5_hasCopy yX5_hasCopy, Cond.initialized RX5, Cond.code yX5_hasCopy cX5_hasCopy 1 (some .boolean), Cond.fieldLink RX5 24 "ShadowTable$State" "copy" "LShadowTable$Copy;", Cond.methodLink RX6 156 yX2_keyAt, Cond.instanceMethod yX2_keyAt, Cond.selects RX2 yX2_keyAt yX2_keyAt, Cond.initialized RX2, Cond.code yX2_keyAt cX2_keyAt 2 (some .int), Cond.fieldLink RX2 22 "ShadowTable$Log" "size" "I", Cond.fieldLink RX2 9 "ShadowTable$Log" "keys" "[I", Cond.methodLink RX2 31 yX2_slotOf, Cond.instanceMethod yX2_slotOf, Cond.selects RX2 yX2_slotOf yX2_slotOf, Cond.code yX2_slotOf cX2_slotOf 2 (some .int), Cond.fieldLink RX2 18 "ShadowTable$Log" "start" "I", Cond.methodLink RX6 161 yX2_valueAt]
def wsX6_entry_r2 : List Cond := [Cond.instanceMethod yX2_valueAt, Cond.selects RX2 yX2_valueAt yX2_valueAt, Cond.code yX2_valueAt cX2_valueAt 2 (some .int), Cond.fieldLink RX2 15 "ShadowTable$Log" "values" "[I"]
def wsX6_entry : List Cond := .code yX6_entry cX6_entry 4 (some .int) :: ((wsX6_entry_r1 ++ wsX6_entry_r2) ++ wsX60 ++ wsX50 ++ wsX00 ++ wsX20)
def wsX6_changed : List Cond := .code yX6_changed cX6_changed 4 (some .int) :: ([.methodLink RX6 122 yX6_isKey, .static yX6_isKey, .initialized RX6, .code yX6_isKey cX6_isKey 1 (some .boolean), .methodLink RX6 135 yX6_isIn, .static yX6_isIn, .code yX6_isIn cX6_isIn 3 (some .boolean), .methodLink RX6 164 yX6_isKind, .static yX6_isKind, .code yX6_isKind cX6_isKind 1 (some .boolean), .methodLink RX6 167 yX6_isValue, .static yX6_isValue, .code yX6_isValue cX6_isValue 1 (some .boolean), .methodLink RX6 170 yX6_changedValue, .static yX6_changedValue, .code yX6_changedValue cX6_changedValue 3 (some .int)])
def wsX6_differences : List Cond := .code yX6_differences cX6_differences 3 (some .int) :: ([.fieldLink RX6 10 "ShadowTable" "state" "LShadowTable$State;", .methodLink RX6 149 yX5_hasCopy, .instanceMethod yX5_hasCopy, .selects RX5 yX5_hasCopy yX5_hasCopy, .initialized RX5, .code yX5_hasCopy cX5_hasCopy 1 (some .boolean), .fieldLink RX5 24 "ShadowTable$State" "copy" "LShadowTable$Copy;", .methodLink RX6 174 yX5_differsAt, .instanceMethod yX5_differsAt, .selects RX5 yX5_differsAt yX5_differsAt, .code yX5_differsAt cX5_differsAt 2 (some .boolean), .fieldLink RX5 12 "ShadowTable$State" "live" "LShadowTable$Rows;", .methodLink RX5 67 yX3_at, .instanceMethod yX3_at, .selects RX3 yX3_at yX3_at, .initialized RX3, .code yX3_at cX3_at 2 (some .int), .fieldLink RX3 9 "ShadowTable$Rows" "values" "[I", .static yX6_changedValue, .initialized RX6, .code yX6_changedValue cX6_changedValue 3 (some .int)] ++ wsX60 ++ wsX50 ++ wsX00 ++ wsX30)
def wsX6_firstDifference : List Cond := .code yX6_firstDifference cX6_firstDifference 2 (some .int) :: ([.fieldLink RX6 10 "ShadowTable" "state" "LShadowTable$State;", .methodLink RX6 149 yX5_hasCopy, .instanceMethod yX5_hasCopy, .selects RX5 yX5_hasCopy yX5_hasCopy, .initialized RX5, .code yX5_hasCopy cX5_hasCopy 1 (some .boolean), .fieldLink RX5 24 "ShadowTable$State" "copy" "LShadowTable$Copy;", .methodLink RX6 174 yX5_differsAt, .instanceMethod yX5_differsAt, .selects RX5 yX5_differsAt yX5_differsAt, .code yX5_differsAt cX5_differsAt 2 (some .boolean), .fieldLink RX5 12 "ShadowTable$State" "live" "LShadowTable$Rows;", .methodLink RX5 67 yX3_at, .instanceMethod yX3_at, .selects RX3 yX3_at yX3_at, .initialized RX3, .code yX3_at cX3_at 2 (some .int), .fieldLink RX3 9 "ShadowTable$Rows" "values" "[I", .static yX6_changedValue, .initialized RX6, .code yX6_changedValue cX6_changedValue 3 (some .int)] ++ wsX60 ++ wsX50 ++ wsX00 ++ wsX30)
def wsX6_setting : List Cond := .code yX6_setting cX6_setting 2 (some .int) :: ([.fieldLink RX6 10 "ShadowTable" "state" "LShadowTable$State;", .methodLink RX6 177 yX6_isSetting, .static yX6_isSetting, .initialized RX6, .code yX6_isSetting cX6_isSetting 1 (some .boolean), .methodLink RX6 135 yX6_isIn, .static yX6_isIn, .code yX6_isIn cX6_isIn 3 (some .boolean)] ++ wsX60 ++ wsX50)
def wsX6_total : List Cond := .code yX6_total cX6_total 2 (some .int) :: ([.fieldLink RX6 10 "ShadowTable" "state" "LShadowTable$State;", .methodLink RX6 135 yX6_isIn, .static yX6_isIn, .initialized RX6, .code yX6_isIn cX6_isIn 3 (some .boolean)] ++ wsX60 ++ wsX50)
def wsX6_states : List Cond := .code yX6_states cX6_states 1 (some .int) :: ([.fieldLink RX6 25 "ShadowTable" "history" "LShadowTable$History;"] ++ wsX60 ++ wsX10)
def wsX6_readyIn_r1 : List Cond := [Cond.fieldLink RX6 10 "ShadowTable" "state" "LShadowTable$State;", Cond.fieldLink RX6 19 "ShadowTable" "trial" "LShadowTable$State;", Cond.methodLink RX6 190 yX5_canBecomeReady, Cond.instanceMethod yX5_canBecomeReady, Cond.selects RX5 yX5_canBecomeReady yX5_canBecomeReady, Cond.initialized RX5, Cond.code yX5_canBecomeReady cX5_canBecomeReady 1 (some .boolean), Cond.fieldLink RX5 24 "ShadowTable$State" "copy" "LShadowTable$Copy;", Cond.methodLink RX6 106 yX5_take, Cond.instanceMethod yX5_take, Cond.selects RX5 yX5_take yX5_take, Cond.code yX5_take cX5_take 2 none, Cond.fieldLink RX5 12 "ShadowTable$State" "live" "LShadowTable$Rows;", Cond.fieldLink RX5 18 "ShadowTable$State" "old" "LShadowTable$Rows;", Cond.fieldLink RX5 39 "ShadowTable$State" "hasOld" "Z", Cond.fieldLink RX5 28 "ShadowTable$State" "settings" "[I", Cond.methodLink RX5 46 arraycopyName, Cond.native arraycopyName, Cond.static arraycopyName, Cond.initialized "java/lang/System", Cond.fieldLink RX5 32 "ShadowTable$State" "totals" "[I", Cond.methodLink RX5 35 yX3_take, Cond.instanceMethod yX3_take, Cond.selects RX3 yX3_take yX3_take]
def wsX6_readyIn_r2 : List Cond := [Cond.initialized RX3, Cond.code yX3_take cX3_take 2 none, Cond.fieldLink RX3 9 "ShadowTable$Rows" "values" "[I", Cond.methodLink RX3 21 arraycopyName, Cond.methodLink RX5 43 yX0_take, Cond.instanceMethod yX0_take, Cond.selects RX0 yX0_take yX0_take, Cond.initialized RX0, Cond.code yX0_take cX0_take 2 none, Cond.fieldLink RX0 12 "ShadowTable$Copy" "shadow" "LShadowTable$Rows;", Cond.fieldLink RX0 21 "ShadowTable$Copy" "log" "LShadowTable$Log;", Cond.fieldLink RX0 25 "ShadowTable$Copy" "phase" "I", Cond.fieldLink RX0 33 "ShadowTable$Copy" "kind" "I", Cond.fieldLink RX0 36 "ShadowTable$Copy" "lot" "I", Cond.fieldLink RX0 39 "ShadowTable$Copy" "cursor" "I", Cond.fieldLink RX0 49 "ShadowTable$Copy" "age" "I", Cond.methodLink RX0 42 yX3_take, Cond.methodLink RX0 46 yX2_take, Cond.instanceMethod yX2_take, Cond.selects RX2 yX2_take yX2_take, Cond.initialized RX2, Cond.code yX2_take cX2_take 2 none, Cond.fieldLink RX2 9 "ShadowTable$Log" "keys" "[I", Cond.methodLink RX2 25 arraycopyName]
def wsX6_readyIn_r3 : List Cond := [Cond.fieldLink RX2 15 "ShadowTable$Log" "values" "[I", Cond.fieldLink RX2 18 "ShadowTable$Log" "start" "I", Cond.fieldLink RX2 22 "ShadowTable$Log" "size" "I", Cond.methodLink RX6 193 yX5_ticksUntilReady, Cond.instanceMethod yX5_ticksUntilReady, Cond.selects RX5 yX5_ticksUntilReady yX5_ticksUntilReady, Cond.code yX5_ticksUntilReady cX5_ticksUntilReady 3 (some .int), Cond.methodLink RX5 108 yX5_makeTick, Cond.instanceMethod yX5_makeTick, Cond.selects RX5 yX5_makeTick yX5_makeTick, Cond.code yX5_makeTick cX5_makeTick 1 none, Cond.methodLink RX5 71 yX5_hasCopy, Cond.instanceMethod yX5_hasCopy, Cond.selects RX5 yX5_hasCopy yX5_hasCopy, Cond.code yX5_hasCopy cX5_hasCopy 1 (some .boolean), Cond.methodLink RX5 111 yX5_lockRunsOut, Cond.instanceMethod yX5_lockRunsOut, Cond.selects RX5 yX5_lockRunsOut yX5_lockRunsOut, Cond.code yX5_lockRunsOut cX5_lockRunsOut 1 (some .boolean), Cond.methodLink RX5 114 yX5_applyEntries, Cond.instanceMethod yX5_applyEntries, Cond.selects RX5 yX5_applyEntries yX5_applyEntries, Cond.code yX5_applyEntries cX5_applyEntries 4 none, Cond.methodLink RX5 126 yX2_keyAt]
def wsX6_readyIn_r4 : List Cond := [Cond.instanceMethod yX2_keyAt, Cond.selects RX2 yX2_keyAt yX2_keyAt, Cond.code yX2_keyAt cX2_keyAt 2 (some .int), Cond.methodLink RX2 31 yX2_slotOf, Cond.instanceMethod yX2_slotOf, Cond.selects RX2 yX2_slotOf yX2_slotOf, Cond.code yX2_slotOf cX2_slotOf 2 (some .int), Cond.methodLink RX5 135 yX2_valueAt, Cond.instanceMethod yX2_valueAt, Cond.selects RX2 yX2_valueAt yX2_valueAt, Cond.code yX2_valueAt cX2_valueAt 2 (some .int), Cond.static yX6_changedValue, Cond.initialized RX6, Cond.code yX6_changedValue cX6_changedValue 3 (some .int), Cond.methodLink RX5 88 yX3_place, Cond.instanceMethod yX3_place, Cond.selects RX3 yX3_place yX3_place, Cond.code yX3_place cX3_place 3 none, Cond.methodLink RX5 142 yX2_removeFirst, Cond.instanceMethod yX2_removeFirst, Cond.selects RX2 yX2_removeFirst yX2_removeFirst, Cond.code yX2_removeFirst cX2_removeFirst 1 none, Cond.methodLink RX5 117 yX5_copyLot, Cond.instanceMethod yX5_copyLot]
def wsX6_readyIn_r5 : List Cond := [Cond.selects RX5 yX5_copyLot yX5_copyLot, Cond.code yX5_copyLot cX5_copyLot 3 none, Cond.methodLink RX5 67 yX3_at, Cond.instanceMethod yX3_at, Cond.selects RX3 yX3_at yX3_at, Cond.code yX3_at cX3_at 2 (some .int), Cond.methodLink RX5 151 yX0_copyKey, Cond.instanceMethod yX0_copyKey, Cond.selects RX0 yX0_copyKey yX0_copyKey, Cond.code yX0_copyKey cX0_copyKey 4 (some .boolean), Cond.methodLink RX0 56 yX3_at, Cond.methodLink RX0 60 yX3_place]
def wsX6_readyIn : List Cond := .code yX6_readyIn cX6_readyIn 1 (some .int) :: ((wsX6_readyIn_r1 ++ (wsX6_readyIn_r2 ++ (wsX6_readyIn_r3 ++ (wsX6_readyIn_r4 ++ wsX6_readyIn_r5)))) ++ wsX60 ++ wsX50 ++ wsX00 ++ wsX30 ++ wsX20)
def wsX6_leastLot_r1 : List Cond := [Cond.fieldLink RX6 10 "ShadowTable" "state" "LShadowTable$State;", Cond.fieldLink RX6 19 "ShadowTable" "trial" "LShadowTable$State;", Cond.methodLink RX6 196 yX6_isTicks, Cond.static yX6_isTicks, Cond.initialized RX6, Cond.code yX6_isTicks cX6_isTicks 1 (some .boolean), Cond.methodLink RX6 135 yX6_isIn, Cond.static yX6_isIn, Cond.code yX6_isIn cX6_isIn 3 (some .boolean), Cond.methodLink RX6 190 yX5_canBecomeReady, Cond.instanceMethod yX5_canBecomeReady, Cond.selects RX5 yX5_canBecomeReady yX5_canBecomeReady, Cond.initialized RX5, Cond.code yX5_canBecomeReady cX5_canBecomeReady 1 (some .boolean), Cond.fieldLink RX5 24 "ShadowTable$State" "copy" "LShadowTable$Copy;", Cond.methodLink RX6 106 yX5_take, Cond.instanceMethod yX5_take, Cond.selects RX5 yX5_take yX5_take, Cond.code yX5_take cX5_take 2 none, Cond.fieldLink RX5 12 "ShadowTable$State" "live" "LShadowTable$Rows;", Cond.fieldLink RX5 18 "ShadowTable$State" "old" "LShadowTable$Rows;", Cond.fieldLink RX5 39 "ShadowTable$State" "hasOld" "Z", Cond.fieldLink RX5 28 "ShadowTable$State" "settings" "[I", Cond.methodLink RX5 46 arraycopyName]
def wsX6_leastLot_r2 : List Cond := [Cond.native arraycopyName, Cond.static arraycopyName, Cond.initialized "java/lang/System", Cond.fieldLink RX5 32 "ShadowTable$State" "totals" "[I", Cond.methodLink RX5 35 yX3_take, Cond.instanceMethod yX3_take, Cond.selects RX3 yX3_take yX3_take, Cond.initialized RX3, Cond.code yX3_take cX3_take 2 none, Cond.fieldLink RX3 9 "ShadowTable$Rows" "values" "[I", Cond.methodLink RX3 21 arraycopyName, Cond.methodLink RX5 43 yX0_take, Cond.instanceMethod yX0_take, Cond.selects RX0 yX0_take yX0_take, Cond.initialized RX0, Cond.code yX0_take cX0_take 2 none, Cond.fieldLink RX0 12 "ShadowTable$Copy" "shadow" "LShadowTable$Rows;", Cond.fieldLink RX0 21 "ShadowTable$Copy" "log" "LShadowTable$Log;", Cond.fieldLink RX0 25 "ShadowTable$Copy" "phase" "I", Cond.fieldLink RX0 33 "ShadowTable$Copy" "kind" "I", Cond.fieldLink RX0 36 "ShadowTable$Copy" "lot" "I", Cond.fieldLink RX0 39 "ShadowTable$Copy" "cursor" "I", Cond.fieldLink RX0 49 "ShadowTable$Copy" "age" "I", Cond.methodLink RX0 42 yX3_take]
def wsX6_leastLot_r3 : List Cond := [Cond.methodLink RX0 46 yX2_take, Cond.instanceMethod yX2_take, Cond.selects RX2 yX2_take yX2_take, Cond.initialized RX2, Cond.code yX2_take cX2_take 2 none, Cond.fieldLink RX2 9 "ShadowTable$Log" "keys" "[I", Cond.methodLink RX2 25 arraycopyName, Cond.fieldLink RX2 15 "ShadowTable$Log" "values" "[I", Cond.fieldLink RX2 18 "ShadowTable$Log" "start" "I", Cond.fieldLink RX2 22 "ShadowTable$Log" "size" "I", Cond.methodLink RX6 193 yX5_ticksUntilReady, Cond.instanceMethod yX5_ticksUntilReady, Cond.selects RX5 yX5_ticksUntilReady yX5_ticksUntilReady, Cond.code yX5_ticksUntilReady cX5_ticksUntilReady 3 (some .int), Cond.methodLink RX5 108 yX5_makeTick, Cond.instanceMethod yX5_makeTick, Cond.selects RX5 yX5_makeTick yX5_makeTick, Cond.code yX5_makeTick cX5_makeTick 1 none, Cond.methodLink RX5 71 yX5_hasCopy, Cond.instanceMethod yX5_hasCopy, Cond.selects RX5 yX5_hasCopy yX5_hasCopy, Cond.code yX5_hasCopy cX5_hasCopy 1 (some .boolean), Cond.methodLink RX5 111 yX5_lockRunsOut, Cond.instanceMethod yX5_lockRunsOut]
def wsX6_leastLot_r4 : List Cond := [Cond.selects RX5 yX5_lockRunsOut yX5_lockRunsOut, Cond.code yX5_lockRunsOut cX5_lockRunsOut 1 (some .boolean), Cond.methodLink RX5 114 yX5_applyEntries, Cond.instanceMethod yX5_applyEntries, Cond.selects RX5 yX5_applyEntries yX5_applyEntries, Cond.code yX5_applyEntries cX5_applyEntries 4 none, Cond.methodLink RX5 126 yX2_keyAt, Cond.instanceMethod yX2_keyAt, Cond.selects RX2 yX2_keyAt yX2_keyAt, Cond.code yX2_keyAt cX2_keyAt 2 (some .int), Cond.methodLink RX2 31 yX2_slotOf, Cond.instanceMethod yX2_slotOf, Cond.selects RX2 yX2_slotOf yX2_slotOf, Cond.code yX2_slotOf cX2_slotOf 2 (some .int), Cond.methodLink RX5 135 yX2_valueAt, Cond.instanceMethod yX2_valueAt, Cond.selects RX2 yX2_valueAt yX2_valueAt, Cond.code yX2_valueAt cX2_valueAt 2 (some .int), Cond.static yX6_changedValue, Cond.code yX6_changedValue cX6_changedValue 3 (some .int), Cond.methodLink RX5 88 yX3_place, Cond.instanceMethod yX3_place, Cond.selects RX3 yX3_place yX3_place, Cond.code yX3_place cX3_place 3 none]
def wsX6_leastLot_r5 : List Cond := [Cond.methodLink RX5 142 yX2_removeFirst, Cond.instanceMethod yX2_removeFirst, Cond.selects RX2 yX2_removeFirst yX2_removeFirst, Cond.code yX2_removeFirst cX2_removeFirst 1 none, Cond.methodLink RX5 117 yX5_copyLot, Cond.instanceMethod yX5_copyLot, Cond.selects RX5 yX5_copyLot yX5_copyLot, Cond.code yX5_copyLot cX5_copyLot 3 none, Cond.methodLink RX5 67 yX3_at, Cond.instanceMethod yX3_at, Cond.selects RX3 yX3_at yX3_at, Cond.code yX3_at cX3_at 2 (some .int), Cond.methodLink RX5 151 yX0_copyKey, Cond.instanceMethod yX0_copyKey, Cond.selects RX0 yX0_copyKey yX0_copyKey, Cond.code yX0_copyKey cX0_copyKey 4 (some .boolean), Cond.methodLink RX0 56 yX3_at, Cond.methodLink RX0 60 yX3_place]
def wsX6_leastLot : List Cond := .code yX6_leastLot cX6_leastLot 3 (some .int) :: ((wsX6_leastLot_r1 ++ (wsX6_leastLot_r2 ++ (wsX6_leastLot_r3 ++ (wsX6_leastLot_r4 ++ wsX6_leastLot_r5)))) ++ wsX60 ++ wsX50 ++ wsX00 ++ wsX30 ++ wsX20)
def wsX6_progress : List Cond := .code yX6_progress cX6_progress 1 (some .double) :: ([.fieldLink RX6 10 "ShadowTable" "state" "LShadowTable$State;", .constantDouble RX6 205 (4629700416936869888), .methodLink RX6 149 yX5_hasCopy, .instanceMethod yX5_hasCopy, .selects RX5 yX5_hasCopy yX5_hasCopy, .initialized RX5, .code yX5_hasCopy cX5_hasCopy 1 (some .boolean), .fieldLink RX5 24 "ShadowTable$State" "copy" "LShadowTable$Copy;"] ++ wsX60 ++ wsX50 ++ wsX00)
def wsX7_init : List Cond := .code yX7_init cX7_init 2 none :: ([.methodLink RX7 1 objectInit, .instanceMethod objectInit, .code objectInit ⟨#[0xb1]⟩ 1 none, .arrayClass .int, .fieldLink RX7 7 "ShadowTableModel" "s" "[I", .fieldLink RX7 13 "ShadowTableModel" "history" "[I", .fieldLink RX7 16 "ShadowTableModel" "snapshot" "[I", .fieldLink RX7 19 "ShadowTableModel" "before" "[I", .fieldLink RX7 22 "ShadowTableModel" "text" "[I"] ++ wsX70)
def wsX7_in : List Cond := .code yX7_in cX7_in 3 (some .boolean) :: ([])
def wsX7_isKey : List Cond := .code yX7_isKey cX7_isKey 1 (some .boolean) :: ([.methodLink RX7 25 yX7_in, .static yX7_in, .initialized RX7, .code yX7_in cX7_in 3 (some .boolean)])
def wsX7_isCopy : List Cond := .code yX7_isCopy cX7_isCopy 1 (some .boolean) :: ([.fieldLink RX7 7 "ShadowTableModel" "s" "[I"] ++ wsX70)
def wsX7_row : List Cond := .code yX7_row cX7_row 3 (some .int) :: ([.fieldLink RX7 7 "ShadowTableModel" "s" "[I"] ++ wsX70)
def wsX7_lay : List Cond := .code yX7_lay cX7_lay 4 none :: ([.fieldLink RX7 7 "ShadowTableModel" "s" "[I"] ++ wsX70)
def wsX7_outside : List Cond := .code yX7_outside cX7_outside 1 (some .int) :: ([])
def wsX7_rows : List Cond := .code yX7_rows cX7_rows 4 (some .int) :: ([.methodLink RX7 29 yX7_row, .instanceMethod yX7_row, .selects RX7 yX7_row yX7_row, .initialized RX7, .code yX7_row cX7_row 3 (some .int), .fieldLink RX7 7 "ShadowTableModel" "s" "[I"] ++ wsX70)
def wsX7_isTable : List Cond := .code yX7_isTable cX7_isTable 2 (some .boolean) :: ([.fieldLink RX7 7 "ShadowTableModel" "s" "[I", .methodLink RX7 33 yX7_isCopy, .instanceMethod yX7_isCopy, .selects RX7 yX7_isCopy yX7_isCopy, .initialized RX7, .code yX7_isCopy cX7_isCopy 1 (some .boolean)] ++ wsX70)
def wsX7_copyAll : List Cond := .code yX7_copyAll cX7_copyAll 5 none :: ([])
def wsX7_record : List Cond := .code yX7_record cX7_record 2 none :: ([.fieldLink RX7 37 "ShadowTableModel" "kept" "I", .fieldLink RX7 13 "ShadowTableModel" "history" "[I", .fieldLink RX7 7 "ShadowTableModel" "s" "[I", .methodLink RX7 41 yX7_copyAll, .static yX7_copyAll, .initialized RX7, .code yX7_copyAll cX7_copyAll 5 none] ++ wsX70)
def wsX7_becomes : List Cond := .code yX7_becomes cX7_becomes 3 (some .int) :: ([])
def wsX7_due : List Cond := .code yX7_due cX7_due 2 (some .int) :: ([.fieldLink RX7 7 "ShadowTableModel" "s" "[I", .methodLink RX7 29 yX7_row, .instanceMethod yX7_row, .selects RX7 yX7_row yX7_row, .initialized RX7, .code yX7_row cX7_row 3 (some .int), .methodLink RX7 45 yX7_becomes, .static yX7_becomes, .code yX7_becomes cX7_becomes 3 (some .int)] ++ wsX70)
def wsX7_differing : List Cond := .code yX7_differing cX7_differing 4 (some .int) :: ([.methodLink RX7 29 yX7_row, .instanceMethod yX7_row, .selects RX7 yX7_row yX7_row, .initialized RX7, .code yX7_row cX7_row 3 (some .int), .fieldLink RX7 7 "ShadowTableModel" "s" "[I", .methodLink RX7 49 yX7_due, .instanceMethod yX7_due, .selects RX7 yX7_due yX7_due, .code yX7_due cX7_due 2 (some .int), .methodLink RX7 45 yX7_becomes, .static yX7_becomes, .code yX7_becomes cX7_becomes 3 (some .int)] ++ wsX70)
def wsX7_apply : List Cond := .code yX7_apply cX7_apply 3 none :: ([.fieldLink RX7 7 "ShadowTableModel" "s" "[I", .methodLink RX7 45 yX7_becomes, .static yX7_becomes, .initialized RX7, .code yX7_becomes cX7_becomes 3 (some .int), .methodLink RX7 53 yX7_lay, .instanceMethod yX7_lay, .selects RX7 yX7_lay yX7_lay, .code yX7_lay cX7_lay 4 none] ++ wsX70)
def wsX7_copyKeys : List Cond := .code yX7_copyKeys cX7_copyKeys 3 none :: ([.fieldLink RX7 7 "ShadowTableModel" "s" "[I", .methodLink RX7 29 yX7_row, .instanceMethod yX7_row, .selects RX7 yX7_row yX7_row, .initialized RX7, .code yX7_row cX7_row 3 (some .int), .methodLink RX7 49 yX7_due, .instanceMethod yX7_due, .selects RX7 yX7_due yX7_due, .code yX7_due cX7_due 2 (some .int), .methodLink RX7 45 yX7_becomes, .static yX7_becomes, .code yX7_becomes cX7_becomes 3 (some .int), .methodLink RX7 53 yX7_lay, .instanceMethod yX7_lay, .selects RX7 yX7_lay yX7_lay, .code yX7_lay cX7_lay 4 none] ++ wsX70)
def wsX7_tickOnce_r1 : List Cond := [Cond.fieldLink RX7 7 "ShadowTableModel" "s" "[I", Cond.methodLink RX7 33 yX7_isCopy, Cond.instanceMethod yX7_isCopy, Cond.selects RX7 yX7_isCopy yX7_isCopy, Cond.initialized RX7, Cond.code yX7_isCopy cX7_isCopy 1 (some .boolean), Cond.methodLink RX7 57 yX7_apply, Cond.instanceMethod yX7_apply, Cond.selects RX7 yX7_apply yX7_apply, Cond.code yX7_apply cX7_apply 3 none, Cond.methodLink RX7 45 yX7_becomes, Cond.static yX7_becomes, Cond.code yX7_becomes cX7_becomes 3 (some .int), Cond.methodLink RX7 53 yX7_lay, Cond.instanceMethod yX7_lay, Cond.selects RX7 yX7_lay yX7_lay, Cond.code yX7_lay cX7_lay 4 none, Cond.methodLink RX7 60 yX7_copyKeys, Cond.instanceMethod yX7_copyKeys, Cond.selects RX7 yX7_copyKeys yX7_copyKeys, Cond.code yX7_copyKeys cX7_copyKeys 3 none, Cond.methodLink RX7 29 yX7_row, Cond.instanceMethod yX7_row, Cond.selects RX7 yX7_row yX7_row]
def wsX7_tickOnce_r2 : List Cond := [Cond.code yX7_row cX7_row 3 (some .int), Cond.methodLink RX7 49 yX7_due, Cond.instanceMethod yX7_due, Cond.selects RX7 yX7_due yX7_due, Cond.code yX7_due cX7_due 2 (some .int)]
def wsX7_tickOnce : List Cond := .code yX7_tickOnce cX7_tickOnce 2 none :: ((wsX7_tickOnce_r1 ++ wsX7_tickOnce_r2) ++ wsX70)
def wsX7_isLogFull : List Cond := .code yX7_isLogFull cX7_isLogFull 1 (some .boolean) :: ([.fieldLink RX7 7 "ShadowTableModel" "s" "[I", .methodLink RX7 33 yX7_isCopy, .instanceMethod yX7_isCopy, .selects RX7 yX7_isCopy yX7_isCopy, .initialized RX7, .code yX7_isCopy cX7_isCopy 1 (some .boolean)] ++ wsX70)
def wsX7_changeError : List Cond := .code yX7_changeError cX7_changeError 1 (some .int) :: ([.fieldLink RX7 7 "ShadowTableModel" "s" "[I", .methodLink RX7 63 yX7_isLogFull, .instanceMethod yX7_isLogFull, .selects RX7 yX7_isLogFull yX7_isLogFull, .initialized RX7, .code yX7_isLogFull cX7_isLogFull 1 (some .boolean), .methodLink RX7 33 yX7_isCopy, .instanceMethod yX7_isCopy, .selects RX7 yX7_isCopy yX7_isCopy, .code yX7_isCopy cX7_isCopy 1 (some .boolean)] ++ wsX70)
def wsX7_putError : List Cond := .code yX7_putError cX7_putError 3 (some .int) :: ([.methodLink RX7 66 yX7_isKey, .static yX7_isKey, .initialized RX7, .code yX7_isKey cX7_isKey 1 (some .boolean), .methodLink RX7 25 yX7_in, .static yX7_in, .code yX7_in cX7_in 3 (some .boolean), .methodLink RX7 70 yX7_changeError, .instanceMethod yX7_changeError, .selects RX7 yX7_changeError yX7_changeError, .code yX7_changeError cX7_changeError 1 (some .int), .fieldLink RX7 7 "ShadowTableModel" "s" "[I", .methodLink RX7 63 yX7_isLogFull, .instanceMethod yX7_isLogFull, .selects RX7 yX7_isLogFull yX7_isLogFull, .code yX7_isLogFull cX7_isLogFull 1 (some .boolean), .methodLink RX7 33 yX7_isCopy, .instanceMethod yX7_isCopy, .selects RX7 yX7_isCopy yX7_isCopy, .code yX7_isCopy cX7_isCopy 1 (some .boolean)] ++ wsX70)
def wsX7_eraseError : List Cond := .code yX7_eraseError cX7_eraseError 2 (some .int) :: ([.fieldLink RX7 7 "ShadowTableModel" "s" "[I", .methodLink RX7 66 yX7_isKey, .static yX7_isKey, .initialized RX7, .code yX7_isKey cX7_isKey 1 (some .boolean), .methodLink RX7 25 yX7_in, .static yX7_in, .code yX7_in cX7_in 3 (some .boolean), .methodLink RX7 29 yX7_row, .instanceMethod yX7_row, .selects RX7 yX7_row yX7_row, .code yX7_row cX7_row 3 (some .int), .methodLink RX7 70 yX7_changeError, .instanceMethod yX7_changeError, .selects RX7 yX7_changeError yX7_changeError, .code yX7_changeError cX7_changeError 1 (some .int), .methodLink RX7 63 yX7_isLogFull, .instanceMethod yX7_isLogFull, .selects RX7 yX7_isLogFull yX7_isLogFull, .code yX7_isLogFull cX7_isLogFull 1 (some .boolean), .methodLink RX7 33 yX7_isCopy, .instanceMethod yX7_isCopy, .selects RX7 yX7_isCopy yX7_isCopy, .code yX7_isCopy cX7_isCopy 1 (some .boolean)] ++ wsX70)
def wsX7_endCopy : List Cond := .code yX7_endCopy cX7_endCopy 1 none :: ([.fieldLink RX7 7 "ShadowTableModel" "s" "[I"] ++ wsX70)
def wsX7_doChange_r1 : List Cond := [Cond.fieldLink RX7 7 "ShadowTableModel" "s" "[I", Cond.methodLink RX7 29 yX7_row, Cond.instanceMethod yX7_row, Cond.selects RX7 yX7_row yX7_row, Cond.initialized RX7, Cond.code yX7_row cX7_row 3 (some .int), Cond.methodLink RX7 63 yX7_isLogFull, Cond.instanceMethod yX7_isLogFull, Cond.selects RX7 yX7_isLogFull yX7_isLogFull, Cond.code yX7_isLogFull cX7_isLogFull 1 (some .boolean), Cond.methodLink RX7 33 yX7_isCopy, Cond.instanceMethod yX7_isCopy, Cond.selects RX7 yX7_isCopy yX7_isCopy, Cond.code yX7_isCopy cX7_isCopy 1 (some .boolean), Cond.methodLink RX7 74 yX7_endCopy, Cond.instanceMethod yX7_endCopy, Cond.selects RX7 yX7_endCopy yX7_endCopy, Cond.code yX7_endCopy cX7_endCopy 1 none, Cond.methodLink RX7 53 yX7_lay, Cond.instanceMethod yX7_lay, Cond.selects RX7 yX7_lay yX7_lay, Cond.code yX7_lay cX7_lay 4 none, Cond.methodLink RX7 77 yX7_outside, Cond.static yX7_outside]
def wsX7_doChange_r2 : List Cond := [Cond.code yX7_outside cX7_outside 1 (some .int)]
def wsX7_doChange : List Cond := .code yX7_doChange cX7_doChange 4 (some .int) :: ((wsX7_doChange_r1 ++ wsX7_doChange_r2) ++ wsX70)
def wsX7_doErase_r1 : List Cond := [Cond.methodLink RX7 29 yX7_row, Cond.instanceMethod yX7_row, Cond.selects RX7 yX7_row yX7_row, Cond.initialized RX7, Cond.code yX7_row cX7_row 3 (some .int), Cond.fieldLink RX7 7 "ShadowTableModel" "s" "[I", Cond.methodLink RX7 80 yX7_doChange, Cond.instanceMethod yX7_doChange, Cond.selects RX7 yX7_doChange yX7_doChange, Cond.code yX7_doChange cX7_doChange 4 (some .int), Cond.methodLink RX7 63 yX7_isLogFull, Cond.instanceMethod yX7_isLogFull, Cond.selects RX7 yX7_isLogFull yX7_isLogFull, Cond.code yX7_isLogFull cX7_isLogFull 1 (some .boolean), Cond.methodLink RX7 33 yX7_isCopy, Cond.instanceMethod yX7_isCopy, Cond.selects RX7 yX7_isCopy yX7_isCopy, Cond.code yX7_isCopy cX7_isCopy 1 (some .boolean), Cond.methodLink RX7 74 yX7_endCopy, Cond.instanceMethod yX7_endCopy, Cond.selects RX7 yX7_endCopy yX7_endCopy, Cond.code yX7_endCopy cX7_endCopy 1 none, Cond.methodLink RX7 53 yX7_lay, Cond.instanceMethod yX7_lay]
def wsX7_doErase_r2 : List Cond := [Cond.selects RX7 yX7_lay yX7_lay, Cond.code yX7_lay cX7_lay 4 none, Cond.methodLink RX7 77 yX7_outside, Cond.static yX7_outside, Cond.code yX7_outside cX7_outside 1 (some .int)]
def wsX7_doErase : List Cond := .code yX7_doErase cX7_doErase 2 (some .int) :: ((wsX7_doErase_r1 ++ wsX7_doErase_r2) ++ wsX70)
def wsX7_beginError : List Cond := .code yX7_beginError cX7_beginError 3 (some .int) :: ([.methodLink RX7 25 yX7_in, .static yX7_in, .initialized RX7, .code yX7_in cX7_in 3 (some .boolean), .methodLink RX7 33 yX7_isCopy, .instanceMethod yX7_isCopy, .selects RX7 yX7_isCopy yX7_isCopy, .code yX7_isCopy cX7_isCopy 1 (some .boolean), .fieldLink RX7 7 "ShadowTableModel" "s" "[I"] ++ wsX70)
def wsX7_doBegin : List Cond := .code yX7_doBegin cX7_doBegin 4 (some .int) :: ([.fieldLink RX7 7 "ShadowTableModel" "s" "[I", .methodLink RX7 53 yX7_lay, .instanceMethod yX7_lay, .selects RX7 yX7_lay yX7_lay, .initialized RX7, .code yX7_lay cX7_lay 4 none, .methodLink RX7 83 yX7_rows, .instanceMethod yX7_rows, .selects RX7 yX7_rows yX7_rows, .code yX7_rows cX7_rows 4 (some .int), .methodLink RX7 29 yX7_row, .instanceMethod yX7_row, .selects RX7 yX7_row yX7_row, .code yX7_row cX7_row 3 (some .int)] ++ wsX70)
def wsX7_doTick_r1 : List Cond := [Cond.fieldLink RX7 7 "ShadowTableModel" "s" "[I", Cond.methodLink RX7 86 yX7_tickOnce, Cond.instanceMethod yX7_tickOnce, Cond.selects RX7 yX7_tickOnce yX7_tickOnce, Cond.initialized RX7, Cond.code yX7_tickOnce cX7_tickOnce 2 none, Cond.methodLink RX7 33 yX7_isCopy, Cond.instanceMethod yX7_isCopy, Cond.selects RX7 yX7_isCopy yX7_isCopy, Cond.code yX7_isCopy cX7_isCopy 1 (some .boolean), Cond.methodLink RX7 57 yX7_apply, Cond.instanceMethod yX7_apply, Cond.selects RX7 yX7_apply yX7_apply, Cond.code yX7_apply cX7_apply 3 none, Cond.methodLink RX7 45 yX7_becomes, Cond.static yX7_becomes, Cond.code yX7_becomes cX7_becomes 3 (some .int), Cond.methodLink RX7 53 yX7_lay, Cond.instanceMethod yX7_lay, Cond.selects RX7 yX7_lay yX7_lay, Cond.code yX7_lay cX7_lay 4 none, Cond.methodLink RX7 60 yX7_copyKeys, Cond.instanceMethod yX7_copyKeys, Cond.selects RX7 yX7_copyKeys yX7_copyKeys]
def wsX7_doTick_r2 : List Cond := [Cond.code yX7_copyKeys cX7_copyKeys 3 none, Cond.methodLink RX7 29 yX7_row, Cond.instanceMethod yX7_row, Cond.selects RX7 yX7_row yX7_row, Cond.code yX7_row cX7_row 3 (some .int), Cond.methodLink RX7 49 yX7_due, Cond.instanceMethod yX7_due, Cond.selects RX7 yX7_due yX7_due, Cond.code yX7_due cX7_due 2 (some .int)]
def wsX7_doTick : List Cond := .code yX7_doTick cX7_doTick 3 (some .int) :: ((wsX7_doTick_r1 ++ wsX7_doTick_r2) ++ wsX70)
def wsX7_doLock : List Cond := .code yX7_doLock cX7_doLock 1 (some .int) :: ([.fieldLink RX7 7 "ShadowTableModel" "s" "[I"] ++ wsX70)
def wsX7_doUnlock : List Cond := .code yX7_doUnlock cX7_doUnlock 1 (some .int) :: ([.fieldLink RX7 7 "ShadowTableModel" "s" "[I"] ++ wsX70)
def wsX7_swapError : List Cond := .code yX7_swapError cX7_swapError 1 (some .int) :: ([.fieldLink RX7 7 "ShadowTableModel" "s" "[I"] ++ wsX70)
def wsX7_doSwap : List Cond := .code yX7_doSwap cX7_doSwap 2 (some .int) :: ([.fieldLink RX7 7 "ShadowTableModel" "s" "[I", .methodLink RX7 29 yX7_row, .instanceMethod yX7_row, .selects RX7 yX7_row yX7_row, .initialized RX7, .code yX7_row cX7_row 3 (some .int), .methodLink RX7 53 yX7_lay, .instanceMethod yX7_lay, .selects RX7 yX7_lay yX7_lay, .code yX7_lay cX7_lay 4 none, .methodLink RX7 74 yX7_endCopy, .instanceMethod yX7_endCopy, .selects RX7 yX7_endCopy yX7_endCopy, .code yX7_endCopy cX7_endCopy 1 none, .methodLink RX7 83 yX7_rows, .instanceMethod yX7_rows, .selects RX7 yX7_rows yX7_rows, .code yX7_rows cX7_rows 4 (some .int)] ++ wsX70)
def wsX7_doGiveUp : List Cond := .code yX7_doGiveUp cX7_doGiveUp 2 (some .int) :: ([.fieldLink RX7 7 "ShadowTableModel" "s" "[I", .methodLink RX7 83 yX7_rows, .instanceMethod yX7_rows, .selects RX7 yX7_rows yX7_rows, .initialized RX7, .code yX7_rows cX7_rows 4 (some .int), .methodLink RX7 29 yX7_row, .instanceMethod yX7_row, .selects RX7 yX7_row yX7_row, .code yX7_row cX7_row 3 (some .int), .methodLink RX7 74 yX7_endCopy, .instanceMethod yX7_endCopy, .selects RX7 yX7_endCopy yX7_endCopy, .code yX7_endCopy cX7_endCopy 1 none] ++ wsX70)
def wsX7_phaseError : List Cond := .code yX7_phaseError cX7_phaseError 2 (some .int) :: ([.fieldLink RX7 7 "ShadowTableModel" "s" "[I"] ++ wsX70)
def wsX7_put_r1 : List Cond := [Cond.methodLink RX7 89 yX7_putError, Cond.instanceMethod yX7_putError, Cond.selects RX7 yX7_putError yX7_putError, Cond.initialized RX7, Cond.code yX7_putError cX7_putError 3 (some .int), Cond.methodLink RX7 66 yX7_isKey, Cond.static yX7_isKey, Cond.code yX7_isKey cX7_isKey 1 (some .boolean), Cond.methodLink RX7 25 yX7_in, Cond.static yX7_in, Cond.code yX7_in cX7_in 3 (some .boolean), Cond.methodLink RX7 70 yX7_changeError, Cond.instanceMethod yX7_changeError, Cond.selects RX7 yX7_changeError yX7_changeError, Cond.code yX7_changeError cX7_changeError 1 (some .int), Cond.fieldLink RX7 7 "ShadowTableModel" "s" "[I", Cond.methodLink RX7 63 yX7_isLogFull, Cond.instanceMethod yX7_isLogFull, Cond.selects RX7 yX7_isLogFull yX7_isLogFull, Cond.code yX7_isLogFull cX7_isLogFull 1 (some .boolean), Cond.methodLink RX7 33 yX7_isCopy, Cond.instanceMethod yX7_isCopy, Cond.selects RX7 yX7_isCopy yX7_isCopy, Cond.code yX7_isCopy cX7_isCopy 1 (some .boolean)]
def wsX7_put_r2 : List Cond := [Cond.methodLink RX7 92 yX7_record, Cond.instanceMethod yX7_record, Cond.selects RX7 yX7_record yX7_record, Cond.code yX7_record cX7_record 2 none, Cond.fieldLink RX7 37 "ShadowTableModel" "kept" "I", Cond.fieldLink RX7 13 "ShadowTableModel" "history" "[I", Cond.methodLink RX7 41 yX7_copyAll, Cond.static yX7_copyAll, Cond.code yX7_copyAll cX7_copyAll 5 none, Cond.methodLink RX7 80 yX7_doChange, Cond.instanceMethod yX7_doChange, Cond.selects RX7 yX7_doChange yX7_doChange, Cond.code yX7_doChange cX7_doChange 4 (some .int), Cond.methodLink RX7 29 yX7_row, Cond.instanceMethod yX7_row, Cond.selects RX7 yX7_row yX7_row, Cond.code yX7_row cX7_row 3 (some .int), Cond.methodLink RX7 74 yX7_endCopy, Cond.instanceMethod yX7_endCopy, Cond.selects RX7 yX7_endCopy yX7_endCopy, Cond.code yX7_endCopy cX7_endCopy 1 none, Cond.methodLink RX7 53 yX7_lay, Cond.instanceMethod yX7_lay, Cond.selects RX7 yX7_lay yX7_lay]
def wsX7_put_r3 : List Cond := [Cond.code yX7_lay cX7_lay 4 none, Cond.methodLink RX7 77 yX7_outside, Cond.static yX7_outside, Cond.code yX7_outside cX7_outside 1 (some .int)]
def wsX7_put : List Cond := .code yX7_put cX7_put 4 (some .int) :: ((wsX7_put_r1 ++ (wsX7_put_r2 ++ wsX7_put_r3)) ++ wsX70)
def wsX7_erase_r1 : List Cond := [Cond.methodLink RX7 95 yX7_eraseError, Cond.instanceMethod yX7_eraseError, Cond.selects RX7 yX7_eraseError yX7_eraseError, Cond.initialized RX7, Cond.code yX7_eraseError cX7_eraseError 2 (some .int), Cond.fieldLink RX7 7 "ShadowTableModel" "s" "[I", Cond.methodLink RX7 66 yX7_isKey, Cond.static yX7_isKey, Cond.code yX7_isKey cX7_isKey 1 (some .boolean), Cond.methodLink RX7 25 yX7_in, Cond.static yX7_in, Cond.code yX7_in cX7_in 3 (some .boolean), Cond.methodLink RX7 29 yX7_row, Cond.instanceMethod yX7_row, Cond.selects RX7 yX7_row yX7_row, Cond.code yX7_row cX7_row 3 (some .int), Cond.methodLink RX7 70 yX7_changeError, Cond.instanceMethod yX7_changeError, Cond.selects RX7 yX7_changeError yX7_changeError, Cond.code yX7_changeError cX7_changeError 1 (some .int), Cond.methodLink RX7 63 yX7_isLogFull, Cond.instanceMethod yX7_isLogFull, Cond.selects RX7 yX7_isLogFull yX7_isLogFull, Cond.code yX7_isLogFull cX7_isLogFull 1 (some .boolean)]
def wsX7_erase_r2 : List Cond := [Cond.methodLink RX7 33 yX7_isCopy, Cond.instanceMethod yX7_isCopy, Cond.selects RX7 yX7_isCopy yX7_isCopy, Cond.code yX7_isCopy cX7_isCopy 1 (some .boolean), Cond.methodLink RX7 92 yX7_record, Cond.instanceMethod yX7_record, Cond.selects RX7 yX7_record yX7_record, Cond.code yX7_record cX7_record 2 none, Cond.fieldLink RX7 37 "ShadowTableModel" "kept" "I", Cond.fieldLink RX7 13 "ShadowTableModel" "history" "[I", Cond.methodLink RX7 41 yX7_copyAll, Cond.static yX7_copyAll, Cond.code yX7_copyAll cX7_copyAll 5 none, Cond.methodLink RX7 98 yX7_doErase, Cond.instanceMethod yX7_doErase, Cond.selects RX7 yX7_doErase yX7_doErase, Cond.code yX7_doErase cX7_doErase 2 (some .int), Cond.methodLink RX7 80 yX7_doChange, Cond.instanceMethod yX7_doChange, Cond.selects RX7 yX7_doChange yX7_doChange, Cond.code yX7_doChange cX7_doChange 4 (some .int), Cond.methodLink RX7 74 yX7_endCopy, Cond.instanceMethod yX7_endCopy, Cond.selects RX7 yX7_endCopy yX7_endCopy]
def wsX7_erase_r3 : List Cond := [Cond.code yX7_endCopy cX7_endCopy 1 none, Cond.methodLink RX7 53 yX7_lay, Cond.instanceMethod yX7_lay, Cond.selects RX7 yX7_lay yX7_lay, Cond.code yX7_lay cX7_lay 4 none, Cond.methodLink RX7 77 yX7_outside, Cond.static yX7_outside, Cond.code yX7_outside cX7_outside 1 (some .int)]
def wsX7_erase : List Cond := .code yX7_erase cX7_erase 3 (some .int) :: ((wsX7_erase_r1 ++ (wsX7_erase_r2 ++ wsX7_erase_r3)) ++ wsX70)
def wsX7_begin_r1 : List Cond := [Cond.methodLink RX7 101 yX7_beginError, Cond.instanceMethod yX7_beginError, Cond.selects RX7 yX7_beginError yX7_beginError, Cond.initialized RX7, Cond.code yX7_beginError cX7_beginError 3 (some .int), Cond.methodLink RX7 25 yX7_in, Cond.static yX7_in, Cond.code yX7_in cX7_in 3 (some .boolean), Cond.methodLink RX7 33 yX7_isCopy, Cond.instanceMethod yX7_isCopy, Cond.selects RX7 yX7_isCopy yX7_isCopy, Cond.code yX7_isCopy cX7_isCopy 1 (some .boolean), Cond.fieldLink RX7 7 "ShadowTableModel" "s" "[I", Cond.methodLink RX7 92 yX7_record, Cond.instanceMethod yX7_record, Cond.selects RX7 yX7_record yX7_record, Cond.code yX7_record cX7_record 2 none, Cond.fieldLink RX7 37 "ShadowTableModel" "kept" "I", Cond.fieldLink RX7 13 "ShadowTableModel" "history" "[I", Cond.methodLink RX7 41 yX7_copyAll, Cond.static yX7_copyAll, Cond.code yX7_copyAll cX7_copyAll 5 none, Cond.methodLink RX7 104 yX7_doBegin, Cond.instanceMethod yX7_doBegin]
def wsX7_begin_r2 : List Cond := [Cond.selects RX7 yX7_doBegin yX7_doBegin, Cond.code yX7_doBegin cX7_doBegin 4 (some .int), Cond.methodLink RX7 53 yX7_lay, Cond.instanceMethod yX7_lay, Cond.selects RX7 yX7_lay yX7_lay, Cond.code yX7_lay cX7_lay 4 none, Cond.methodLink RX7 83 yX7_rows, Cond.instanceMethod yX7_rows, Cond.selects RX7 yX7_rows yX7_rows, Cond.code yX7_rows cX7_rows 4 (some .int), Cond.methodLink RX7 29 yX7_row, Cond.instanceMethod yX7_row, Cond.selects RX7 yX7_row yX7_row, Cond.code yX7_row cX7_row 3 (some .int)]
def wsX7_begin : List Cond := .code yX7_begin cX7_begin 4 (some .int) :: ((wsX7_begin_r1 ++ wsX7_begin_r2) ++ wsX70)
def wsX7_tick_r1 : List Cond := [Cond.methodLink RX7 25 yX7_in, Cond.static yX7_in, Cond.initialized RX7, Cond.code yX7_in cX7_in 3 (some .boolean), Cond.methodLink RX7 92 yX7_record, Cond.instanceMethod yX7_record, Cond.selects RX7 yX7_record yX7_record, Cond.code yX7_record cX7_record 2 none, Cond.fieldLink RX7 37 "ShadowTableModel" "kept" "I", Cond.fieldLink RX7 13 "ShadowTableModel" "history" "[I", Cond.fieldLink RX7 7 "ShadowTableModel" "s" "[I", Cond.methodLink RX7 41 yX7_copyAll, Cond.static yX7_copyAll, Cond.code yX7_copyAll cX7_copyAll 5 none, Cond.methodLink RX7 107 yX7_doTick, Cond.instanceMethod yX7_doTick, Cond.selects RX7 yX7_doTick yX7_doTick, Cond.code yX7_doTick cX7_doTick 3 (some .int), Cond.methodLink RX7 86 yX7_tickOnce, Cond.instanceMethod yX7_tickOnce, Cond.selects RX7 yX7_tickOnce yX7_tickOnce, Cond.code yX7_tickOnce cX7_tickOnce 2 none, Cond.methodLink RX7 33 yX7_isCopy, Cond.instanceMethod yX7_isCopy]
def wsX7_tick_r2 : List Cond := [Cond.selects RX7 yX7_isCopy yX7_isCopy, Cond.code yX7_isCopy cX7_isCopy 1 (some .boolean), Cond.methodLink RX7 57 yX7_apply, Cond.instanceMethod yX7_apply, Cond.selects RX7 yX7_apply yX7_apply, Cond.code yX7_apply cX7_apply 3 none, Cond.methodLink RX7 45 yX7_becomes, Cond.static yX7_becomes, Cond.code yX7_becomes cX7_becomes 3 (some .int), Cond.methodLink RX7 53 yX7_lay, Cond.instanceMethod yX7_lay, Cond.selects RX7 yX7_lay yX7_lay, Cond.code yX7_lay cX7_lay 4 none, Cond.methodLink RX7 60 yX7_copyKeys, Cond.instanceMethod yX7_copyKeys, Cond.selects RX7 yX7_copyKeys yX7_copyKeys, Cond.code yX7_copyKeys cX7_copyKeys 3 none, Cond.methodLink RX7 29 yX7_row, Cond.instanceMethod yX7_row, Cond.selects RX7 yX7_row yX7_row, Cond.code yX7_row cX7_row 3 (some .int), Cond.methodLink RX7 49 yX7_due, Cond.instanceMethod yX7_due, Cond.selects RX7 yX7_due yX7_due]
def wsX7_tick_r3 : List Cond := [Cond.code yX7_due cX7_due 2 (some .int)]
def wsX7_tick : List Cond := .code yX7_tick cX7_tick 2 (some .int) :: ((wsX7_tick_r1 ++ (wsX7_tick_r2 ++ wsX7_tick_r3)) ++ wsX70)
def wsX7_lock : List Cond := .code yX7_lock cX7_lock 2 (some .int) :: ([.methodLink RX7 110 yX7_phaseError, .instanceMethod yX7_phaseError, .selects RX7 yX7_phaseError yX7_phaseError, .initialized RX7, .code yX7_phaseError cX7_phaseError 2 (some .int), .fieldLink RX7 7 "ShadowTableModel" "s" "[I", .methodLink RX7 92 yX7_record, .instanceMethod yX7_record, .selects RX7 yX7_record yX7_record, .code yX7_record cX7_record 2 none, .fieldLink RX7 37 "ShadowTableModel" "kept" "I", .fieldLink RX7 13 "ShadowTableModel" "history" "[I", .methodLink RX7 41 yX7_copyAll, .static yX7_copyAll, .code yX7_copyAll cX7_copyAll 5 none, .methodLink RX7 113 yX7_doLock, .instanceMethod yX7_doLock, .selects RX7 yX7_doLock yX7_doLock, .code yX7_doLock cX7_doLock 1 (some .int)] ++ wsX70)
def wsX7_unlock : List Cond := .code yX7_unlock cX7_unlock 2 (some .int) :: ([.methodLink RX7 110 yX7_phaseError, .instanceMethod yX7_phaseError, .selects RX7 yX7_phaseError yX7_phaseError, .initialized RX7, .code yX7_phaseError cX7_phaseError 2 (some .int), .fieldLink RX7 7 "ShadowTableModel" "s" "[I", .methodLink RX7 92 yX7_record, .instanceMethod yX7_record, .selects RX7 yX7_record yX7_record, .code yX7_record cX7_record 2 none, .fieldLink RX7 37 "ShadowTableModel" "kept" "I", .fieldLink RX7 13 "ShadowTableModel" "history" "[I", .methodLink RX7 41 yX7_copyAll, .static yX7_copyAll, .code yX7_copyAll cX7_copyAll 5 none, .methodLink RX7 116 yX7_doUnlock, .instanceMethod yX7_doUnlock, .selects RX7 yX7_doUnlock yX7_doUnlock, .code yX7_doUnlock cX7_doUnlock 1 (some .int)] ++ wsX70)
def wsX7_swap_r1 : List Cond := [Cond.methodLink RX7 119 yX7_swapError, Cond.instanceMethod yX7_swapError, Cond.selects RX7 yX7_swapError yX7_swapError, Cond.initialized RX7, Cond.code yX7_swapError cX7_swapError 1 (some .int), Cond.fieldLink RX7 7 "ShadowTableModel" "s" "[I", Cond.methodLink RX7 92 yX7_record, Cond.instanceMethod yX7_record, Cond.selects RX7 yX7_record yX7_record, Cond.code yX7_record cX7_record 2 none, Cond.fieldLink RX7 37 "ShadowTableModel" "kept" "I", Cond.fieldLink RX7 13 "ShadowTableModel" "history" "[I", Cond.methodLink RX7 41 yX7_copyAll, Cond.static yX7_copyAll, Cond.code yX7_copyAll cX7_copyAll 5 none, Cond.methodLink RX7 122 yX7_doSwap, Cond.instanceMethod yX7_doSwap, Cond.selects RX7 yX7_doSwap yX7_doSwap, Cond.code yX7_doSwap cX7_doSwap 2 (some .int), Cond.methodLink RX7 29 yX7_row, Cond.instanceMethod yX7_row, Cond.selects RX7 yX7_row yX7_row, Cond.code yX7_row cX7_row 3 (some .int), Cond.methodLink RX7 53 yX7_lay]
def wsX7_swap_r2 : List Cond := [Cond.instanceMethod yX7_lay, Cond.selects RX7 yX7_lay yX7_lay, Cond.code yX7_lay cX7_lay 4 none, Cond.methodLink RX7 74 yX7_endCopy, Cond.instanceMethod yX7_endCopy, Cond.selects RX7 yX7_endCopy yX7_endCopy, Cond.code yX7_endCopy cX7_endCopy 1 none, Cond.methodLink RX7 83 yX7_rows, Cond.instanceMethod yX7_rows, Cond.selects RX7 yX7_rows yX7_rows, Cond.code yX7_rows cX7_rows 4 (some .int)]
def wsX7_swap : List Cond := .code yX7_swap cX7_swap 2 (some .int) :: ((wsX7_swap_r1 ++ wsX7_swap_r2) ++ wsX70)
def wsX7_giveUp_r1 : List Cond := [Cond.methodLink RX7 33 yX7_isCopy, Cond.instanceMethod yX7_isCopy, Cond.selects RX7 yX7_isCopy yX7_isCopy, Cond.initialized RX7, Cond.code yX7_isCopy cX7_isCopy 1 (some .boolean), Cond.fieldLink RX7 7 "ShadowTableModel" "s" "[I", Cond.methodLink RX7 92 yX7_record, Cond.instanceMethod yX7_record, Cond.selects RX7 yX7_record yX7_record, Cond.code yX7_record cX7_record 2 none, Cond.fieldLink RX7 37 "ShadowTableModel" "kept" "I", Cond.fieldLink RX7 13 "ShadowTableModel" "history" "[I", Cond.methodLink RX7 41 yX7_copyAll, Cond.static yX7_copyAll, Cond.code yX7_copyAll cX7_copyAll 5 none, Cond.methodLink RX7 125 yX7_doGiveUp, Cond.instanceMethod yX7_doGiveUp, Cond.selects RX7 yX7_doGiveUp yX7_doGiveUp, Cond.code yX7_doGiveUp cX7_doGiveUp 2 (some .int), Cond.methodLink RX7 83 yX7_rows, Cond.instanceMethod yX7_rows, Cond.selects RX7 yX7_rows yX7_rows, Cond.code yX7_rows cX7_rows 4 (some .int), Cond.methodLink RX7 29 yX7_row]
def wsX7_giveUp_r2 : List Cond := [Cond.instanceMethod yX7_row, Cond.selects RX7 yX7_row yX7_row, Cond.code yX7_row cX7_row 3 (some .int), Cond.methodLink RX7 74 yX7_endCopy, Cond.instanceMethod yX7_endCopy, Cond.selects RX7 yX7_endCopy yX7_endCopy, Cond.code yX7_endCopy cX7_endCopy 1 none]
def wsX7_giveUp : List Cond := .code yX7_giveUp cX7_giveUp 1 (some .int) :: ((wsX7_giveUp_r1 ++ wsX7_giveUp_r2) ++ wsX70)
def wsX7_fits : List Cond := .code yX7_fits cX7_fits 2 (some .boolean) :: ([.methodLink RX7 25 yX7_in, .static yX7_in, .initialized RX7, .code yX7_in cX7_in 3 (some .boolean)])
def wsX7_set : List Cond := .code yX7_set cX7_set 4 (some .int) :: ([.fieldLink RX7 7 "ShadowTableModel" "s" "[I", .methodLink RX7 25 yX7_in, .static yX7_in, .initialized RX7, .code yX7_in cX7_in 3 (some .boolean), .methodLink RX7 128 yX7_fits, .static yX7_fits, .code yX7_fits cX7_fits 2 (some .boolean), .methodLink RX7 92 yX7_record, .instanceMethod yX7_record, .selects RX7 yX7_record yX7_record, .code yX7_record cX7_record 2 none, .fieldLink RX7 37 "ShadowTableModel" "kept" "I", .fieldLink RX7 13 "ShadowTableModel" "history" "[I", .methodLink RX7 41 yX7_copyAll, .static yX7_copyAll, .code yX7_copyAll cX7_copyAll 5 none] ++ wsX70)
def wsX7_append : List Cond := .code yX7_append cX7_append 2 (some .int) :: ([.fieldLink RX7 132 "ShadowTableModel" "length" "I", .fieldLink RX7 22 "ShadowTableModel" "text" "[I", .methodLink RX7 25 yX7_in, .static yX7_in, .initialized RX7, .code yX7_in cX7_in 3 (some .boolean)] ++ wsX70)
def wsX7_clearText : List Cond := .code yX7_clearText cX7_clearText 2 (some .int) :: ([.fieldLink RX7 132 "ShadowTableModel" "length" "I"] ++ wsX70)
def wsX7_isNext : List Cond := .code yX7_isNext cX7_isNext 3 (some .boolean) :: ([.fieldLink RX7 135 "ShadowTableModel" "place" "I", .fieldLink RX7 132 "ShadowTableModel" "length" "I", .fieldLink RX7 22 "ShadowTableModel" "text" "[I", .methodLink RX7 25 yX7_in, .static yX7_in, .initialized RX7, .code yX7_in cX7_in 3 (some .boolean)] ++ wsX70)
def wsX7_takes : List Cond := .code yX7_takes cX7_takes 3 (some .boolean) :: ([.fieldLink RX7 135 "ShadowTableModel" "place" "I", .methodLink RX7 138 yX7_isNext, .instanceMethod yX7_isNext, .selects RX7 yX7_isNext yX7_isNext, .initialized RX7, .code yX7_isNext cX7_isNext 3 (some .boolean), .fieldLink RX7 132 "ShadowTableModel" "length" "I", .fieldLink RX7 22 "ShadowTableModel" "text" "[I", .methodLink RX7 25 yX7_in, .static yX7_in, .code yX7_in cX7_in 3 (some .boolean)] ++ wsX70)
def wsX7_readNumber : List Cond := .code yX7_readNumber cX7_readNumber 4 (some .int) :: ([.fieldLink RX7 22 "ShadowTableModel" "text" "[I", .fieldLink RX7 135 "ShadowTableModel" "place" "I", .methodLink RX7 138 yX7_isNext, .instanceMethod yX7_isNext, .selects RX7 yX7_isNext yX7_isNext, .initialized RX7, .code yX7_isNext cX7_isNext 3 (some .boolean), .fieldLink RX7 132 "ShadowTableModel" "length" "I", .methodLink RX7 25 yX7_in, .static yX7_in, .code yX7_in cX7_in 3 (some .boolean)] ++ wsX70)
def wsX7_readOrder : List Cond := .code yX7_readOrder cX7_readOrder 1 (some .boolean) :: ([.fieldLink RX7 135 "ShadowTableModel" "place" "I", .fieldLink RX7 132 "ShadowTableModel" "length" "I", .fieldLink RX7 22 "ShadowTableModel" "text" "[I", .fieldLink RX7 141 "ShadowTableModel" "letter" "I", .fieldLink RX7 147 "ShadowTableModel" "one" "I", .fieldLink RX7 153 "ShadowTableModel" "other" "I", .methodLink RX7 144 yX7_readNumber, .instanceMethod yX7_readNumber, .selects RX7 yX7_readNumber yX7_readNumber, .initialized RX7, .code yX7_readNumber cX7_readNumber 4 (some .int), .methodLink RX7 138 yX7_isNext, .instanceMethod yX7_isNext, .selects RX7 yX7_isNext yX7_isNext, .code yX7_isNext cX7_isNext 3 (some .boolean), .methodLink RX7 25 yX7_in, .static yX7_in, .code yX7_in cX7_in 3 (some .boolean), .methodLink RX7 150 yX7_takes, .instanceMethod yX7_takes, .selects RX7 yX7_takes yX7_takes, .code yX7_takes cX7_takes 3 (some .boolean)] ++ wsX70)
def wsX7_errorOfOrder_r1 : List Cond := [Cond.fieldLink RX7 141 "ShadowTableModel" "letter" "I", Cond.fieldLink RX7 147 "ShadowTableModel" "one" "I", Cond.fieldLink RX7 153 "ShadowTableModel" "other" "I", Cond.methodLink RX7 89 yX7_putError, Cond.instanceMethod yX7_putError, Cond.selects RX7 yX7_putError yX7_putError, Cond.initialized RX7, Cond.code yX7_putError cX7_putError 3 (some .int), Cond.methodLink RX7 66 yX7_isKey, Cond.static yX7_isKey, Cond.code yX7_isKey cX7_isKey 1 (some .boolean), Cond.methodLink RX7 25 yX7_in, Cond.static yX7_in, Cond.code yX7_in cX7_in 3 (some .boolean), Cond.methodLink RX7 70 yX7_changeError, Cond.instanceMethod yX7_changeError, Cond.selects RX7 yX7_changeError yX7_changeError, Cond.code yX7_changeError cX7_changeError 1 (some .int), Cond.fieldLink RX7 7 "ShadowTableModel" "s" "[I", Cond.methodLink RX7 63 yX7_isLogFull, Cond.instanceMethod yX7_isLogFull, Cond.selects RX7 yX7_isLogFull yX7_isLogFull, Cond.code yX7_isLogFull cX7_isLogFull 1 (some .boolean), Cond.methodLink RX7 33 yX7_isCopy]
def wsX7_errorOfOrder_r2 : List Cond := [Cond.instanceMethod yX7_isCopy, Cond.selects RX7 yX7_isCopy yX7_isCopy, Cond.code yX7_isCopy cX7_isCopy 1 (some .boolean), Cond.methodLink RX7 95 yX7_eraseError, Cond.instanceMethod yX7_eraseError, Cond.selects RX7 yX7_eraseError yX7_eraseError, Cond.code yX7_eraseError cX7_eraseError 2 (some .int), Cond.methodLink RX7 29 yX7_row, Cond.instanceMethod yX7_row, Cond.selects RX7 yX7_row yX7_row, Cond.code yX7_row cX7_row 3 (some .int), Cond.methodLink RX7 101 yX7_beginError, Cond.instanceMethod yX7_beginError, Cond.selects RX7 yX7_beginError yX7_beginError, Cond.code yX7_beginError cX7_beginError 3 (some .int), Cond.methodLink RX7 110 yX7_phaseError, Cond.instanceMethod yX7_phaseError, Cond.selects RX7 yX7_phaseError yX7_phaseError, Cond.code yX7_phaseError cX7_phaseError 2 (some .int), Cond.methodLink RX7 119 yX7_swapError, Cond.instanceMethod yX7_swapError, Cond.selects RX7 yX7_swapError yX7_swapError, Cond.code yX7_swapError cX7_swapError 1 (some .int)]
def wsX7_errorOfOrder : List Cond := .code yX7_errorOfOrder cX7_errorOfOrder 1 (some .int) :: ((wsX7_errorOfOrder_r1 ++ wsX7_errorOfOrder_r2) ++ wsX70)
def wsX7_carryOut_r1 : List Cond := [Cond.fieldLink RX7 141 "ShadowTableModel" "letter" "I", Cond.fieldLink RX7 147 "ShadowTableModel" "one" "I", Cond.fieldLink RX7 153 "ShadowTableModel" "other" "I", Cond.methodLink RX7 80 yX7_doChange, Cond.instanceMethod yX7_doChange, Cond.selects RX7 yX7_doChange yX7_doChange, Cond.initialized RX7, Cond.code yX7_doChange cX7_doChange 4 (some .int), Cond.fieldLink RX7 7 "ShadowTableModel" "s" "[I", Cond.methodLink RX7 29 yX7_row, Cond.instanceMethod yX7_row, Cond.selects RX7 yX7_row yX7_row, Cond.code yX7_row cX7_row 3 (some .int), Cond.methodLink RX7 63 yX7_isLogFull, Cond.instanceMethod yX7_isLogFull, Cond.selects RX7 yX7_isLogFull yX7_isLogFull, Cond.code yX7_isLogFull cX7_isLogFull 1 (some .boolean), Cond.methodLink RX7 33 yX7_isCopy, Cond.instanceMethod yX7_isCopy, Cond.selects RX7 yX7_isCopy yX7_isCopy, Cond.code yX7_isCopy cX7_isCopy 1 (some .boolean), Cond.methodLink RX7 74 yX7_endCopy, Cond.instanceMethod yX7_endCopy, Cond.selects RX7 yX7_endCopy yX7_endCopy]
def wsX7_carryOut_r2 : List Cond := [Cond.code yX7_endCopy cX7_endCopy 1 none, Cond.methodLink RX7 53 yX7_lay, Cond.instanceMethod yX7_lay, Cond.selects RX7 yX7_lay yX7_lay, Cond.code yX7_lay cX7_lay 4 none, Cond.methodLink RX7 77 yX7_outside, Cond.static yX7_outside, Cond.code yX7_outside cX7_outside 1 (some .int), Cond.methodLink RX7 98 yX7_doErase, Cond.instanceMethod yX7_doErase, Cond.selects RX7 yX7_doErase yX7_doErase, Cond.code yX7_doErase cX7_doErase 2 (some .int), Cond.methodLink RX7 104 yX7_doBegin, Cond.instanceMethod yX7_doBegin, Cond.selects RX7 yX7_doBegin yX7_doBegin, Cond.code yX7_doBegin cX7_doBegin 4 (some .int), Cond.methodLink RX7 83 yX7_rows, Cond.instanceMethod yX7_rows, Cond.selects RX7 yX7_rows yX7_rows, Cond.code yX7_rows cX7_rows 4 (some .int), Cond.methodLink RX7 113 yX7_doLock, Cond.instanceMethod yX7_doLock, Cond.selects RX7 yX7_doLock yX7_doLock, Cond.code yX7_doLock cX7_doLock 1 (some .int)]
def wsX7_carryOut_r3 : List Cond := [Cond.methodLink RX7 116 yX7_doUnlock, Cond.instanceMethod yX7_doUnlock, Cond.selects RX7 yX7_doUnlock yX7_doUnlock, Cond.code yX7_doUnlock cX7_doUnlock 1 (some .int), Cond.methodLink RX7 122 yX7_doSwap, Cond.instanceMethod yX7_doSwap, Cond.selects RX7 yX7_doSwap yX7_doSwap, Cond.code yX7_doSwap cX7_doSwap 2 (some .int), Cond.methodLink RX7 125 yX7_doGiveUp, Cond.instanceMethod yX7_doGiveUp, Cond.selects RX7 yX7_doGiveUp yX7_doGiveUp, Cond.code yX7_doGiveUp cX7_doGiveUp 2 (some .int), Cond.methodLink RX7 107 yX7_doTick, Cond.instanceMethod yX7_doTick, Cond.selects RX7 yX7_doTick yX7_doTick, Cond.code yX7_doTick cX7_doTick 3 (some .int), Cond.methodLink RX7 86 yX7_tickOnce, Cond.instanceMethod yX7_tickOnce, Cond.selects RX7 yX7_tickOnce yX7_tickOnce, Cond.code yX7_tickOnce cX7_tickOnce 2 none, Cond.methodLink RX7 57 yX7_apply, Cond.instanceMethod yX7_apply, Cond.selects RX7 yX7_apply yX7_apply, Cond.code yX7_apply cX7_apply 3 none]
def wsX7_carryOut_r4 : List Cond := [Cond.methodLink RX7 45 yX7_becomes, Cond.static yX7_becomes, Cond.code yX7_becomes cX7_becomes 3 (some .int), Cond.methodLink RX7 60 yX7_copyKeys, Cond.instanceMethod yX7_copyKeys, Cond.selects RX7 yX7_copyKeys yX7_copyKeys, Cond.code yX7_copyKeys cX7_copyKeys 3 none, Cond.methodLink RX7 49 yX7_due, Cond.instanceMethod yX7_due, Cond.selects RX7 yX7_due yX7_due, Cond.code yX7_due cX7_due 2 (some .int)]
def wsX7_carryOut : List Cond := .code yX7_carryOut cX7_carryOut 1 (some .int) :: ((wsX7_carryOut_r1 ++ (wsX7_carryOut_r2 ++ (wsX7_carryOut_r3 ++ wsX7_carryOut_r4))) ++ wsX70)
def wsX7_readText_r1 : List Cond := [Cond.fieldLink RX7 135 "ShadowTableModel" "place" "I", Cond.fieldLink RX7 156 "ShadowTableModel" "carriedOut" "I", Cond.fieldLink RX7 132 "ShadowTableModel" "length" "I", Cond.methodLink RX7 159 yX7_readOrder, Cond.instanceMethod yX7_readOrder, Cond.selects RX7 yX7_readOrder yX7_readOrder, Cond.initialized RX7, Cond.code yX7_readOrder cX7_readOrder 1 (some .boolean), Cond.fieldLink RX7 22 "ShadowTableModel" "text" "[I", Cond.fieldLink RX7 141 "ShadowTableModel" "letter" "I", Cond.fieldLink RX7 147 "ShadowTableModel" "one" "I", Cond.fieldLink RX7 153 "ShadowTableModel" "other" "I", Cond.methodLink RX7 144 yX7_readNumber, Cond.instanceMethod yX7_readNumber, Cond.selects RX7 yX7_readNumber yX7_readNumber, Cond.code yX7_readNumber cX7_readNumber 4 (some .int), Cond.methodLink RX7 138 yX7_isNext, Cond.instanceMethod yX7_isNext, Cond.selects RX7 yX7_isNext yX7_isNext, Cond.code yX7_isNext cX7_isNext 3 (some .boolean), Cond.methodLink RX7 25 yX7_in, Cond.static yX7_in, Cond.code yX7_in cX7_in 3 (some .boolean), Cond.methodLink RX7 150 yX7_takes]
def wsX7_readText_r2 : List Cond := [Cond.instanceMethod yX7_takes, Cond.selects RX7 yX7_takes yX7_takes, Cond.code yX7_takes cX7_takes 3 (some .boolean), Cond.methodLink RX7 162 yX7_errorOfOrder, Cond.instanceMethod yX7_errorOfOrder, Cond.selects RX7 yX7_errorOfOrder yX7_errorOfOrder, Cond.code yX7_errorOfOrder cX7_errorOfOrder 1 (some .int), Cond.methodLink RX7 89 yX7_putError, Cond.instanceMethod yX7_putError, Cond.selects RX7 yX7_putError yX7_putError, Cond.code yX7_putError cX7_putError 3 (some .int), Cond.methodLink RX7 66 yX7_isKey, Cond.static yX7_isKey, Cond.code yX7_isKey cX7_isKey 1 (some .boolean), Cond.methodLink RX7 70 yX7_changeError, Cond.instanceMethod yX7_changeError, Cond.selects RX7 yX7_changeError yX7_changeError, Cond.code yX7_changeError cX7_changeError 1 (some .int), Cond.fieldLink RX7 7 "ShadowTableModel" "s" "[I", Cond.methodLink RX7 63 yX7_isLogFull, Cond.instanceMethod yX7_isLogFull, Cond.selects RX7 yX7_isLogFull yX7_isLogFull, Cond.code yX7_isLogFull cX7_isLogFull 1 (some .boolean), Cond.methodLink RX7 33 yX7_isCopy]
def wsX7_readText_r3 : List Cond := [Cond.instanceMethod yX7_isCopy, Cond.selects RX7 yX7_isCopy yX7_isCopy, Cond.code yX7_isCopy cX7_isCopy 1 (some .boolean), Cond.methodLink RX7 95 yX7_eraseError, Cond.instanceMethod yX7_eraseError, Cond.selects RX7 yX7_eraseError yX7_eraseError, Cond.code yX7_eraseError cX7_eraseError 2 (some .int), Cond.methodLink RX7 29 yX7_row, Cond.instanceMethod yX7_row, Cond.selects RX7 yX7_row yX7_row, Cond.code yX7_row cX7_row 3 (some .int), Cond.methodLink RX7 101 yX7_beginError, Cond.instanceMethod yX7_beginError, Cond.selects RX7 yX7_beginError yX7_beginError, Cond.code yX7_beginError cX7_beginError 3 (some .int), Cond.methodLink RX7 110 yX7_phaseError, Cond.instanceMethod yX7_phaseError, Cond.selects RX7 yX7_phaseError yX7_phaseError, Cond.code yX7_phaseError cX7_phaseError 2 (some .int), Cond.methodLink RX7 119 yX7_swapError, Cond.instanceMethod yX7_swapError, Cond.selects RX7 yX7_swapError yX7_swapError, Cond.code yX7_swapError cX7_swapError 1 (some .int), Cond.methodLink RX7 165 yX7_carryOut]
def wsX7_readText_r4 : List Cond := [Cond.instanceMethod yX7_carryOut, Cond.selects RX7 yX7_carryOut yX7_carryOut, Cond.code yX7_carryOut cX7_carryOut 1 (some .int), Cond.methodLink RX7 80 yX7_doChange, Cond.instanceMethod yX7_doChange, Cond.selects RX7 yX7_doChange yX7_doChange, Cond.code yX7_doChange cX7_doChange 4 (some .int), Cond.methodLink RX7 74 yX7_endCopy, Cond.instanceMethod yX7_endCopy, Cond.selects RX7 yX7_endCopy yX7_endCopy, Cond.code yX7_endCopy cX7_endCopy 1 none, Cond.methodLink RX7 53 yX7_lay, Cond.instanceMethod yX7_lay, Cond.selects RX7 yX7_lay yX7_lay, Cond.code yX7_lay cX7_lay 4 none, Cond.methodLink RX7 77 yX7_outside, Cond.static yX7_outside, Cond.code yX7_outside cX7_outside 1 (some .int), Cond.methodLink RX7 98 yX7_doErase, Cond.instanceMethod yX7_doErase, Cond.selects RX7 yX7_doErase yX7_doErase, Cond.code yX7_doErase cX7_doErase 2 (some .int), Cond.methodLink RX7 104 yX7_doBegin, Cond.instanceMethod yX7_doBegin]
def wsX7_readText_r5 : List Cond := [Cond.selects RX7 yX7_doBegin yX7_doBegin, Cond.code yX7_doBegin cX7_doBegin 4 (some .int), Cond.methodLink RX7 83 yX7_rows, Cond.instanceMethod yX7_rows, Cond.selects RX7 yX7_rows yX7_rows, Cond.code yX7_rows cX7_rows 4 (some .int), Cond.methodLink RX7 113 yX7_doLock, Cond.instanceMethod yX7_doLock, Cond.selects RX7 yX7_doLock yX7_doLock, Cond.code yX7_doLock cX7_doLock 1 (some .int), Cond.methodLink RX7 116 yX7_doUnlock, Cond.instanceMethod yX7_doUnlock, Cond.selects RX7 yX7_doUnlock yX7_doUnlock, Cond.code yX7_doUnlock cX7_doUnlock 1 (some .int), Cond.methodLink RX7 122 yX7_doSwap, Cond.instanceMethod yX7_doSwap, Cond.selects RX7 yX7_doSwap yX7_doSwap, Cond.code yX7_doSwap cX7_doSwap 2 (some .int), Cond.methodLink RX7 125 yX7_doGiveUp, Cond.instanceMethod yX7_doGiveUp, Cond.selects RX7 yX7_doGiveUp yX7_doGiveUp, Cond.code yX7_doGiveUp cX7_doGiveUp 2 (some .int), Cond.methodLink RX7 107 yX7_doTick, Cond.instanceMethod yX7_doTick]
def wsX7_readText_r6 : List Cond := [Cond.selects RX7 yX7_doTick yX7_doTick, Cond.code yX7_doTick cX7_doTick 3 (some .int), Cond.methodLink RX7 86 yX7_tickOnce, Cond.instanceMethod yX7_tickOnce, Cond.selects RX7 yX7_tickOnce yX7_tickOnce, Cond.code yX7_tickOnce cX7_tickOnce 2 none, Cond.methodLink RX7 57 yX7_apply, Cond.instanceMethod yX7_apply, Cond.selects RX7 yX7_apply yX7_apply, Cond.code yX7_apply cX7_apply 3 none, Cond.methodLink RX7 45 yX7_becomes, Cond.static yX7_becomes, Cond.code yX7_becomes cX7_becomes 3 (some .int), Cond.methodLink RX7 60 yX7_copyKeys, Cond.instanceMethod yX7_copyKeys, Cond.selects RX7 yX7_copyKeys yX7_copyKeys, Cond.code yX7_copyKeys cX7_copyKeys 3 none, Cond.methodLink RX7 49 yX7_due, Cond.instanceMethod yX7_due, Cond.selects RX7 yX7_due yX7_due, Cond.code yX7_due cX7_due 2 (some .int)]
def wsX7_readText : List Cond := .code yX7_readText cX7_readText 3 (some .boolean) :: ((wsX7_readText_r1 ++ (wsX7_readText_r2 ++ (wsX7_readText_r3 ++ (wsX7_readText_r4 ++ (wsX7_readText_r5 ++ wsX7_readText_r6))))) ++ wsX70)
def wsX7_fault_r1 : List Cond := [Cond.fieldLink RX7 135 "ShadowTableModel" "place" "I", Cond.methodLink RX7 168 yX7_readText, Cond.instanceMethod yX7_readText, Cond.selects RX7 yX7_readText yX7_readText, Cond.initialized RX7, Cond.code yX7_readText cX7_readText 3 (some .boolean), Cond.fieldLink RX7 156 "ShadowTableModel" "carriedOut" "I", Cond.fieldLink RX7 132 "ShadowTableModel" "length" "I", Cond.methodLink RX7 159 yX7_readOrder, Cond.instanceMethod yX7_readOrder, Cond.selects RX7 yX7_readOrder yX7_readOrder, Cond.code yX7_readOrder cX7_readOrder 1 (some .boolean), Cond.fieldLink RX7 22 "ShadowTableModel" "text" "[I", Cond.fieldLink RX7 141 "ShadowTableModel" "letter" "I", Cond.fieldLink RX7 147 "ShadowTableModel" "one" "I", Cond.fieldLink RX7 153 "ShadowTableModel" "other" "I", Cond.methodLink RX7 144 yX7_readNumber, Cond.instanceMethod yX7_readNumber, Cond.selects RX7 yX7_readNumber yX7_readNumber, Cond.code yX7_readNumber cX7_readNumber 4 (some .int), Cond.methodLink RX7 138 yX7_isNext, Cond.instanceMethod yX7_isNext, Cond.selects RX7 yX7_isNext yX7_isNext, Cond.code yX7_isNext cX7_isNext 3 (some .boolean)]
def wsX7_fault_r2 : List Cond := [Cond.methodLink RX7 25 yX7_in, Cond.static yX7_in, Cond.code yX7_in cX7_in 3 (some .boolean), Cond.methodLink RX7 150 yX7_takes, Cond.instanceMethod yX7_takes, Cond.selects RX7 yX7_takes yX7_takes, Cond.code yX7_takes cX7_takes 3 (some .boolean), Cond.methodLink RX7 162 yX7_errorOfOrder, Cond.instanceMethod yX7_errorOfOrder, Cond.selects RX7 yX7_errorOfOrder yX7_errorOfOrder, Cond.code yX7_errorOfOrder cX7_errorOfOrder 1 (some .int), Cond.methodLink RX7 89 yX7_putError, Cond.instanceMethod yX7_putError, Cond.selects RX7 yX7_putError yX7_putError, Cond.code yX7_putError cX7_putError 3 (some .int), Cond.methodLink RX7 66 yX7_isKey, Cond.static yX7_isKey, Cond.code yX7_isKey cX7_isKey 1 (some .boolean), Cond.methodLink RX7 70 yX7_changeError, Cond.instanceMethod yX7_changeError, Cond.selects RX7 yX7_changeError yX7_changeError, Cond.code yX7_changeError cX7_changeError 1 (some .int), Cond.fieldLink RX7 7 "ShadowTableModel" "s" "[I", Cond.methodLink RX7 63 yX7_isLogFull]
def wsX7_fault_r3 : List Cond := [Cond.instanceMethod yX7_isLogFull, Cond.selects RX7 yX7_isLogFull yX7_isLogFull, Cond.code yX7_isLogFull cX7_isLogFull 1 (some .boolean), Cond.methodLink RX7 33 yX7_isCopy, Cond.instanceMethod yX7_isCopy, Cond.selects RX7 yX7_isCopy yX7_isCopy, Cond.code yX7_isCopy cX7_isCopy 1 (some .boolean), Cond.methodLink RX7 95 yX7_eraseError, Cond.instanceMethod yX7_eraseError, Cond.selects RX7 yX7_eraseError yX7_eraseError, Cond.code yX7_eraseError cX7_eraseError 2 (some .int), Cond.methodLink RX7 29 yX7_row, Cond.instanceMethod yX7_row, Cond.selects RX7 yX7_row yX7_row, Cond.code yX7_row cX7_row 3 (some .int), Cond.methodLink RX7 101 yX7_beginError, Cond.instanceMethod yX7_beginError, Cond.selects RX7 yX7_beginError yX7_beginError, Cond.code yX7_beginError cX7_beginError 3 (some .int), Cond.methodLink RX7 110 yX7_phaseError, Cond.instanceMethod yX7_phaseError, Cond.selects RX7 yX7_phaseError yX7_phaseError, Cond.code yX7_phaseError cX7_phaseError 2 (some .int), Cond.methodLink RX7 119 yX7_swapError]
def wsX7_fault_r4 : List Cond := [Cond.instanceMethod yX7_swapError, Cond.selects RX7 yX7_swapError yX7_swapError, Cond.code yX7_swapError cX7_swapError 1 (some .int), Cond.methodLink RX7 165 yX7_carryOut, Cond.instanceMethod yX7_carryOut, Cond.selects RX7 yX7_carryOut yX7_carryOut, Cond.code yX7_carryOut cX7_carryOut 1 (some .int), Cond.methodLink RX7 80 yX7_doChange, Cond.instanceMethod yX7_doChange, Cond.selects RX7 yX7_doChange yX7_doChange, Cond.code yX7_doChange cX7_doChange 4 (some .int), Cond.methodLink RX7 74 yX7_endCopy, Cond.instanceMethod yX7_endCopy, Cond.selects RX7 yX7_endCopy yX7_endCopy, Cond.code yX7_endCopy cX7_endCopy 1 none, Cond.methodLink RX7 53 yX7_lay, Cond.instanceMethod yX7_lay, Cond.selects RX7 yX7_lay yX7_lay, Cond.code yX7_lay cX7_lay 4 none, Cond.methodLink RX7 77 yX7_outside, Cond.static yX7_outside, Cond.code yX7_outside cX7_outside 1 (some .int), Cond.methodLink RX7 98 yX7_doErase, Cond.instanceMethod yX7_doErase]
def wsX7_fault_r5 : List Cond := [Cond.selects RX7 yX7_doErase yX7_doErase, Cond.code yX7_doErase cX7_doErase 2 (some .int), Cond.methodLink RX7 104 yX7_doBegin, Cond.instanceMethod yX7_doBegin, Cond.selects RX7 yX7_doBegin yX7_doBegin, Cond.code yX7_doBegin cX7_doBegin 4 (some .int), Cond.methodLink RX7 83 yX7_rows, Cond.instanceMethod yX7_rows, Cond.selects RX7 yX7_rows yX7_rows, Cond.code yX7_rows cX7_rows 4 (some .int), Cond.methodLink RX7 113 yX7_doLock, Cond.instanceMethod yX7_doLock, Cond.selects RX7 yX7_doLock yX7_doLock, Cond.code yX7_doLock cX7_doLock 1 (some .int), Cond.methodLink RX7 116 yX7_doUnlock, Cond.instanceMethod yX7_doUnlock, Cond.selects RX7 yX7_doUnlock yX7_doUnlock, Cond.code yX7_doUnlock cX7_doUnlock 1 (some .int), Cond.methodLink RX7 122 yX7_doSwap, Cond.instanceMethod yX7_doSwap, Cond.selects RX7 yX7_doSwap yX7_doSwap, Cond.code yX7_doSwap cX7_doSwap 2 (some .int), Cond.methodLink RX7 125 yX7_doGiveUp, Cond.instanceMethod yX7_doGiveUp]
def wsX7_fault_r6 : List Cond := [Cond.selects RX7 yX7_doGiveUp yX7_doGiveUp, Cond.code yX7_doGiveUp cX7_doGiveUp 2 (some .int), Cond.methodLink RX7 107 yX7_doTick, Cond.instanceMethod yX7_doTick, Cond.selects RX7 yX7_doTick yX7_doTick, Cond.code yX7_doTick cX7_doTick 3 (some .int), Cond.methodLink RX7 86 yX7_tickOnce, Cond.instanceMethod yX7_tickOnce, Cond.selects RX7 yX7_tickOnce yX7_tickOnce, Cond.code yX7_tickOnce cX7_tickOnce 2 none, Cond.methodLink RX7 57 yX7_apply, Cond.instanceMethod yX7_apply, Cond.selects RX7 yX7_apply yX7_apply, Cond.code yX7_apply cX7_apply 3 none, Cond.methodLink RX7 45 yX7_becomes, Cond.static yX7_becomes, Cond.code yX7_becomes cX7_becomes 3 (some .int), Cond.methodLink RX7 60 yX7_copyKeys, Cond.instanceMethod yX7_copyKeys, Cond.selects RX7 yX7_copyKeys yX7_copyKeys, Cond.code yX7_copyKeys cX7_copyKeys 3 none, Cond.methodLink RX7 49 yX7_due, Cond.instanceMethod yX7_due, Cond.selects RX7 yX7_due yX7_due]
def wsX7_fault_r7 : List Cond := [Cond.code yX7_due cX7_due 2 (some .int)]
def wsX7_fault : List Cond := .code yX7_fault cX7_fault 1 (some .int) :: ((wsX7_fault_r1 ++ (wsX7_fault_r2 ++ (wsX7_fault_r3 ++ (wsX7_fault_r4 ++ (wsX7_fault_r5 ++ (wsX7_fault_r6 ++ wsX7_fault_r7)))))) ++ wsX70)
def wsX7_run_r1 : List Cond := [Cond.fieldLink RX7 135 "ShadowTableModel" "place" "I", Cond.fieldLink RX7 156 "ShadowTableModel" "carriedOut" "I", Cond.methodLink RX7 168 yX7_readText, Cond.instanceMethod yX7_readText, Cond.selects RX7 yX7_readText yX7_readText, Cond.initialized RX7, Cond.code yX7_readText cX7_readText 3 (some .boolean), Cond.fieldLink RX7 132 "ShadowTableModel" "length" "I", Cond.methodLink RX7 159 yX7_readOrder, Cond.instanceMethod yX7_readOrder, Cond.selects RX7 yX7_readOrder yX7_readOrder, Cond.code yX7_readOrder cX7_readOrder 1 (some .boolean), Cond.fieldLink RX7 22 "ShadowTableModel" "text" "[I", Cond.fieldLink RX7 141 "ShadowTableModel" "letter" "I", Cond.fieldLink RX7 147 "ShadowTableModel" "one" "I", Cond.fieldLink RX7 153 "ShadowTableModel" "other" "I", Cond.methodLink RX7 144 yX7_readNumber, Cond.instanceMethod yX7_readNumber, Cond.selects RX7 yX7_readNumber yX7_readNumber, Cond.code yX7_readNumber cX7_readNumber 4 (some .int), Cond.methodLink RX7 138 yX7_isNext, Cond.instanceMethod yX7_isNext, Cond.selects RX7 yX7_isNext yX7_isNext, Cond.code yX7_isNext cX7_isNext 3 (some .boolean)]
def wsX7_run_r2 : List Cond := [Cond.methodLink RX7 25 yX7_in, Cond.static yX7_in, Cond.code yX7_in cX7_in 3 (some .boolean), Cond.methodLink RX7 150 yX7_takes, Cond.instanceMethod yX7_takes, Cond.selects RX7 yX7_takes yX7_takes, Cond.code yX7_takes cX7_takes 3 (some .boolean), Cond.methodLink RX7 162 yX7_errorOfOrder, Cond.instanceMethod yX7_errorOfOrder, Cond.selects RX7 yX7_errorOfOrder yX7_errorOfOrder, Cond.code yX7_errorOfOrder cX7_errorOfOrder 1 (some .int), Cond.methodLink RX7 89 yX7_putError, Cond.instanceMethod yX7_putError, Cond.selects RX7 yX7_putError yX7_putError, Cond.code yX7_putError cX7_putError 3 (some .int), Cond.methodLink RX7 66 yX7_isKey, Cond.static yX7_isKey, Cond.code yX7_isKey cX7_isKey 1 (some .boolean), Cond.methodLink RX7 70 yX7_changeError, Cond.instanceMethod yX7_changeError, Cond.selects RX7 yX7_changeError yX7_changeError, Cond.code yX7_changeError cX7_changeError 1 (some .int), Cond.fieldLink RX7 7 "ShadowTableModel" "s" "[I", Cond.methodLink RX7 63 yX7_isLogFull]
def wsX7_run_r3 : List Cond := [Cond.instanceMethod yX7_isLogFull, Cond.selects RX7 yX7_isLogFull yX7_isLogFull, Cond.code yX7_isLogFull cX7_isLogFull 1 (some .boolean), Cond.methodLink RX7 33 yX7_isCopy, Cond.instanceMethod yX7_isCopy, Cond.selects RX7 yX7_isCopy yX7_isCopy, Cond.code yX7_isCopy cX7_isCopy 1 (some .boolean), Cond.methodLink RX7 95 yX7_eraseError, Cond.instanceMethod yX7_eraseError, Cond.selects RX7 yX7_eraseError yX7_eraseError, Cond.code yX7_eraseError cX7_eraseError 2 (some .int), Cond.methodLink RX7 29 yX7_row, Cond.instanceMethod yX7_row, Cond.selects RX7 yX7_row yX7_row, Cond.code yX7_row cX7_row 3 (some .int), Cond.methodLink RX7 101 yX7_beginError, Cond.instanceMethod yX7_beginError, Cond.selects RX7 yX7_beginError yX7_beginError, Cond.code yX7_beginError cX7_beginError 3 (some .int), Cond.methodLink RX7 110 yX7_phaseError, Cond.instanceMethod yX7_phaseError, Cond.selects RX7 yX7_phaseError yX7_phaseError, Cond.code yX7_phaseError cX7_phaseError 2 (some .int), Cond.methodLink RX7 119 yX7_swapError]
def wsX7_run_r4 : List Cond := [Cond.instanceMethod yX7_swapError, Cond.selects RX7 yX7_swapError yX7_swapError, Cond.code yX7_swapError cX7_swapError 1 (some .int), Cond.methodLink RX7 165 yX7_carryOut, Cond.instanceMethod yX7_carryOut, Cond.selects RX7 yX7_carryOut yX7_carryOut, Cond.code yX7_carryOut cX7_carryOut 1 (some .int), Cond.methodLink RX7 80 yX7_doChange, Cond.instanceMethod yX7_doChange, Cond.selects RX7 yX7_doChange yX7_doChange, Cond.code yX7_doChange cX7_doChange 4 (some .int), Cond.methodLink RX7 74 yX7_endCopy, Cond.instanceMethod yX7_endCopy, Cond.selects RX7 yX7_endCopy yX7_endCopy, Cond.code yX7_endCopy cX7_endCopy 1 none, Cond.methodLink RX7 53 yX7_lay, Cond.instanceMethod yX7_lay, Cond.selects RX7 yX7_lay yX7_lay, Cond.code yX7_lay cX7_lay 4 none, Cond.methodLink RX7 77 yX7_outside, Cond.static yX7_outside, Cond.code yX7_outside cX7_outside 1 (some .int), Cond.methodLink RX7 98 yX7_doErase, Cond.instanceMethod yX7_doErase]
def wsX7_run_r5 : List Cond := [Cond.selects RX7 yX7_doErase yX7_doErase, Cond.code yX7_doErase cX7_doErase 2 (some .int), Cond.methodLink RX7 104 yX7_doBegin, Cond.instanceMethod yX7_doBegin, Cond.selects RX7 yX7_doBegin yX7_doBegin, Cond.code yX7_doBegin cX7_doBegin 4 (some .int), Cond.methodLink RX7 83 yX7_rows, Cond.instanceMethod yX7_rows, Cond.selects RX7 yX7_rows yX7_rows, Cond.code yX7_rows cX7_rows 4 (some .int), Cond.methodLink RX7 113 yX7_doLock, Cond.instanceMethod yX7_doLock, Cond.selects RX7 yX7_doLock yX7_doLock, Cond.code yX7_doLock cX7_doLock 1 (some .int), Cond.methodLink RX7 116 yX7_doUnlock, Cond.instanceMethod yX7_doUnlock, Cond.selects RX7 yX7_doUnlock yX7_doUnlock, Cond.code yX7_doUnlock cX7_doUnlock 1 (some .int), Cond.methodLink RX7 122 yX7_doSwap, Cond.instanceMethod yX7_doSwap, Cond.selects RX7 yX7_doSwap yX7_doSwap, Cond.code yX7_doSwap cX7_doSwap 2 (some .int), Cond.methodLink RX7 125 yX7_doGiveUp, Cond.instanceMethod yX7_doGiveUp]
def wsX7_run_r6 : List Cond := [Cond.selects RX7 yX7_doGiveUp yX7_doGiveUp, Cond.code yX7_doGiveUp cX7_doGiveUp 2 (some .int), Cond.methodLink RX7 107 yX7_doTick, Cond.instanceMethod yX7_doTick, Cond.selects RX7 yX7_doTick yX7_doTick, Cond.code yX7_doTick cX7_doTick 3 (some .int), Cond.methodLink RX7 86 yX7_tickOnce, Cond.instanceMethod yX7_tickOnce, Cond.selects RX7 yX7_tickOnce yX7_tickOnce, Cond.code yX7_tickOnce cX7_tickOnce 2 none, Cond.methodLink RX7 57 yX7_apply, Cond.instanceMethod yX7_apply, Cond.selects RX7 yX7_apply yX7_apply, Cond.code yX7_apply cX7_apply 3 none, Cond.methodLink RX7 45 yX7_becomes, Cond.static yX7_becomes, Cond.code yX7_becomes cX7_becomes 3 (some .int), Cond.methodLink RX7 60 yX7_copyKeys, Cond.instanceMethod yX7_copyKeys, Cond.selects RX7 yX7_copyKeys yX7_copyKeys, Cond.code yX7_copyKeys cX7_copyKeys 3 none, Cond.methodLink RX7 49 yX7_due, Cond.instanceMethod yX7_due, Cond.selects RX7 yX7_due yX7_due]
def wsX7_run_r7 : List Cond := [Cond.code yX7_due cX7_due 2 (some .int), Cond.methodLink RX7 92 yX7_record, Cond.instanceMethod yX7_record, Cond.selects RX7 yX7_record yX7_record, Cond.code yX7_record cX7_record 2 none, Cond.fieldLink RX7 37 "ShadowTableModel" "kept" "I", Cond.fieldLink RX7 13 "ShadowTableModel" "history" "[I", Cond.methodLink RX7 41 yX7_copyAll, Cond.static yX7_copyAll, Cond.code yX7_copyAll cX7_copyAll 5 none]
def wsX7_run : List Cond := .code yX7_run cX7_run 1 (some .int) :: ((wsX7_run_r1 ++ (wsX7_run_r2 ++ (wsX7_run_r3 ++ (wsX7_run_r4 ++ (wsX7_run_r5 ++ (wsX7_run_r6 ++ wsX7_run_r7)))))) ++ wsX70)
def wsX7_undo : List Cond := .code yX7_undo cX7_undo 1 (some .int) :: ([.fieldLink RX7 37 "ShadowTableModel" "kept" "I", .fieldLink RX7 13 "ShadowTableModel" "history" "[I", .fieldLink RX7 7 "ShadowTableModel" "s" "[I", .methodLink RX7 41 yX7_copyAll, .static yX7_copyAll, .initialized RX7, .code yX7_copyAll cX7_copyAll 5 none] ++ wsX70)
def wsX7_save : List Cond := .code yX7_save cX7_save 1 (some .int) :: ([.fieldLink RX7 7 "ShadowTableModel" "s" "[I", .fieldLink RX7 16 "ShadowTableModel" "snapshot" "[I", .fieldLink RX7 172 "ShadowTableModel" "isTaken" "Z", .methodLink RX7 41 yX7_copyAll, .static yX7_copyAll, .initialized RX7, .code yX7_copyAll cX7_copyAll 5 none, .methodLink RX7 83 yX7_rows, .instanceMethod yX7_rows, .selects RX7 yX7_rows yX7_rows, .code yX7_rows cX7_rows 4 (some .int), .methodLink RX7 29 yX7_row, .instanceMethod yX7_row, .selects RX7 yX7_row yX7_row, .code yX7_row cX7_row 3 (some .int)] ++ wsX70)
def wsX7_restore : List Cond := .code yX7_restore cX7_restore 1 (some .int) :: ([.fieldLink RX7 172 "ShadowTableModel" "isTaken" "Z", .fieldLink RX7 16 "ShadowTableModel" "snapshot" "[I", .fieldLink RX7 7 "ShadowTableModel" "s" "[I", .methodLink RX7 92 yX7_record, .instanceMethod yX7_record, .selects RX7 yX7_record yX7_record, .initialized RX7, .code yX7_record cX7_record 2 none, .fieldLink RX7 37 "ShadowTableModel" "kept" "I", .fieldLink RX7 13 "ShadowTableModel" "history" "[I", .methodLink RX7 41 yX7_copyAll, .static yX7_copyAll, .code yX7_copyAll cX7_copyAll 5 none, .methodLink RX7 83 yX7_rows, .instanceMethod yX7_rows, .selects RX7 yX7_rows yX7_rows, .code yX7_rows cX7_rows 4 (some .int), .methodLink RX7 29 yX7_row, .instanceMethod yX7_row, .selects RX7 yX7_row yX7_row, .code yX7_row cX7_row 3 (some .int)] ++ wsX70)
def wsX7_value : List Cond := .code yX7_value cX7_value 3 (some .int) :: ([.methodLink RX7 66 yX7_isKey, .static yX7_isKey, .initialized RX7, .code yX7_isKey cX7_isKey 1 (some .boolean), .methodLink RX7 25 yX7_in, .static yX7_in, .code yX7_in cX7_in 3 (some .boolean), .methodLink RX7 176 yX7_isTable, .instanceMethod yX7_isTable, .selects RX7 yX7_isTable yX7_isTable, .code yX7_isTable cX7_isTable 2 (some .boolean), .fieldLink RX7 7 "ShadowTableModel" "s" "[I", .methodLink RX7 33 yX7_isCopy, .instanceMethod yX7_isCopy, .selects RX7 yX7_isCopy yX7_isCopy, .code yX7_isCopy cX7_isCopy 1 (some .boolean), .methodLink RX7 29 yX7_row, .instanceMethod yX7_row, .selects RX7 yX7_row yX7_row, .code yX7_row cX7_row 3 (some .int), .methodLink RX7 77 yX7_outside, .static yX7_outside, .code yX7_outside cX7_outside 1 (some .int)] ++ wsX70)
def wsX7_sum : List Cond := .code yX7_sum cX7_sum 4 (some .int) :: ([.methodLink RX7 29 yX7_row, .instanceMethod yX7_row, .selects RX7 yX7_row yX7_row, .initialized RX7, .code yX7_row cX7_row 3 (some .int), .fieldLink RX7 7 "ShadowTableModel" "s" "[I"] ++ wsX70)
def wsX7_endKey : List Cond := .code yX7_endKey cX7_endKey 5 (some .int) :: ([.methodLink RX7 29 yX7_row, .instanceMethod yX7_row, .selects RX7 yX7_row yX7_row, .initialized RX7, .code yX7_row cX7_row 3 (some .int), .fieldLink RX7 7 "ShadowTableModel" "s" "[I"] ++ wsX70)
def wsX7_table_r1 : List Cond := [Cond.methodLink RX7 25 yX7_in, Cond.static yX7_in, Cond.initialized RX7, Cond.code yX7_in cX7_in 3 (some .boolean), Cond.methodLink RX7 176 yX7_isTable, Cond.instanceMethod yX7_isTable, Cond.selects RX7 yX7_isTable yX7_isTable, Cond.code yX7_isTable cX7_isTable 2 (some .boolean), Cond.fieldLink RX7 7 "ShadowTableModel" "s" "[I", Cond.methodLink RX7 33 yX7_isCopy, Cond.instanceMethod yX7_isCopy, Cond.selects RX7 yX7_isCopy yX7_isCopy, Cond.code yX7_isCopy cX7_isCopy 1 (some .boolean), Cond.methodLink RX7 83 yX7_rows, Cond.instanceMethod yX7_rows, Cond.selects RX7 yX7_rows yX7_rows, Cond.code yX7_rows cX7_rows 4 (some .int), Cond.methodLink RX7 29 yX7_row, Cond.instanceMethod yX7_row, Cond.selects RX7 yX7_row yX7_row, Cond.code yX7_row cX7_row 3 (some .int), Cond.methodLink RX7 179 yX7_sum, Cond.instanceMethod yX7_sum, Cond.selects RX7 yX7_sum yX7_sum]
def wsX7_table_r2 : List Cond := [Cond.code yX7_sum cX7_sum 4 (some .int), Cond.methodLink RX7 182 yX7_endKey, Cond.instanceMethod yX7_endKey, Cond.selects RX7 yX7_endKey yX7_endKey, Cond.code yX7_endKey cX7_endKey 5 (some .int)]
def wsX7_table : List Cond := .code yX7_table cX7_table 3 (some .int) :: ((wsX7_table_r1 ++ wsX7_table_r2) ++ wsX70)
def wsX7_copy : List Cond := .code yX7_copy cX7_copy 3 (some .int) :: ([.fieldLink RX7 7 "ShadowTableModel" "s" "[I", .methodLink RX7 25 yX7_in, .static yX7_in, .initialized RX7, .code yX7_in cX7_in 3 (some .boolean), .methodLink RX7 33 yX7_isCopy, .instanceMethod yX7_isCopy, .selects RX7 yX7_isCopy yX7_isCopy, .code yX7_isCopy cX7_isCopy 1 (some .boolean)] ++ wsX70)
def wsX7_entry : List Cond := .code yX7_entry cX7_entry 3 (some .int) :: ([.fieldLink RX7 7 "ShadowTableModel" "s" "[I", .methodLink RX7 25 yX7_in, .static yX7_in, .initialized RX7, .code yX7_in cX7_in 3 (some .boolean), .methodLink RX7 33 yX7_isCopy, .instanceMethod yX7_isCopy, .selects RX7 yX7_isCopy yX7_isCopy, .code yX7_isCopy cX7_isCopy 1 (some .boolean), .methodLink RX7 77 yX7_outside, .static yX7_outside, .code yX7_outside cX7_outside 1 (some .int)] ++ wsX70)
def wsX7_changed : List Cond := .code yX7_changed cX7_changed 4 (some .int) :: ([.methodLink RX7 66 yX7_isKey, .static yX7_isKey, .initialized RX7, .code yX7_isKey cX7_isKey 1 (some .boolean), .methodLink RX7 25 yX7_in, .static yX7_in, .code yX7_in cX7_in 3 (some .boolean), .methodLink RX7 45 yX7_becomes, .static yX7_becomes, .code yX7_becomes cX7_becomes 3 (some .int), .methodLink RX7 77 yX7_outside, .static yX7_outside, .code yX7_outside cX7_outside 1 (some .int)])
def wsX7_differences : List Cond := .code yX7_differences cX7_differences 1 (some .int) :: ([.methodLink RX7 33 yX7_isCopy, .instanceMethod yX7_isCopy, .selects RX7 yX7_isCopy yX7_isCopy, .initialized RX7, .code yX7_isCopy cX7_isCopy 1 (some .boolean), .fieldLink RX7 7 "ShadowTableModel" "s" "[I", .methodLink RX7 186 yX7_differing, .instanceMethod yX7_differing, .selects RX7 yX7_differing yX7_differing, .code yX7_differing cX7_differing 4 (some .int), .methodLink RX7 29 yX7_row, .instanceMethod yX7_row, .selects RX7 yX7_row yX7_row, .code yX7_row cX7_row 3 (some .int), .methodLink RX7 49 yX7_due, .instanceMethod yX7_due, .selects RX7 yX7_due yX7_due, .code yX7_due cX7_due 2 (some .int), .methodLink RX7 45 yX7_becomes, .static yX7_becomes, .code yX7_becomes cX7_becomes 3 (some .int)] ++ wsX70)
def wsX7_firstDifference : List Cond := .code yX7_firstDifference cX7_firstDifference 1 (some .int) :: ([.methodLink RX7 33 yX7_isCopy, .instanceMethod yX7_isCopy, .selects RX7 yX7_isCopy yX7_isCopy, .initialized RX7, .code yX7_isCopy cX7_isCopy 1 (some .boolean), .fieldLink RX7 7 "ShadowTableModel" "s" "[I", .methodLink RX7 186 yX7_differing, .instanceMethod yX7_differing, .selects RX7 yX7_differing yX7_differing, .code yX7_differing cX7_differing 4 (some .int), .methodLink RX7 29 yX7_row, .instanceMethod yX7_row, .selects RX7 yX7_row yX7_row, .code yX7_row cX7_row 3 (some .int), .methodLink RX7 49 yX7_due, .instanceMethod yX7_due, .selects RX7 yX7_due yX7_due, .code yX7_due cX7_due 2 (some .int), .methodLink RX7 45 yX7_becomes, .static yX7_becomes, .code yX7_becomes cX7_becomes 3 (some .int)] ++ wsX70)
def wsX7_setting : List Cond := .code yX7_setting cX7_setting 2 (some .int) :: ([.fieldLink RX7 7 "ShadowTableModel" "s" "[I", .methodLink RX7 25 yX7_in, .static yX7_in, .initialized RX7, .code yX7_in cX7_in 3 (some .boolean)] ++ wsX70)
def wsX7_total : List Cond := .code yX7_total cX7_total 2 (some .int) :: ([.fieldLink RX7 7 "ShadowTableModel" "s" "[I", .methodLink RX7 25 yX7_in, .static yX7_in, .initialized RX7, .code yX7_in cX7_in 3 (some .boolean)] ++ wsX70)
def wsX7_states : List Cond := .code yX7_states cX7_states 1 (some .int) :: ([.fieldLink RX7 37 "ShadowTableModel" "kept" "I"] ++ wsX70)
def wsX7_isReady : List Cond := .code yX7_isReady cX7_isReady 1 (some .boolean) :: ([.fieldLink RX7 7 "ShadowTableModel" "s" "[I"] ++ wsX70)
def wsX7_until_r1 : List Cond := [Cond.fieldLink RX7 7 "ShadowTableModel" "s" "[I", Cond.fieldLink RX7 19 "ShadowTableModel" "before" "[I", Cond.methodLink RX7 41 yX7_copyAll, Cond.static yX7_copyAll, Cond.initialized RX7, Cond.code yX7_copyAll cX7_copyAll 5 none, Cond.methodLink RX7 190 yX7_isReady, Cond.instanceMethod yX7_isReady, Cond.selects RX7 yX7_isReady yX7_isReady, Cond.code yX7_isReady cX7_isReady 1 (some .boolean), Cond.methodLink RX7 86 yX7_tickOnce, Cond.instanceMethod yX7_tickOnce, Cond.selects RX7 yX7_tickOnce yX7_tickOnce, Cond.code yX7_tickOnce cX7_tickOnce 2 none, Cond.methodLink RX7 33 yX7_isCopy, Cond.instanceMethod yX7_isCopy, Cond.selects RX7 yX7_isCopy yX7_isCopy, Cond.code yX7_isCopy cX7_isCopy 1 (some .boolean), Cond.methodLink RX7 57 yX7_apply, Cond.instanceMethod yX7_apply, Cond.selects RX7 yX7_apply yX7_apply, Cond.code yX7_apply cX7_apply 3 none, Cond.methodLink RX7 45 yX7_becomes, Cond.static yX7_becomes]
def wsX7_until_r2 : List Cond := [Cond.code yX7_becomes cX7_becomes 3 (some .int), Cond.methodLink RX7 53 yX7_lay, Cond.instanceMethod yX7_lay, Cond.selects RX7 yX7_lay yX7_lay, Cond.code yX7_lay cX7_lay 4 none, Cond.methodLink RX7 60 yX7_copyKeys, Cond.instanceMethod yX7_copyKeys, Cond.selects RX7 yX7_copyKeys yX7_copyKeys, Cond.code yX7_copyKeys cX7_copyKeys 3 none, Cond.methodLink RX7 29 yX7_row, Cond.instanceMethod yX7_row, Cond.selects RX7 yX7_row yX7_row, Cond.code yX7_row cX7_row 3 (some .int), Cond.methodLink RX7 49 yX7_due, Cond.instanceMethod yX7_due, Cond.selects RX7 yX7_due yX7_due, Cond.code yX7_due cX7_due 2 (some .int)]
def wsX7_until : List Cond := .code yX7_until cX7_until 5 (some .int) :: ((wsX7_until_r1 ++ wsX7_until_r2) ++ wsX70)
def wsX7_canAsk : List Cond := .code yX7_canAsk cX7_canAsk 1 (some .boolean) :: ([.fieldLink RX7 7 "ShadowTableModel" "s" "[I"] ++ wsX70)
def wsX7_readyIn_r1 : List Cond := [Cond.fieldLink RX7 7 "ShadowTableModel" "s" "[I", Cond.methodLink RX7 193 yX7_canAsk, Cond.instanceMethod yX7_canAsk, Cond.selects RX7 yX7_canAsk yX7_canAsk, Cond.initialized RX7, Cond.code yX7_canAsk cX7_canAsk 1 (some .boolean), Cond.methodLink RX7 196 yX7_until, Cond.instanceMethod yX7_until, Cond.selects RX7 yX7_until yX7_until, Cond.code yX7_until cX7_until 5 (some .int), Cond.fieldLink RX7 19 "ShadowTableModel" "before" "[I", Cond.methodLink RX7 41 yX7_copyAll, Cond.static yX7_copyAll, Cond.code yX7_copyAll cX7_copyAll 5 none, Cond.methodLink RX7 190 yX7_isReady, Cond.instanceMethod yX7_isReady, Cond.selects RX7 yX7_isReady yX7_isReady, Cond.code yX7_isReady cX7_isReady 1 (some .boolean), Cond.methodLink RX7 86 yX7_tickOnce, Cond.instanceMethod yX7_tickOnce, Cond.selects RX7 yX7_tickOnce yX7_tickOnce, Cond.code yX7_tickOnce cX7_tickOnce 2 none, Cond.methodLink RX7 33 yX7_isCopy, Cond.instanceMethod yX7_isCopy]
def wsX7_readyIn_r2 : List Cond := [Cond.selects RX7 yX7_isCopy yX7_isCopy, Cond.code yX7_isCopy cX7_isCopy 1 (some .boolean), Cond.methodLink RX7 57 yX7_apply, Cond.instanceMethod yX7_apply, Cond.selects RX7 yX7_apply yX7_apply, Cond.code yX7_apply cX7_apply 3 none, Cond.methodLink RX7 45 yX7_becomes, Cond.static yX7_becomes, Cond.code yX7_becomes cX7_becomes 3 (some .int), Cond.methodLink RX7 53 yX7_lay, Cond.instanceMethod yX7_lay, Cond.selects RX7 yX7_lay yX7_lay, Cond.code yX7_lay cX7_lay 4 none, Cond.methodLink RX7 60 yX7_copyKeys, Cond.instanceMethod yX7_copyKeys, Cond.selects RX7 yX7_copyKeys yX7_copyKeys, Cond.code yX7_copyKeys cX7_copyKeys 3 none, Cond.methodLink RX7 29 yX7_row, Cond.instanceMethod yX7_row, Cond.selects RX7 yX7_row yX7_row, Cond.code yX7_row cX7_row 3 (some .int), Cond.methodLink RX7 49 yX7_due, Cond.instanceMethod yX7_due, Cond.selects RX7 yX7_due yX7_due]
def wsX7_readyIn_r3 : List Cond := [Cond.code yX7_due cX7_due 2 (some .int)]
def wsX7_readyIn : List Cond := .code yX7_readyIn cX7_readyIn 1 (some .int) :: ((wsX7_readyIn_r1 ++ (wsX7_readyIn_r2 ++ wsX7_readyIn_r3)) ++ wsX70)
def wsX7_leastLot_r1 : List Cond := [Cond.methodLink RX7 25 yX7_in, Cond.static yX7_in, Cond.initialized RX7, Cond.code yX7_in cX7_in 3 (some .boolean), Cond.methodLink RX7 193 yX7_canAsk, Cond.instanceMethod yX7_canAsk, Cond.selects RX7 yX7_canAsk yX7_canAsk, Cond.code yX7_canAsk cX7_canAsk 1 (some .boolean), Cond.fieldLink RX7 7 "ShadowTableModel" "s" "[I", Cond.methodLink RX7 196 yX7_until, Cond.instanceMethod yX7_until, Cond.selects RX7 yX7_until yX7_until, Cond.code yX7_until cX7_until 5 (some .int), Cond.fieldLink RX7 19 "ShadowTableModel" "before" "[I", Cond.methodLink RX7 41 yX7_copyAll, Cond.static yX7_copyAll, Cond.code yX7_copyAll cX7_copyAll 5 none, Cond.methodLink RX7 190 yX7_isReady, Cond.instanceMethod yX7_isReady, Cond.selects RX7 yX7_isReady yX7_isReady, Cond.code yX7_isReady cX7_isReady 1 (some .boolean), Cond.methodLink RX7 86 yX7_tickOnce, Cond.instanceMethod yX7_tickOnce, Cond.selects RX7 yX7_tickOnce yX7_tickOnce]
def wsX7_leastLot_r2 : List Cond := [Cond.code yX7_tickOnce cX7_tickOnce 2 none, Cond.methodLink RX7 33 yX7_isCopy, Cond.instanceMethod yX7_isCopy, Cond.selects RX7 yX7_isCopy yX7_isCopy, Cond.code yX7_isCopy cX7_isCopy 1 (some .boolean), Cond.methodLink RX7 57 yX7_apply, Cond.instanceMethod yX7_apply, Cond.selects RX7 yX7_apply yX7_apply, Cond.code yX7_apply cX7_apply 3 none, Cond.methodLink RX7 45 yX7_becomes, Cond.static yX7_becomes, Cond.code yX7_becomes cX7_becomes 3 (some .int), Cond.methodLink RX7 53 yX7_lay, Cond.instanceMethod yX7_lay, Cond.selects RX7 yX7_lay yX7_lay, Cond.code yX7_lay cX7_lay 4 none, Cond.methodLink RX7 60 yX7_copyKeys, Cond.instanceMethod yX7_copyKeys, Cond.selects RX7 yX7_copyKeys yX7_copyKeys, Cond.code yX7_copyKeys cX7_copyKeys 3 none, Cond.methodLink RX7 29 yX7_row, Cond.instanceMethod yX7_row, Cond.selects RX7 yX7_row yX7_row, Cond.code yX7_row cX7_row 3 (some .int)]
def wsX7_leastLot_r3 : List Cond := [Cond.methodLink RX7 49 yX7_due, Cond.instanceMethod yX7_due, Cond.selects RX7 yX7_due yX7_due, Cond.code yX7_due cX7_due 2 (some .int)]
def wsX7_leastLot : List Cond := .code yX7_leastLot cX7_leastLot 3 (some .int) :: ((wsX7_leastLot_r1 ++ (wsX7_leastLot_r2 ++ wsX7_leastLot_r3)) ++ wsX70)
def wsX7_progress : List Cond := .code yX7_progress cX7_progress 1 (some .double) :: ([.fieldLink RX7 7 "ShadowTableModel" "s" "[I", .constantDouble RX7 199 (4629700416936869888), .methodLink RX7 33 yX7_isCopy, .instanceMethod yX7_isCopy, .selects RX7 yX7_isCopy yX7_isCopy, .initialized RX7, .code yX7_isCopy cX7_isCopy 1 (some .boolean)] ++ wsX70)
def wsL_law_r1 : List Cond := [Cond.classLink RL 7 RX6, Cond.instantiable RX6 6, Cond.initialized RX6, Cond.classLink RL 10 RX7, Cond.instantiable RX7 13, Cond.initialized RX7, Cond.methodLink RL 9 yX6_init, Cond.instanceMethod yX6_init, Cond.code yX6_init cX6_init 1 none, Cond.methodLink RX6 1 objectInit, Cond.instanceMethod objectInit, Cond.code objectInit ⟨#[0xb1]⟩ 1 none, Cond.classLink RX6 7 RX5, Cond.instantiable RX5 6, Cond.initialized RX5, Cond.fieldLink RX6 10 "ShadowTable" "state" "LShadowTable$State;", Cond.fieldLink RX6 16 "ShadowTable" "snapshot" "LShadowTable$State;", Cond.fieldLink RX6 19 "ShadowTable" "trial" "LShadowTable$State;", Cond.classLink RX6 22 RX1, Cond.instantiable RX1 3, Cond.initialized RX1, Cond.fieldLink RX6 25 "ShadowTable" "history" "LShadowTable$History;", Cond.classLink RX6 29 RX4, Cond.instantiable RX4 7]
def wsL_law_r2 : List Cond := [Cond.initialized RX4, Cond.fieldLink RX6 32 "ShadowTable" "script" "LShadowTable$Script;", Cond.instanceMethod yX5_init, Cond.code yX5_init cX5_init 1 none, Cond.methodLink RX5 3 objectInit, Cond.classLink RX5 9 RX3, Cond.instantiable RX3 1, Cond.initialized RX3, Cond.fieldLink RX5 12 "ShadowTable$State" "live" "LShadowTable$Rows;", Cond.fieldLink RX5 18 "ShadowTable$State" "old" "LShadowTable$Rows;", Cond.classLink RX5 21 RX0, Cond.instantiable RX0 7, Cond.initialized RX0, Cond.fieldLink RX5 24 "ShadowTable$State" "copy" "LShadowTable$Copy;", Cond.arrayClass .int, Cond.fieldLink RX5 28 "ShadowTable$State" "settings" "[I", Cond.fieldLink RX5 32 "ShadowTable$State" "totals" "[I", Cond.methodLink RX5 11 yX3_init, Cond.instanceMethod yX3_init, Cond.code yX3_init cX3_init 1 none, Cond.methodLink RX3 3 objectInit, Cond.fieldLink RX3 9 "ShadowTable$Rows" "values" "[I", Cond.methodLink RX3 15 yJ7_fill_53178, Cond.static yJ7_fill_53178]
def wsL_law_r3 : List Cond := [Cond.initialized RJ7, Cond.code yJ7_fill_53178 cJ7_fill_53178 4 none, Cond.instanceMethod yX0_init, Cond.code yX0_init cX0_init 1 none, Cond.methodLink RX0 3 objectInit, Cond.classLink RX0 9 RX3, Cond.fieldLink RX0 12 "ShadowTable$Copy" "shadow" "LShadowTable$Rows;", Cond.classLink RX0 18 RX2, Cond.instantiable RX2 4, Cond.initialized RX2, Cond.fieldLink RX0 21 "ShadowTable$Copy" "log" "LShadowTable$Log;", Cond.fieldLink RX0 25 "ShadowTable$Copy" "phase" "I", Cond.methodLink RX0 11 yX3_init, Cond.instanceMethod yX2_init, Cond.code yX2_init cX2_init 1 none, Cond.methodLink RX2 3 objectInit, Cond.fieldLink RX2 9 "ShadowTable$Log" "keys" "[I", Cond.fieldLink RX2 15 "ShadowTable$Log" "values" "[I", Cond.methodLink RX6 24 yX1_init, Cond.instanceMethod yX1_init, Cond.code yX1_init cX1_init 2 none, Cond.methodLink RX1 3 objectInit, Cond.classLink RX1 11 RX5, Cond.fieldLink RX1 13 "ShadowTable$History" "slots" "[LShadowTable$State;"]
def wsL_law_r4 : List Cond := [Cond.instanceMethod yX4_init, Cond.code yX4_init cX4_init 1 none, Cond.methodLink RX4 3 objectInit, Cond.fieldLink RX4 9 "ShadowTable$Script" "characters" "[I", Cond.methodLink RL 12 yX7_init, Cond.instanceMethod yX7_init, Cond.code yX7_init cX7_init 2 none, Cond.methodLink RX7 1 objectInit, Cond.fieldLink RX7 7 "ShadowTableModel" "s" "[I", Cond.fieldLink RX7 13 "ShadowTableModel" "history" "[I", Cond.fieldLink RX7 16 "ShadowTableModel" "snapshot" "[I", Cond.fieldLink RX7 19 "ShadowTableModel" "before" "[I", Cond.fieldLink RX7 22 "ShadowTableModel" "text" "[I", Cond.methodLink RL 13 yX6_put, Cond.instanceMethod yX6_put, Cond.selects RX6 yX6_put yX6_put, Cond.code yX6_put cX6_put 3 (some .int), Cond.methodLink RX6 36 yX1_prepare, Cond.instanceMethod yX1_prepare, Cond.selects RX1 yX1_prepare yX1_prepare, Cond.code yX1_prepare cX1_prepare 2 none, Cond.fieldLink RX1 18 "ShadowTable$History" "count" "I", Cond.methodLink RX1 22 yX1_slotOf, Cond.instanceMethod yX1_slotOf]
def wsL_law_r5 : List Cond := [Cond.selects RX1 yX1_slotOf yX1_slotOf, Cond.code yX1_slotOf cX1_slotOf 2 (some .int), Cond.fieldLink RX1 30 "ShadowTable$History" "start" "I", Cond.methodLink RX1 26 yX5_take, Cond.instanceMethod yX5_take, Cond.selects RX5 yX5_take yX5_take, Cond.code yX5_take cX5_take 2 none, Cond.fieldLink RX5 39 "ShadowTable$State" "hasOld" "Z", Cond.methodLink RX5 46 arraycopyName, Cond.native arraycopyName, Cond.static arraycopyName, Cond.initialized "java/lang/System", Cond.methodLink RX5 35 yX3_take, Cond.instanceMethod yX3_take, Cond.selects RX3 yX3_take yX3_take, Cond.code yX3_take cX3_take 2 none, Cond.methodLink RX3 21 arraycopyName, Cond.methodLink RX5 43 yX0_take, Cond.instanceMethod yX0_take, Cond.selects RX0 yX0_take yX0_take, Cond.code yX0_take cX0_take 2 none, Cond.fieldLink RX0 33 "ShadowTable$Copy" "kind" "I", Cond.fieldLink RX0 36 "ShadowTable$Copy" "lot" "I", Cond.fieldLink RX0 39 "ShadowTable$Copy" "cursor" "I"]
def wsL_law_r6 : List Cond := [Cond.fieldLink RX0 49 "ShadowTable$Copy" "age" "I", Cond.methodLink RX0 42 yX3_take, Cond.methodLink RX0 46 yX2_take, Cond.instanceMethod yX2_take, Cond.selects RX2 yX2_take yX2_take, Cond.code yX2_take cX2_take 2 none, Cond.methodLink RX2 25 arraycopyName, Cond.fieldLink RX2 18 "ShadowTable$Log" "start" "I", Cond.fieldLink RX2 22 "ShadowTable$Log" "size" "I", Cond.methodLink RX6 40 yX5_putRow, Cond.instanceMethod yX5_putRow, Cond.selects RX5 yX5_putRow yX5_putRow, Cond.code yX5_putRow cX5_putRow 3 (some .int), Cond.static yX6_isKey, Cond.code yX6_isKey cX6_isKey 1 (some .boolean), Cond.methodLink RX6 135 yX6_isIn, Cond.static yX6_isIn, Cond.code yX6_isIn cX6_isIn 3 (some .boolean), Cond.static yX6_isValue, Cond.code yX6_isValue cX6_isValue 1 (some .boolean), Cond.methodLink RX5 63 yX5_changeRow, Cond.instanceMethod yX5_changeRow, Cond.selects RX5 yX5_changeRow yX5_changeRow, Cond.code yX5_changeRow cX5_changeRow 4 (some .int)]
def wsL_law_r7 : List Cond := [Cond.methodLink RX5 71 yX5_hasCopy, Cond.instanceMethod yX5_hasCopy, Cond.selects RX5 yX5_hasCopy yX5_hasCopy, Cond.code yX5_hasCopy cX5_hasCopy 1 (some .boolean), Cond.methodLink RX5 79 yX2_add, Cond.instanceMethod yX2_add, Cond.selects RX2 yX2_add yX2_add, Cond.code yX2_add cX2_add 4 (some .boolean), Cond.methodLink RX2 31 yX2_slotOf, Cond.instanceMethod yX2_slotOf, Cond.selects RX2 yX2_slotOf yX2_slotOf, Cond.code yX2_slotOf cX2_slotOf 2 (some .int), Cond.methodLink RX5 85 yX5_endGivenUp, Cond.instanceMethod yX5_endGivenUp, Cond.selects RX5 yX5_endGivenUp yX5_endGivenUp, Cond.code yX5_endGivenUp cX5_endGivenUp 1 none, Cond.methodLink RX5 67 yX3_at, Cond.instanceMethod yX3_at, Cond.selects RX3 yX3_at yX3_at, Cond.code yX3_at cX3_at 2 (some .int), Cond.methodLink RX5 88 yX3_place, Cond.instanceMethod yX3_place, Cond.selects RX3 yX3_place yX3_place, Cond.code yX3_place cX3_place 3 none]
def wsL_law_r8 : List Cond := [Cond.methodLink RX6 44 yX6_recorded, Cond.instanceMethod yX6_recorded, Cond.selects RX6 yX6_recorded yX6_recorded, Cond.code yX6_recorded cX6_recorded 2 (some .int), Cond.methodLink RX6 95 yX6_isError, Cond.static yX6_isError, Cond.code yX6_isError cX6_isError 1 (some .boolean), Cond.methodLink RX6 82 yX1_keepPrepared, Cond.instanceMethod yX1_keepPrepared, Cond.selects RX1 yX1_keepPrepared yX1_keepPrepared, Cond.code yX1_keepPrepared cX1_keepPrepared 1 none, Cond.methodLink RL 17 yX7_put, Cond.instanceMethod yX7_put, Cond.selects RX7 yX7_put yX7_put, Cond.code yX7_put cX7_put 4 (some .int), Cond.methodLink RX7 89 yX7_putError, Cond.instanceMethod yX7_putError, Cond.selects RX7 yX7_putError yX7_putError, Cond.code yX7_putError cX7_putError 3 (some .int), Cond.methodLink RX7 66 yX7_isKey, Cond.static yX7_isKey, Cond.code yX7_isKey cX7_isKey 1 (some .boolean), Cond.methodLink RX7 25 yX7_in, Cond.static yX7_in]
def wsL_law_r9 : List Cond := [Cond.code yX7_in cX7_in 3 (some .boolean), Cond.methodLink RX7 70 yX7_changeError, Cond.instanceMethod yX7_changeError, Cond.selects RX7 yX7_changeError yX7_changeError, Cond.code yX7_changeError cX7_changeError 1 (some .int), Cond.methodLink RX7 63 yX7_isLogFull, Cond.instanceMethod yX7_isLogFull, Cond.selects RX7 yX7_isLogFull yX7_isLogFull, Cond.code yX7_isLogFull cX7_isLogFull 1 (some .boolean), Cond.methodLink RX7 33 yX7_isCopy, Cond.instanceMethod yX7_isCopy, Cond.selects RX7 yX7_isCopy yX7_isCopy, Cond.code yX7_isCopy cX7_isCopy 1 (some .boolean), Cond.methodLink RX7 92 yX7_record, Cond.instanceMethod yX7_record, Cond.selects RX7 yX7_record yX7_record, Cond.code yX7_record cX7_record 2 none, Cond.fieldLink RX7 37 "ShadowTableModel" "kept" "I", Cond.methodLink RX7 41 yX7_copyAll, Cond.static yX7_copyAll, Cond.code yX7_copyAll cX7_copyAll 5 none, Cond.methodLink RX7 80 yX7_doChange, Cond.instanceMethod yX7_doChange, Cond.selects RX7 yX7_doChange yX7_doChange]
def wsL_law_r10 : List Cond := [Cond.code yX7_doChange cX7_doChange 4 (some .int), Cond.methodLink RX7 29 yX7_row, Cond.instanceMethod yX7_row, Cond.selects RX7 yX7_row yX7_row, Cond.code yX7_row cX7_row 3 (some .int), Cond.methodLink RX7 74 yX7_endCopy, Cond.instanceMethod yX7_endCopy, Cond.selects RX7 yX7_endCopy yX7_endCopy, Cond.code yX7_endCopy cX7_endCopy 1 none, Cond.methodLink RX7 53 yX7_lay, Cond.instanceMethod yX7_lay, Cond.selects RX7 yX7_lay yX7_lay, Cond.code yX7_lay cX7_lay 4 none, Cond.methodLink RX7 77 yX7_outside, Cond.static yX7_outside, Cond.code yX7_outside cX7_outside 1 (some .int), Cond.methodLink RL 18 yX6_erase, Cond.instanceMethod yX6_erase, Cond.selects RX6 yX6_erase yX6_erase, Cond.code yX6_erase cX6_erase 2 (some .int), Cond.methodLink RX6 48 yX5_eraseRow, Cond.instanceMethod yX5_eraseRow, Cond.selects RX5 yX5_eraseRow yX5_eraseRow, Cond.code yX5_eraseRow cX5_eraseRow 2 (some .int)]
def wsL_law_r11 : List Cond := [Cond.methodLink RL 22 yX7_erase, Cond.instanceMethod yX7_erase, Cond.selects RX7 yX7_erase yX7_erase, Cond.code yX7_erase cX7_erase 3 (some .int), Cond.methodLink RX7 95 yX7_eraseError, Cond.instanceMethod yX7_eraseError, Cond.selects RX7 yX7_eraseError yX7_eraseError, Cond.code yX7_eraseError cX7_eraseError 2 (some .int), Cond.methodLink RX7 98 yX7_doErase, Cond.instanceMethod yX7_doErase, Cond.selects RX7 yX7_doErase yX7_doErase, Cond.code yX7_doErase cX7_doErase 2 (some .int), Cond.methodLink RL 23 yX6_begin, Cond.instanceMethod yX6_begin, Cond.selects RX6 yX6_begin yX6_begin, Cond.code yX6_begin cX6_begin 3 (some .int), Cond.methodLink RX6 51 yX5_beginCopy, Cond.instanceMethod yX5_beginCopy, Cond.selects RX5 yX5_beginCopy yX5_beginCopy, Cond.code yX5_beginCopy cX5_beginCopy 3 (some .int), Cond.static yX6_isKind, Cond.code yX6_isKind cX6_isKind 1 (some .boolean), Cond.static yX6_isLot, Cond.code yX6_isLot cX6_isLot 1 (some .boolean)]
def wsL_law_r12 : List Cond := [Cond.methodLink RX5 98 yX0_start, Cond.instanceMethod yX0_start, Cond.selects RX0 yX0_start yX0_start, Cond.code yX0_start cX0_start 3 none, Cond.methodLink RX0 29 yX3_removeAll, Cond.instanceMethod yX3_removeAll, Cond.selects RX3 yX3_removeAll yX3_removeAll, Cond.code yX3_removeAll cX3_removeAll 1 none, Cond.methodLink RX0 32 yX2_removeAll, Cond.instanceMethod yX2_removeAll, Cond.selects RX2 yX2_removeAll yX2_removeAll, Cond.code yX2_removeAll cX2_removeAll 1 none, Cond.methodLink RX5 101 yX3_count, Cond.instanceMethod yX3_count, Cond.selects RX3 yX3_count yX3_count, Cond.code yX3_count cX3_count 3 (some .int), Cond.methodLink RL 26 yX7_begin, Cond.instanceMethod yX7_begin, Cond.selects RX7 yX7_begin yX7_begin, Cond.code yX7_begin cX7_begin 4 (some .int), Cond.methodLink RX7 101 yX7_beginError, Cond.instanceMethod yX7_beginError, Cond.selects RX7 yX7_beginError yX7_beginError, Cond.code yX7_beginError cX7_beginError 3 (some .int)]
def wsL_law_r13 : List Cond := [Cond.methodLink RX7 104 yX7_doBegin, Cond.instanceMethod yX7_doBegin, Cond.selects RX7 yX7_doBegin yX7_doBegin, Cond.code yX7_doBegin cX7_doBegin 4 (some .int), Cond.methodLink RX7 83 yX7_rows, Cond.instanceMethod yX7_rows, Cond.selects RX7 yX7_rows yX7_rows, Cond.code yX7_rows cX7_rows 4 (some .int), Cond.methodLink RL 27 yX6_tick, Cond.instanceMethod yX6_tick, Cond.selects RX6 yX6_tick yX6_tick, Cond.code yX6_tick cX6_tick 2 (some .int), Cond.methodLink RX6 54 yX5_makeTicks, Cond.instanceMethod yX5_makeTicks, Cond.selects RX5 yX5_makeTicks yX5_makeTicks, Cond.code yX5_makeTicks cX5_makeTicks 3 (some .int), Cond.static yX6_isTicks, Cond.code yX6_isTicks cX6_isTicks 1 (some .boolean), Cond.methodLink RX5 108 yX5_makeTick, Cond.instanceMethod yX5_makeTick, Cond.selects RX5 yX5_makeTick yX5_makeTick, Cond.code yX5_makeTick cX5_makeTick 1 none, Cond.methodLink RX5 111 yX5_lockRunsOut, Cond.instanceMethod yX5_lockRunsOut]
def wsL_law_r14 : List Cond := [Cond.selects RX5 yX5_lockRunsOut yX5_lockRunsOut, Cond.code yX5_lockRunsOut cX5_lockRunsOut 1 (some .boolean), Cond.methodLink RX5 114 yX5_applyEntries, Cond.instanceMethod yX5_applyEntries, Cond.selects RX5 yX5_applyEntries yX5_applyEntries, Cond.code yX5_applyEntries cX5_applyEntries 4 none, Cond.methodLink RX5 126 yX2_keyAt, Cond.instanceMethod yX2_keyAt, Cond.selects RX2 yX2_keyAt yX2_keyAt, Cond.code yX2_keyAt cX2_keyAt 2 (some .int), Cond.methodLink RX5 135 yX2_valueAt, Cond.instanceMethod yX2_valueAt, Cond.selects RX2 yX2_valueAt yX2_valueAt, Cond.code yX2_valueAt cX2_valueAt 2 (some .int), Cond.static yX6_changedValue, Cond.code yX6_changedValue cX6_changedValue 3 (some .int), Cond.methodLink RX5 142 yX2_removeFirst, Cond.instanceMethod yX2_removeFirst, Cond.selects RX2 yX2_removeFirst yX2_removeFirst, Cond.code yX2_removeFirst cX2_removeFirst 1 none, Cond.methodLink RX5 117 yX5_copyLot, Cond.instanceMethod yX5_copyLot, Cond.selects RX5 yX5_copyLot yX5_copyLot, Cond.code yX5_copyLot cX5_copyLot 3 none]
def wsL_law_r15 : List Cond := [Cond.methodLink RX5 151 yX0_copyKey, Cond.instanceMethod yX0_copyKey, Cond.selects RX0 yX0_copyKey yX0_copyKey, Cond.code yX0_copyKey cX0_copyKey 4 (some .boolean), Cond.methodLink RX0 56 yX3_at, Cond.methodLink RX0 60 yX3_place, Cond.methodLink RL 30 yX7_tick, Cond.instanceMethod yX7_tick, Cond.selects RX7 yX7_tick yX7_tick, Cond.code yX7_tick cX7_tick 2 (some .int), Cond.methodLink RX7 107 yX7_doTick, Cond.instanceMethod yX7_doTick, Cond.selects RX7 yX7_doTick yX7_doTick, Cond.code yX7_doTick cX7_doTick 3 (some .int), Cond.methodLink RX7 86 yX7_tickOnce, Cond.instanceMethod yX7_tickOnce, Cond.selects RX7 yX7_tickOnce yX7_tickOnce, Cond.code yX7_tickOnce cX7_tickOnce 2 none, Cond.methodLink RX7 57 yX7_apply, Cond.instanceMethod yX7_apply, Cond.selects RX7 yX7_apply yX7_apply, Cond.code yX7_apply cX7_apply 3 none, Cond.methodLink RX7 45 yX7_becomes, Cond.static yX7_becomes]
def wsL_law_r16 : List Cond := [Cond.code yX7_becomes cX7_becomes 3 (some .int), Cond.methodLink RX7 60 yX7_copyKeys, Cond.instanceMethod yX7_copyKeys, Cond.selects RX7 yX7_copyKeys yX7_copyKeys, Cond.code yX7_copyKeys cX7_copyKeys 3 none, Cond.methodLink RX7 49 yX7_due, Cond.instanceMethod yX7_due, Cond.selects RX7 yX7_due yX7_due, Cond.code yX7_due cX7_due 2 (some .int), Cond.methodLink RL 31 yX6_lock, Cond.instanceMethod yX6_lock, Cond.selects RX6 yX6_lock yX6_lock, Cond.code yX6_lock cX6_lock 1 (some .int), Cond.methodLink RX6 57 yX5_lockLive, Cond.instanceMethod yX5_lockLive, Cond.selects RX5 yX5_lockLive yX5_lockLive, Cond.code yX5_lockLive cX5_lockLive 1 (some .int), Cond.methodLink RL 35 yX7_lock, Cond.instanceMethod yX7_lock, Cond.selects RX7 yX7_lock yX7_lock, Cond.code yX7_lock cX7_lock 2 (some .int), Cond.methodLink RX7 110 yX7_phaseError, Cond.instanceMethod yX7_phaseError, Cond.selects RX7 yX7_phaseError yX7_phaseError]
def wsL_law_r17 : List Cond := [Cond.code yX7_phaseError cX7_phaseError 2 (some .int), Cond.methodLink RX7 113 yX7_doLock, Cond.instanceMethod yX7_doLock, Cond.selects RX7 yX7_doLock yX7_doLock, Cond.code yX7_doLock cX7_doLock 1 (some .int), Cond.methodLink RL 36 yX6_unlock, Cond.instanceMethod yX6_unlock, Cond.selects RX6 yX6_unlock yX6_unlock, Cond.code yX6_unlock cX6_unlock 1 (some .int), Cond.methodLink RX6 61 yX5_unlockLive, Cond.instanceMethod yX5_unlockLive, Cond.selects RX5 yX5_unlockLive yX5_unlockLive, Cond.code yX5_unlockLive cX5_unlockLive 1 (some .int), Cond.methodLink RL 39 yX7_unlock, Cond.instanceMethod yX7_unlock, Cond.selects RX7 yX7_unlock yX7_unlock, Cond.code yX7_unlock cX7_unlock 2 (some .int), Cond.methodLink RX7 116 yX7_doUnlock, Cond.instanceMethod yX7_doUnlock, Cond.selects RX7 yX7_doUnlock yX7_doUnlock, Cond.code yX7_doUnlock cX7_doUnlock 1 (some .int), Cond.methodLink RL 40 yX6_swap, Cond.instanceMethod yX6_swap, Cond.selects RX6 yX6_swap yX6_swap]
def wsL_law_r18 : List Cond := [Cond.code yX6_swap cX6_swap 1 (some .int), Cond.methodLink RX6 64 yX5_swapTables, Cond.instanceMethod yX5_swapTables, Cond.selects RX5 yX5_swapTables yX5_swapTables, Cond.code yX5_swapTables cX5_swapTables 1 (some .int), Cond.methodLink RL 43 yX7_swap, Cond.instanceMethod yX7_swap, Cond.selects RX7 yX7_swap yX7_swap, Cond.code yX7_swap cX7_swap 2 (some .int), Cond.methodLink RX7 119 yX7_swapError, Cond.instanceMethod yX7_swapError, Cond.selects RX7 yX7_swapError yX7_swapError, Cond.code yX7_swapError cX7_swapError 1 (some .int), Cond.methodLink RX7 122 yX7_doSwap, Cond.instanceMethod yX7_doSwap, Cond.selects RX7 yX7_doSwap yX7_doSwap, Cond.code yX7_doSwap cX7_doSwap 2 (some .int), Cond.methodLink RL 44 yX6_giveUp, Cond.instanceMethod yX6_giveUp, Cond.selects RX6 yX6_giveUp yX6_giveUp, Cond.code yX6_giveUp cX6_giveUp 1 (some .int), Cond.methodLink RX6 67 yX5_giveCopyUp, Cond.instanceMethod yX5_giveCopyUp, Cond.selects RX5 yX5_giveCopyUp yX5_giveCopyUp]
def wsL_law_r19 : List Cond := [Cond.code yX5_giveCopyUp cX5_giveCopyUp 1 (some .int), Cond.methodLink RL 47 yX7_giveUp, Cond.instanceMethod yX7_giveUp, Cond.selects RX7 yX7_giveUp yX7_giveUp, Cond.code yX7_giveUp cX7_giveUp 1 (some .int), Cond.methodLink RX7 125 yX7_doGiveUp, Cond.instanceMethod yX7_doGiveUp, Cond.selects RX7 yX7_doGiveUp yX7_doGiveUp, Cond.code yX7_doGiveUp cX7_doGiveUp 2 (some .int), Cond.methodLink RL 48 yX6_set, Cond.instanceMethod yX6_set, Cond.selects RX6 yX6_set yX6_set, Cond.code yX6_set cX6_set 3 (some .int), Cond.methodLink RX6 70 yX5_changeSetting, Cond.instanceMethod yX5_changeSetting, Cond.selects RX5 yX5_changeSetting yX5_changeSetting, Cond.code yX5_changeSetting cX5_changeSetting 4 (some .int), Cond.static yX6_isSetting, Cond.code yX6_isSetting cX6_isSetting 1 (some .boolean), Cond.methodLink RL 51 yX7_set, Cond.instanceMethod yX7_set, Cond.selects RX7 yX7_set yX7_set, Cond.code yX7_set cX7_set 4 (some .int), Cond.methodLink RX7 128 yX7_fits]
def wsL_law_r20 : List Cond := [Cond.static yX7_fits, Cond.code yX7_fits cX7_fits 2 (some .boolean), Cond.methodLink RL 52 yX6_append, Cond.instanceMethod yX6_append, Cond.selects RX6 yX6_append yX6_append, Cond.code yX6_append cX6_append 2 (some .int), Cond.methodLink RX6 73 yX4_appendCharacter, Cond.instanceMethod yX4_appendCharacter, Cond.selects RX4 yX4_appendCharacter yX4_appendCharacter, Cond.code yX4_appendCharacter cX4_appendCharacter 2 (some .int), Cond.fieldLink RX4 19 "ShadowTable$Script" "length" "I", Cond.methodLink RL 55 yX7_append, Cond.instanceMethod yX7_append, Cond.selects RX7 yX7_append yX7_append, Cond.code yX7_append cX7_append 2 (some .int), Cond.fieldLink RX7 132 "ShadowTableModel" "length" "I", Cond.methodLink RL 56 yX6_clearText, Cond.instanceMethod yX6_clearText, Cond.selects RX6 yX6_clearText yX6_clearText, Cond.code yX6_clearText cX6_clearText 1 (some .int), Cond.methodLink RX6 76 yX4_empty, Cond.instanceMethod yX4_empty, Cond.selects RX4 yX4_empty yX4_empty, Cond.code yX4_empty cX4_empty 2 (some .int)]
def wsL_law_r21 : List Cond := [Cond.methodLink RL 59 yX7_clearText, Cond.instanceMethod yX7_clearText, Cond.selects RX7 yX7_clearText yX7_clearText, Cond.code yX7_clearText cX7_clearText 2 (some .int), Cond.methodLink RL 60 yX6_fault, Cond.instanceMethod yX6_fault, Cond.selects RX6 yX6_fault yX6_fault, Cond.code yX6_fault cX6_fault 1 (some .int), Cond.methodLink RX6 79 yX4_findFault, Cond.instanceMethod yX4_findFault, Cond.selects RX4 yX4_findFault yX4_findFault, Cond.code yX4_findFault cX4_findFault 2 (some .int), Cond.fieldLink RX4 23 "ShadowTable$Script" "position" "I", Cond.methodLink RX4 26 yX4_goToStart, Cond.instanceMethod yX4_goToStart, Cond.selects RX4 yX4_goToStart yX4_goToStart, Cond.code yX4_goToStart cX4_goToStart 1 none, Cond.methodLink RX4 29 yX4_readOrder, Cond.instanceMethod yX4_readOrder, Cond.selects RX4 yX4_readOrder yX4_readOrder, Cond.code yX4_readOrder cX4_readOrder 1 (some .boolean), Cond.fieldLink RX4 41 "ShadowTable$Script" "order" "I", Cond.fieldLink RX4 51 "ShadowTable$Script" "first" "I", Cond.methodLink RX4 37 yX4_here]
def wsL_law_r22 : List Cond := [Cond.instanceMethod yX4_here, Cond.selects RX4 yX4_here yX4_here, Cond.code yX4_here cX4_here 1 (some .int), Cond.methodLink RX4 44 yX4_readFirst, Cond.instanceMethod yX4_readFirst, Cond.selects RX4 yX4_readFirst yX4_readFirst, Cond.code yX4_readFirst cX4_readFirst 4 (some .boolean), Cond.fieldLink RX4 57 "ShadowTable$Script" "number" "I", Cond.methodLink RX4 54 yX4_readNumber, Cond.instanceMethod yX4_readNumber, Cond.selects RX4 yX4_readNumber yX4_readNumber, Cond.code yX4_readNumber cX4_readNumber 4 (some .boolean), Cond.methodLink RX4 63 yX4_digitHere, Cond.instanceMethod yX4_digitHere, Cond.selects RX4 yX4_digitHere yX4_digitHere, Cond.code yX4_digitHere cX4_digitHere 2 (some .int), Cond.methodLink RX4 33 yX4_skip, Cond.instanceMethod yX4_skip, Cond.selects RX4 yX4_skip yX4_skip, Cond.code yX4_skip cX4_skip 2 (some .boolean), Cond.methodLink RX4 48 yX4_readSecond, Cond.instanceMethod yX4_readSecond, Cond.selects RX4 yX4_readSecond yX4_readSecond, Cond.code yX4_readSecond cX4_readSecond 4 (some .boolean)]
def wsL_law_r23 : List Cond := [Cond.fieldLink RX4 60 "ShadowTable$Script" "second" "I", Cond.methodLink RL 63 yX7_fault, Cond.instanceMethod yX7_fault, Cond.selects RX7 yX7_fault yX7_fault, Cond.code yX7_fault cX7_fault 1 (some .int), Cond.fieldLink RX7 135 "ShadowTableModel" "place" "I", Cond.methodLink RX7 168 yX7_readText, Cond.instanceMethod yX7_readText, Cond.selects RX7 yX7_readText yX7_readText, Cond.code yX7_readText cX7_readText 3 (some .boolean), Cond.fieldLink RX7 156 "ShadowTableModel" "carriedOut" "I", Cond.methodLink RX7 159 yX7_readOrder, Cond.instanceMethod yX7_readOrder, Cond.selects RX7 yX7_readOrder yX7_readOrder, Cond.code yX7_readOrder cX7_readOrder 1 (some .boolean), Cond.fieldLink RX7 141 "ShadowTableModel" "letter" "I", Cond.fieldLink RX7 147 "ShadowTableModel" "one" "I", Cond.fieldLink RX7 153 "ShadowTableModel" "other" "I", Cond.methodLink RX7 144 yX7_readNumber, Cond.instanceMethod yX7_readNumber, Cond.selects RX7 yX7_readNumber yX7_readNumber, Cond.code yX7_readNumber cX7_readNumber 4 (some .int), Cond.methodLink RX7 138 yX7_isNext, Cond.instanceMethod yX7_isNext]
def wsL_law_r24 : List Cond := [Cond.selects RX7 yX7_isNext yX7_isNext, Cond.code yX7_isNext cX7_isNext 3 (some .boolean), Cond.methodLink RX7 150 yX7_takes, Cond.instanceMethod yX7_takes, Cond.selects RX7 yX7_takes yX7_takes, Cond.code yX7_takes cX7_takes 3 (some .boolean), Cond.methodLink RX7 162 yX7_errorOfOrder, Cond.instanceMethod yX7_errorOfOrder, Cond.selects RX7 yX7_errorOfOrder yX7_errorOfOrder, Cond.code yX7_errorOfOrder cX7_errorOfOrder 1 (some .int), Cond.methodLink RX7 165 yX7_carryOut, Cond.instanceMethod yX7_carryOut, Cond.selects RX7 yX7_carryOut yX7_carryOut, Cond.code yX7_carryOut cX7_carryOut 1 (some .int), Cond.methodLink RL 64 yX6_run, Cond.instanceMethod yX6_run, Cond.selects RX6 yX6_run yX6_run, Cond.code yX6_run cX6_run 3 (some .int), Cond.methodLink RX6 85 yX4_goToStart, Cond.methodLink RX6 88 yX4_readOrder, Cond.methodLink RX6 92 yX6_carryOutOrder, Cond.instanceMethod yX6_carryOutOrder, Cond.selects RX6 yX6_carryOutOrder yX6_carryOutOrder, Cond.code yX6_carryOutOrder cX6_carryOutOrder 1 (some .int)]
def wsL_law_r25 : List Cond := [Cond.methodLink RX6 99 yX4_skip, Cond.methodLink RL 67 yX7_run, Cond.instanceMethod yX7_run, Cond.selects RX7 yX7_run yX7_run, Cond.code yX7_run cX7_run 1 (some .int), Cond.methodLink RL 68 yX6_undo, Cond.instanceMethod yX6_undo, Cond.selects RX6 yX6_undo yX6_undo, Cond.code yX6_undo cX6_undo 1 (some .int), Cond.methodLink RX6 102 yX1_takeBack, Cond.instanceMethod yX1_takeBack, Cond.selects RX1 yX1_takeBack yX1_takeBack, Cond.code yX1_takeBack cX1_takeBack 2 (some .int), Cond.methodLink RL 71 yX7_undo, Cond.instanceMethod yX7_undo, Cond.selects RX7 yX7_undo yX7_undo, Cond.code yX7_undo cX7_undo 1 (some .int), Cond.methodLink RL 72 yX6_save, Cond.instanceMethod yX6_save, Cond.selects RX6 yX6_save yX6_save, Cond.code yX6_save cX6_save 1 (some .int), Cond.fieldLink RX6 109 "ShadowTable" "hasSnapshot" "Z", Cond.methodLink RX6 106 yX5_take, Cond.methodLink RX6 117 yX3_count]
def wsL_law_r26 : List Cond := [Cond.methodLink RL 75 yX7_save, Cond.instanceMethod yX7_save, Cond.selects RX7 yX7_save yX7_save, Cond.code yX7_save cX7_save 1 (some .int), Cond.fieldLink RX7 172 "ShadowTableModel" "isTaken" "Z", Cond.methodLink RL 76 yX6_restore, Cond.instanceMethod yX6_restore, Cond.selects RX6 yX6_restore yX6_restore, Cond.code yX6_restore cX6_restore 1 (some .int), Cond.methodLink RL 79 yX7_restore, Cond.instanceMethod yX7_restore, Cond.selects RX7 yX7_restore yX7_restore, Cond.code yX7_restore cX7_restore 1 (some .int), Cond.methodLink RL 80 yX6_value, Cond.instanceMethod yX6_value, Cond.selects RX6 yX6_value yX6_value, Cond.code yX6_value cX6_value 4 (some .int), Cond.methodLink RX6 122 yX6_isKey, Cond.methodLink RX6 125 yX6_isTable, Cond.static yX6_isTable, Cond.code yX6_isTable cX6_isTable 1 (some .boolean), Cond.methodLink RX6 128 yX5_rowsOf, Cond.instanceMethod yX5_rowsOf, Cond.selects RX5 yX5_rowsOf yX5_rowsOf]
def wsL_law_r27 : List Cond := [Cond.code yX5_rowsOf cX5_rowsOf 2 (some (.object "ShadowTable$Rows")), Cond.methodLink RX6 132 yX3_at, Cond.methodLink RL 83 yX7_value, Cond.instanceMethod yX7_value, Cond.selects RX7 yX7_value yX7_value, Cond.code yX7_value cX7_value 3 (some .int), Cond.methodLink RX7 176 yX7_isTable, Cond.instanceMethod yX7_isTable, Cond.selects RX7 yX7_isTable yX7_isTable, Cond.code yX7_isTable cX7_isTable 2 (some .boolean), Cond.methodLink RL 84 yX6_table, Cond.instanceMethod yX6_table, Cond.selects RX6 yX6_table yX6_table, Cond.code yX6_table cX6_table 4 (some .int), Cond.methodLink RX6 139 yX3_tell, Cond.instanceMethod yX3_tell, Cond.selects RX3 yX3_tell yX3_tell, Cond.code yX3_tell cX3_tell 2 (some .int), Cond.methodLink RX3 27 yX3_count, Cond.methodLink RX3 31 yX3_sum, Cond.instanceMethod yX3_sum, Cond.selects RX3 yX3_sum yX3_sum, Cond.code yX3_sum cX3_sum 3 (some .int), Cond.methodLink RX3 34 yX3_leastKey]
def wsL_law_r28 : List Cond := [Cond.instanceMethod yX3_leastKey, Cond.selects RX3 yX3_leastKey yX3_leastKey, Cond.code yX3_leastKey cX3_leastKey 2 (some .int), Cond.methodLink RX3 37 yX3_greatestKey, Cond.instanceMethod yX3_greatestKey, Cond.selects RX3 yX3_greatestKey yX3_greatestKey, Cond.code yX3_greatestKey cX3_greatestKey 2 (some .int), Cond.methodLink RL 87 yX7_table, Cond.instanceMethod yX7_table, Cond.selects RX7 yX7_table yX7_table, Cond.code yX7_table cX7_table 3 (some .int), Cond.methodLink RX7 179 yX7_sum, Cond.instanceMethod yX7_sum, Cond.selects RX7 yX7_sum yX7_sum, Cond.code yX7_sum cX7_sum 4 (some .int), Cond.methodLink RX7 182 yX7_endKey, Cond.instanceMethod yX7_endKey, Cond.selects RX7 yX7_endKey yX7_endKey, Cond.code yX7_endKey cX7_endKey 5 (some .int), Cond.methodLink RL 88 yX6_copy, Cond.instanceMethod yX6_copy, Cond.selects RX6 yX6_copy yX6_copy, Cond.code yX6_copy cX6_copy 2 (some .int), Cond.methodLink RX6 146 yX0_tell]
def wsL_law_r29 : List Cond := [Cond.instanceMethod yX0_tell, Cond.selects RX0 yX0_tell yX0_tell, Cond.code yX0_tell cX0_tell 2 (some .int), Cond.methodLink RL 91 yX7_copy, Cond.instanceMethod yX7_copy, Cond.selects RX7 yX7_copy yX7_copy, Cond.code yX7_copy cX7_copy 3 (some .int), Cond.methodLink RL 92 yX6_entry, Cond.instanceMethod yX6_entry, Cond.selects RX6 yX6_entry yX6_entry, Cond.code yX6_entry cX6_entry 4 (some .int), Cond.methodLink RX6 149 yX5_hasCopy, Cond.methodLink RX6 156 yX2_keyAt, Cond.methodLink RX6 161 yX2_valueAt, Cond.methodLink RL 95 yX7_entry, Cond.instanceMethod yX7_entry, Cond.selects RX7 yX7_entry yX7_entry, Cond.code yX7_entry cX7_entry 3 (some .int), Cond.methodLink RL 96 yX6_changed, Cond.instanceMethod yX6_changed, Cond.selects RX6 yX6_changed yX6_changed, Cond.code yX6_changed cX6_changed 4 (some .int), Cond.methodLink RX6 164 yX6_isKind, Cond.methodLink RX6 167 yX6_isValue]
def wsL_law_r30 : List Cond := [Cond.methodLink RX6 170 yX6_changedValue, Cond.methodLink RL 100 yX7_changed, Cond.instanceMethod yX7_changed, Cond.selects RX7 yX7_changed yX7_changed, Cond.code yX7_changed cX7_changed 4 (some .int), Cond.methodLink RL 101 yX6_differences, Cond.instanceMethod yX6_differences, Cond.selects RX6 yX6_differences yX6_differences, Cond.code yX6_differences cX6_differences 3 (some .int), Cond.methodLink RX6 174 yX5_differsAt, Cond.instanceMethod yX5_differsAt, Cond.selects RX5 yX5_differsAt yX5_differsAt, Cond.code yX5_differsAt cX5_differsAt 2 (some .boolean), Cond.methodLink RL 104 yX7_differences, Cond.instanceMethod yX7_differences, Cond.selects RX7 yX7_differences yX7_differences, Cond.code yX7_differences cX7_differences 1 (some .int), Cond.methodLink RX7 186 yX7_differing, Cond.instanceMethod yX7_differing, Cond.selects RX7 yX7_differing yX7_differing, Cond.code yX7_differing cX7_differing 4 (some .int), Cond.methodLink RL 105 yX6_firstDifference, Cond.instanceMethod yX6_firstDifference, Cond.selects RX6 yX6_firstDifference yX6_firstDifference]
def wsL_law_r31 : List Cond := [Cond.code yX6_firstDifference cX6_firstDifference 2 (some .int), Cond.methodLink RL 108 yX7_firstDifference, Cond.instanceMethod yX7_firstDifference, Cond.selects RX7 yX7_firstDifference yX7_firstDifference, Cond.code yX7_firstDifference cX7_firstDifference 1 (some .int), Cond.methodLink RL 109 yX6_setting, Cond.instanceMethod yX6_setting, Cond.selects RX6 yX6_setting yX6_setting, Cond.code yX6_setting cX6_setting 2 (some .int), Cond.methodLink RX6 177 yX6_isSetting, Cond.methodLink RL 112 yX7_setting, Cond.instanceMethod yX7_setting, Cond.selects RX7 yX7_setting yX7_setting, Cond.code yX7_setting cX7_setting 2 (some .int), Cond.methodLink RL 113 yX6_total, Cond.instanceMethod yX6_total, Cond.selects RX6 yX6_total yX6_total, Cond.code yX6_total cX6_total 2 (some .int), Cond.methodLink RL 116 yX7_total, Cond.instanceMethod yX7_total, Cond.selects RX7 yX7_total yX7_total, Cond.code yX7_total cX7_total 2 (some .int), Cond.methodLink RL 117 yX6_states, Cond.instanceMethod yX6_states]
def wsL_law_r32 : List Cond := [Cond.selects RX6 yX6_states yX6_states, Cond.code yX6_states cX6_states 1 (some .int), Cond.methodLink RL 120 yX7_states, Cond.instanceMethod yX7_states, Cond.selects RX7 yX7_states yX7_states, Cond.code yX7_states cX7_states 1 (some .int), Cond.methodLink RL 121 yX6_readyIn, Cond.instanceMethod yX6_readyIn, Cond.selects RX6 yX6_readyIn yX6_readyIn, Cond.code yX6_readyIn cX6_readyIn 1 (some .int), Cond.methodLink RX6 190 yX5_canBecomeReady, Cond.instanceMethod yX5_canBecomeReady, Cond.selects RX5 yX5_canBecomeReady yX5_canBecomeReady, Cond.code yX5_canBecomeReady cX5_canBecomeReady 1 (some .boolean), Cond.methodLink RX6 193 yX5_ticksUntilReady, Cond.instanceMethod yX5_ticksUntilReady, Cond.selects RX5 yX5_ticksUntilReady yX5_ticksUntilReady, Cond.code yX5_ticksUntilReady cX5_ticksUntilReady 3 (some .int), Cond.methodLink RL 124 yX7_readyIn, Cond.instanceMethod yX7_readyIn, Cond.selects RX7 yX7_readyIn yX7_readyIn, Cond.code yX7_readyIn cX7_readyIn 1 (some .int), Cond.methodLink RX7 193 yX7_canAsk, Cond.instanceMethod yX7_canAsk]
def wsL_law_r33 : List Cond := [Cond.selects RX7 yX7_canAsk yX7_canAsk, Cond.code yX7_canAsk cX7_canAsk 1 (some .boolean), Cond.methodLink RX7 196 yX7_until, Cond.instanceMethod yX7_until, Cond.selects RX7 yX7_until yX7_until, Cond.code yX7_until cX7_until 5 (some .int), Cond.methodLink RX7 190 yX7_isReady, Cond.instanceMethod yX7_isReady, Cond.selects RX7 yX7_isReady yX7_isReady, Cond.code yX7_isReady cX7_isReady 1 (some .boolean), Cond.methodLink RL 125 yX6_leastLot, Cond.instanceMethod yX6_leastLot, Cond.selects RX6 yX6_leastLot yX6_leastLot, Cond.code yX6_leastLot cX6_leastLot 3 (some .int), Cond.methodLink RX6 196 yX6_isTicks, Cond.methodLink RL 128 yX7_leastLot, Cond.instanceMethod yX7_leastLot, Cond.selects RX7 yX7_leastLot yX7_leastLot, Cond.code yX7_leastLot cX7_leastLot 3 (some .int), Cond.methodLink RL 129 yX6_progress, Cond.instanceMethod yX6_progress, Cond.selects RX6 yX6_progress yX6_progress, Cond.code yX6_progress cX6_progress 1 (some .double), Cond.constantDouble RX6 205 (4629700416936869888)]
def wsL_law_r34 : List Cond := [Cond.methodLink RL 133 yX7_progress, Cond.instanceMethod yX7_progress, Cond.selects RX7 yX7_progress yX7_progress, Cond.code yX7_progress cX7_progress 1 (some .double), Cond.constantDouble RX7 199 (4629700416936869888)]
def wsL_law : List Cond := (wsL_law_r1 ++ (wsL_law_r2 ++ (wsL_law_r3 ++ (wsL_law_r4 ++ (wsL_law_r5 ++ (wsL_law_r6 ++ (wsL_law_r7 ++ (wsL_law_r8 ++ (wsL_law_r9 ++ (wsL_law_r10 ++ (wsL_law_r11 ++ (wsL_law_r12 ++ (wsL_law_r13 ++ (wsL_law_r14 ++ (wsL_law_r15 ++ (wsL_law_r16 ++ (wsL_law_r17 ++ (wsL_law_r18 ++ (wsL_law_r19 ++ (wsL_law_r20 ++ (wsL_law_r21 ++ (wsL_law_r22 ++ (wsL_law_r23 ++ (wsL_law_r24 ++ (wsL_law_r25 ++ (wsL_law_r26 ++ (wsL_law_r27 ++ (wsL_law_r28 ++ (wsL_law_r29 ++ (wsL_law_r30 ++ (wsL_law_r31 ++ (wsL_law_r32 ++ (wsL_law_r33 ++ wsL_law_r34))))))))))))))))))))))))))))))))) ++ wsX60 ++ wsX70 ++ wsX50 ++ wsX10 ++ wsX40 ++ wsX30 ++ wsX00 ++ wsX20 ++ ([] : List Cond)
theorem lwm_0 {w : Cond} (h : w ∈ k2_sels lw_privs) : w ∈ lw_tbl := List.mem_append_left _ h
theorem lwm_1 {w : Cond} (h : w ∈ tables_1_1) : w ∈ lw_tbl := List.mem_append_right _ (List.mem_append_left _ h)
theorem lwm_2 {w : Cond} (h : w ∈ tables_1_2) : w ∈ lw_tbl := List.mem_append_right _ (List.mem_append_right _ (List.mem_append_left _ h))
theorem lwm_3 {w : Cond} (h : w ∈ tables_1_3) : w ∈ lw_tbl := List.mem_append_right _ (List.mem_append_right _ (List.mem_append_right _ (List.mem_append_left _ h)))
theorem lwm_4 {w : Cond} (h : w ∈ tables_1_4) : w ∈ lw_tbl := List.mem_append_right _ (List.mem_append_right _ (List.mem_append_right _ (List.mem_append_right _ h)))
set_option maxRecDepth 20000 in
theorem lwi_wsL_law_r1 : ∀ w ∈ wsL_law_r1, w ∈ lw_tbl := (List.forall_mem_cons.mpr ⟨(lwm_1 (List.mem_of_getElem? (i := 11) (by decide +kernel))), (List.forall_mem_cons.mpr ⟨(lwm_1 (List.mem_of_getElem? (i := 12) (by decide +kernel))), (List.forall_mem_cons.mpr ⟨(lwm_1 (List.mem_of_getElem? (i := 1) (by decide +kernel))), (List.forall_mem_cons.mpr ⟨(lwm_3 (List.mem_of_getElem? (i := 123) (by decide +kernel))), (List.forall_mem_cons.mpr ⟨(lwm_3 (List.mem_of_getElem? (i := 124) (by decide +kernel))), (List.forall_mem_cons.mpr ⟨(lwm_1 (List.mem_of_getElem? (i := 9) (by decide +kernel))), (List.forall_mem_cons.mpr ⟨(lwm_1 (List.mem_of_getElem? (i := 13) (by decide +kernel))), (List.forall_mem_cons.mpr ⟨(lwm_1 (List.mem_of_getElem? (i := 14) (by decide +kernel))), (List.forall_mem_cons.mpr ⟨(lwm_1 (List.mem_of_getElem? (i := 15) (by rfl))), (List.forall_mem_cons.mpr ⟨(lwm_1 (List.mem_of_getElem? (i := 16) (by decide +kernel))), (List.forall_mem_cons.mpr ⟨(lwm_1 (List.mem_of_getElem? (i := 17) (by decide +kernel))), (List.forall_mem_cons.mpr ⟨(lwm_1 (List.mem_of_getElem? (i := 18) (by rfl))), (List.forall_mem_cons.mpr ⟨(lwm_1 (List.mem_of_getElem? (i := 19) (by decide +kernel))), (List.forall_mem_cons.mpr ⟨(lwm_1 (List.mem_of_getElem? (i := 20) (by decide +kernel))), (List.forall_mem_cons.mpr ⟨(lwm_1 (List.mem_of_getElem? (i := 2) (by decide +kernel))), (List.forall_mem_cons.mpr ⟨(lwm_1 (List.mem_of_getElem? (i := 174) (by decide +kernel))), (List.forall_mem_cons.mpr ⟨(lwm_1 (List.mem_of_getElem? (i := 175) (by decide +kernel))), (List.forall_mem_cons.mpr ⟨(lwm_1 (List.mem_of_getElem? (i := 176) (by decide +kernel))), (List.forall_mem_cons.mpr ⟨(lwm_1 (List.mem_of_getElem? (i := 123) (by decide +kernel))), (List.forall_mem_cons.mpr ⟨(lwm_1 (List.mem_of_getElem? (i := 124) (by decide +kernel))), (List.forall_mem_cons.mpr ⟨(lwm_1 (List.mem_of_getElem? (i := 7) (by decide +kernel))), (List.forall_mem_cons.mpr ⟨(lwm_1 (List.mem_of_getElem? (i := 177) (by decide +kernel))), (List.forall_mem_cons.mpr ⟨(lwm_1 (List.mem_of_getElem? (i := 143) (by decide +kernel))), (List.forall_mem_cons.mpr ⟨(lwm_1 (List.mem_of_getElem? (i := 144) (by decide +kernel))), (fun _ h => absurd h List.not_mem_nil)⟩)⟩)⟩)⟩)⟩)⟩)⟩)⟩)⟩)⟩)⟩)⟩)⟩)⟩)⟩)⟩)⟩)⟩)⟩)⟩)⟩)⟩)⟩)⟩)
set_option maxRecDepth 20000 in
theorem lwi_wsL_law_r2 : ∀ w ∈ wsL_law_r2, w ∈ lw_tbl := (List.forall_mem_cons.mpr ⟨(lwm_1 (List.mem_of_getElem? (i := 8) (by decide +kernel))), (List.forall_mem_cons.mpr ⟨(lwm_1 (List.mem_of_getElem? (i := 178) (by decide +kernel))), (List.forall_mem_cons.mpr ⟨(lwm_1 (List.mem_of_getElem? (i := 22) (by decide +kernel))), (List.forall_mem_cons.mpr ⟨(lwm_1 (List.mem_of_getElem? (i := 23) (by rfl))), (List.forall_mem_cons.mpr ⟨(lwm_1 (List.mem_of_getElem? (i := 24) (by decide +kernel))), (List.forall_mem_cons.mpr ⟨(lwm_1 (List.mem_of_getElem? (i := 25) (by decide +kernel))), (List.forall_mem_cons.mpr ⟨(lwm_1 (List.mem_of_getElem? (i := 26) (by decide +kernel))), (List.forall_mem_cons.mpr ⟨(lwm_1 (List.mem_of_getElem? (i := 3) (by decide +kernel))), (List.forall_mem_cons.mpr ⟨(lwm_1 (List.mem_of_getElem? (i := 100) (by decide +kernel))), (List.forall_mem_cons.mpr ⟨(lwm_1 (List.mem_of_getElem? (i := 102) (by decide +kernel))), (List.forall_mem_cons.mpr ⟨(lwm_1 (List.mem_of_getElem? (i := 39) (by decide +kernel))), (List.forall_mem_cons.mpr ⟨(lwm_1 (List.mem_of_getElem? (i := 40) (by decide +kernel))), (List.forall_mem_cons.mpr ⟨(lwm_1 (List.mem_of_getElem? (i := 5) (by decide +kernel))), (List.forall_mem_cons.mpr ⟨(lwm_1 (List.mem_of_getElem? (i := 104) (by decide +kernel))), (List.forall_mem_cons.mpr ⟨(lwm_1 (List.mem_of_getElem? (i := 38) (by decide +kernel))), (List.forall_mem_cons.mpr ⟨(lwm_1 (List.mem_of_getElem? (i := 106) (by decide +kernel))), (List.forall_mem_cons.mpr ⟨(lwm_1 (List.mem_of_getElem? (i := 108) (by decide +kernel))), (List.forall_mem_cons.mpr ⟨(lwm_1 (List.mem_of_getElem? (i := 27) (by decide +kernel))), (List.forall_mem_cons.mpr ⟨(lwm_1 (List.mem_of_getElem? (i := 28) (by decide +kernel))), (List.forall_mem_cons.mpr ⟨(lwm_1 (List.mem_of_getElem? (i := 29) (by rfl))), (List.forall_mem_cons.mpr ⟨(lwm_1 (List.mem_of_getElem? (i := 30) (by decide +kernel))), (List.forall_mem_cons.mpr ⟨(lwm_1 (List.mem_of_getElem? (i := 34) (by decide +kernel))), (List.forall_mem_cons.mpr ⟨(lwm_1 (List.mem_of_getElem? (i := 31) (by decide +kernel))), (List.forall_mem_cons.mpr ⟨(lwm_1 (List.mem_of_getElem? (i := 32) (by decide +kernel))), (fun _ h => absurd h List.not_mem_nil)⟩)⟩)⟩)⟩)⟩)⟩)⟩)⟩)⟩)⟩)⟩)⟩)⟩)⟩)⟩)⟩)⟩)⟩)⟩)⟩)⟩)⟩)⟩)⟩)
set_option maxRecDepth 20000 in
theorem lwi_wsL_law_r3 : ∀ w ∈ wsL_law_r3, w ∈ lw_tbl := (List.forall_mem_cons.mpr ⟨(lwm_1 (List.mem_of_getElem? (i := 4) (by decide +kernel))), (List.forall_mem_cons.mpr ⟨(lwm_1 (List.mem_of_getElem? (i := 33) (by rfl))), (List.forall_mem_cons.mpr ⟨(lwm_1 (List.mem_of_getElem? (i := 42) (by decide +kernel))), (List.forall_mem_cons.mpr ⟨(lwm_1 (List.mem_of_getElem? (i := 43) (by rfl))), (List.forall_mem_cons.mpr ⟨(lwm_1 (List.mem_of_getElem? (i := 44) (by decide +kernel))), (List.forall_mem_cons.mpr ⟨(lwm_1 (List.mem_of_getElem? (i := 45) (by decide +kernel))), (List.forall_mem_cons.mpr ⟨(lwm_1 (List.mem_of_getElem? (i := 68) (by decide +kernel))), (List.forall_mem_cons.mpr ⟨(lwm_1 (List.mem_of_getElem? (i := 47) (by decide +kernel))), (List.forall_mem_cons.mpr ⟨(lwm_1 (List.mem_of_getElem? (i := 48) (by decide +kernel))), (List.forall_mem_cons.mpr ⟨(lwm_1 (List.mem_of_getElem? (i := 6) (by decide +kernel))), (List.forall_mem_cons.mpr ⟨(lwm_1 (List.mem_of_getElem? (i := 70) (by decide +kernel))), (List.forall_mem_cons.mpr ⟨(lwm_1 (List.mem_of_getElem? (i := 73) (by decide +kernel))), (List.forall_mem_cons.mpr ⟨(lwm_1 (List.mem_of_getElem? (i := 46) (by decide +kernel))), (List.forall_mem_cons.mpr ⟨(lwm_1 (List.mem_of_getElem? (i := 50) (by decide +kernel))), (List.forall_mem_cons.mpr ⟨(lwm_1 (List.mem_of_getElem? (i := 51) (by rfl))), (List.forall_mem_cons.mpr ⟨(lwm_1 (List.mem_of_getElem? (i := 52) (by decide +kernel))), (List.forall_mem_cons.mpr ⟨(lwm_1 (List.mem_of_getElem? (i := 53) (by decide +kernel))), (List.forall_mem_cons.mpr ⟨(lwm_1 (List.mem_of_getElem? (i := 54) (by decide +kernel))), (List.forall_mem_cons.mpr ⟨(lwm_1 (List.mem_of_getElem? (i := 125) (by decide +kernel))), (List.forall_mem_cons.mpr ⟨(lwm_1 (List.mem_of_getElem? (i := 126) (by decide +kernel))), (List.forall_mem_cons.mpr ⟨(lwm_1 (List.mem_of_getElem? (i := 127) (by rfl))), (List.forall_mem_cons.mpr ⟨(lwm_1 (List.mem_of_getElem? (i := 128) (by decide +kernel))), (List.forall_mem_cons.mpr ⟨(lwm_1 (List.mem_of_getElem? (i := 129) (by decide +kernel))), (List.forall_mem_cons.mpr ⟨(lwm_1 (List.mem_of_getElem? (i := 132) (by decide +kernel))), (fun _ h => absurd h List.not_mem_nil)⟩)⟩)⟩)⟩)⟩)⟩)⟩)⟩)⟩)⟩)⟩)⟩)⟩)⟩)⟩)⟩)⟩)⟩)⟩)⟩)⟩)⟩)⟩)⟩)
set_option maxRecDepth 20000 in
theorem lwi_wsL_law_r4 : ∀ w ∈ wsL_law_r4, w ∈ lw_tbl := (List.forall_mem_cons.mpr ⟨(lwm_1 (List.mem_of_getElem? (i := 146) (by decide +kernel))), (List.forall_mem_cons.mpr ⟨(lwm_1 (List.mem_of_getElem? (i := 147) (by rfl))), (List.forall_mem_cons.mpr ⟨(lwm_1 (List.mem_of_getElem? (i := 148) (by decide +kernel))), (List.forall_mem_cons.mpr ⟨(lwm_1 (List.mem_of_getElem? (i := 149) (by decide +kernel))), (List.forall_mem_cons.mpr ⟨(lwm_3 (List.mem_of_getElem? (i := 125) (by decide +kernel))), (List.forall_mem_cons.mpr ⟨(lwm_3 (List.mem_of_getElem? (i := 126) (by decide +kernel))), (List.forall_mem_cons.mpr ⟨(lwm_3 (List.mem_of_getElem? (i := 127) (by rfl))), (List.forall_mem_cons.mpr ⟨(lwm_3 (List.mem_of_getElem? (i := 128) (by decide +kernel))), (List.forall_mem_cons.mpr ⟨(lwm_3 (List.mem_of_getElem? (i := 129) (by decide +kernel))), (List.forall_mem_cons.mpr ⟨(lwm_3 (List.mem_of_getElem? (i := 130) (by decide +kernel))), (List.forall_mem_cons.mpr ⟨(lwm_3 (List.mem_of_getElem? (i := 132) (by decide +kernel))), (List.forall_mem_cons.mpr ⟨(lwm_3 (List.mem_of_getElem? (i := 134) (by decide +kernel))), (List.forall_mem_cons.mpr ⟨(lwm_3 (List.mem_of_getElem? (i := 135) (by decide +kernel))), (List.forall_mem_cons.mpr ⟨(lwm_1 (List.mem_of_getElem? (i := 193) (by decide +kernel))), (List.forall_mem_cons.mpr ⟨(lwm_1 (List.mem_of_getElem? (i := 194) (by decide +kernel))), (List.forall_mem_cons.mpr ⟨(lwm_1 (List.mem_of_getElem? (i := 195) (by decide +kernel))), (List.forall_mem_cons.mpr ⟨(lwm_1 (List.mem_of_getElem? (i := 196) (by rfl))), (List.forall_mem_cons.mpr ⟨(lwm_1 (List.mem_of_getElem? (i := 197) (by decide +kernel))), (List.forall_mem_cons.mpr ⟨(lwm_1 (List.mem_of_getElem? (i := 198) (by decide +kernel))), (List.forall_mem_cons.mpr ⟨(lwm_1 (List.mem_of_getElem? (i := 199) (by decide +kernel))), (List.forall_mem_cons.mpr ⟨(lwm_1 (List.mem_of_getElem? (i := 200) (by rfl))), (List.forall_mem_cons.mpr ⟨(lwm_1 (List.mem_of_getElem? (i := 134) (by decide +kernel))), (List.forall_mem_cons.mpr ⟨(lwm_1 (List.mem_of_getElem? (i := 201) (by decide +kernel))), (List.forall_mem_cons.mpr ⟨(lwm_1 (List.mem_of_getElem? (i := 203) (by decide +kernel))), (fun _ h => absurd h List.not_mem_nil)⟩)⟩)⟩)⟩)⟩)⟩)⟩)⟩)⟩)⟩)⟩)⟩)⟩)⟩)⟩)⟩)⟩)⟩)⟩)⟩)⟩)⟩)⟩)⟩)
set_option maxRecDepth 20000 in
theorem lwi_wsL_law_r5 : ∀ w ∈ wsL_law_r5, w ∈ lw_tbl := (List.forall_mem_cons.mpr ⟨(lwm_0 (List.mem_of_getElem? (i := 0) (by decide +kernel))), (List.forall_mem_cons.mpr ⟨(lwm_1 (List.mem_of_getElem? (i := 204) (by rfl))), (List.forall_mem_cons.mpr ⟨(lwm_1 (List.mem_of_getElem? (i := 133) (by decide +kernel))), (List.forall_mem_cons.mpr ⟨(lwm_1 (List.mem_of_getElem? (i := 205) (by decide +kernel))), (List.forall_mem_cons.mpr ⟨(lwm_1 (List.mem_of_getElem? (i := 206) (by decide +kernel))), (List.forall_mem_cons.mpr ⟨(lwm_1 (List.mem_of_getElem? (i := 207) (by decide +kernel))), (List.forall_mem_cons.mpr ⟨(lwm_1 (List.mem_of_getElem? (i := 208) (by rfl))), (List.forall_mem_cons.mpr ⟨(lwm_1 (List.mem_of_getElem? (i := 103) (by decide +kernel))), (List.forall_mem_cons.mpr ⟨(lwm_1 (List.mem_of_getElem? (i := 226) (by decide +kernel))), (List.forall_mem_cons.mpr ⟨(lwm_1 (List.mem_of_getElem? (i := 215) (by decide +kernel))), (List.forall_mem_cons.mpr ⟨(lwm_1 (List.mem_of_getElem? (i := 214) (by decide +kernel))), (List.forall_mem_cons.mpr ⟨(lwm_1 (List.mem_of_getElem? (i := 10) (by decide +kernel))), (List.forall_mem_cons.mpr ⟨(lwm_1 (List.mem_of_getElem? (i := 209) (by decide +kernel))), (List.forall_mem_cons.mpr ⟨(lwm_1 (List.mem_of_getElem? (i := 210) (by decide +kernel))), (List.forall_mem_cons.mpr ⟨(lwm_1 (List.mem_of_getElem? (i := 211) (by decide +kernel))), (List.forall_mem_cons.mpr ⟨(lwm_1 (List.mem_of_getElem? (i := 212) (by rfl))), (List.forall_mem_cons.mpr ⟨(lwm_1 (List.mem_of_getElem? (i := 213) (by decide +kernel))), (List.forall_mem_cons.mpr ⟨(lwm_1 (List.mem_of_getElem? (i := 216) (by decide +kernel))), (List.forall_mem_cons.mpr ⟨(lwm_1 (List.mem_of_getElem? (i := 217) (by decide +kernel))), (List.forall_mem_cons.mpr ⟨(lwm_1 (List.mem_of_getElem? (i := 218) (by decide +kernel))), (List.forall_mem_cons.mpr ⟨(lwm_1 (List.mem_of_getElem? (i := 219) (by rfl))), (List.forall_mem_cons.mpr ⟨(lwm_1 (List.mem_of_getElem? (i := 75) (by decide +kernel))), (List.forall_mem_cons.mpr ⟨(lwm_1 (List.mem_of_getElem? (i := 77) (by decide +kernel))), (List.forall_mem_cons.mpr ⟨(lwm_1 (List.mem_of_getElem? (i := 80) (by decide +kernel))), (fun _ h => absurd h List.not_mem_nil)⟩)⟩)⟩)⟩)⟩)⟩)⟩)⟩)⟩)⟩)⟩)⟩)⟩)⟩)⟩)⟩)⟩)⟩)⟩)⟩)⟩)⟩)⟩)⟩)
set_option maxRecDepth 20000 in
theorem lwi_wsL_law_r6 : ∀ w ∈ wsL_law_r6, w ∈ lw_tbl := (List.forall_mem_cons.mpr ⟨(lwm_1 (List.mem_of_getElem? (i := 83) (by decide +kernel))), (List.forall_mem_cons.mpr ⟨(lwm_1 (List.mem_of_getElem? (i := 220) (by decide +kernel))), (List.forall_mem_cons.mpr ⟨(lwm_1 (List.mem_of_getElem? (i := 221) (by decide +kernel))), (List.forall_mem_cons.mpr ⟨(lwm_1 (List.mem_of_getElem? (i := 222) (by decide +kernel))), (List.forall_mem_cons.mpr ⟨(lwm_1 (List.mem_of_getElem? (i := 223) (by decide +kernel))), (List.forall_mem_cons.mpr ⟨(lwm_1 (List.mem_of_getElem? (i := 224) (by rfl))), (List.forall_mem_cons.mpr ⟨(lwm_1 (List.mem_of_getElem? (i := 225) (by decide +kernel))), (List.forall_mem_cons.mpr ⟨(lwm_1 (List.mem_of_getElem? (i := 55) (by decide +kernel))), (List.forall_mem_cons.mpr ⟨(lwm_1 (List.mem_of_getElem? (i := 56) (by decide +kernel))), (List.forall_mem_cons.mpr ⟨(lwm_1 (List.mem_of_getElem? (i := 227) (by decide +kernel))), (List.forall_mem_cons.mpr ⟨(lwm_1 (List.mem_of_getElem? (i := 228) (by decide +kernel))), (List.forall_mem_cons.mpr ⟨(lwm_1 (List.mem_of_getElem? (i := 229) (by decide +kernel))), (List.forall_mem_cons.mpr ⟨(lwm_1 (List.mem_of_getElem? (i := 230) (by rfl))), (List.forall_mem_cons.mpr ⟨(lwm_1 (List.mem_of_getElem? (i := 232) (by decide +kernel))), (List.forall_mem_cons.mpr ⟨(lwm_1 (List.mem_of_getElem? (i := 233) (by rfl))), (List.forall_mem_cons.mpr ⟨(lwm_1 (List.mem_of_getElem? (i := 234) (by decide +kernel))), (List.forall_mem_cons.mpr ⟨(lwm_1 (List.mem_of_getElem? (i := 235) (by decide +kernel))), (List.forall_mem_cons.mpr ⟨(lwm_1 (List.mem_of_getElem? (i := 236) (by rfl))), (List.forall_mem_cons.mpr ⟨(lwm_1 (List.mem_of_getElem? (i := 238) (by decide +kernel))), (List.forall_mem_cons.mpr ⟨(lwm_1 (List.mem_of_getElem? (i := 239) (by rfl))), (List.forall_mem_cons.mpr ⟨(lwm_2 (List.mem_of_getElem? (i := 0) (by decide +kernel))), (List.forall_mem_cons.mpr ⟨(lwm_2 (List.mem_of_getElem? (i := 2) (by decide +kernel))), (List.forall_mem_cons.mpr ⟨(lwm_0 (List.mem_of_getElem? (i := 1) (by decide +kernel))), (List.forall_mem_cons.mpr ⟨(lwm_2 (List.mem_of_getElem? (i := 3) (by rfl))), (fun _ h => absurd h List.not_mem_nil)⟩)⟩)⟩)⟩)⟩)⟩)⟩)⟩)⟩)⟩)⟩)⟩)⟩)⟩)⟩)⟩)⟩)⟩)⟩)⟩)⟩)⟩)⟩)⟩)
set_option maxRecDepth 20000 in
theorem lwi_wsL_law_r7 : ∀ w ∈ wsL_law_r7, w ∈ lw_tbl := (List.forall_mem_cons.mpr ⟨(lwm_2 (List.mem_of_getElem? (i := 4) (by decide +kernel))), (List.forall_mem_cons.mpr ⟨(lwm_2 (List.mem_of_getElem? (i := 5) (by decide +kernel))), (List.forall_mem_cons.mpr ⟨(lwm_2 (List.mem_of_getElem? (i := 6) (by decide +kernel))), (List.forall_mem_cons.mpr ⟨(lwm_2 (List.mem_of_getElem? (i := 7) (by rfl))), (List.forall_mem_cons.mpr ⟨(lwm_2 (List.mem_of_getElem? (i := 8) (by decide +kernel))), (List.forall_mem_cons.mpr ⟨(lwm_2 (List.mem_of_getElem? (i := 9) (by decide +kernel))), (List.forall_mem_cons.mpr ⟨(lwm_2 (List.mem_of_getElem? (i := 10) (by decide +kernel))), (List.forall_mem_cons.mpr ⟨(lwm_2 (List.mem_of_getElem? (i := 11) (by rfl))), (List.forall_mem_cons.mpr ⟨(lwm_2 (List.mem_of_getElem? (i := 12) (by decide +kernel))), (List.forall_mem_cons.mpr ⟨(lwm_2 (List.mem_of_getElem? (i := 14) (by decide +kernel))), (List.forall_mem_cons.mpr ⟨(lwm_0 (List.mem_of_getElem? (i := 2) (by decide +kernel))), (List.forall_mem_cons.mpr ⟨(lwm_2 (List.mem_of_getElem? (i := 15) (by rfl))), (List.forall_mem_cons.mpr ⟨(lwm_2 (List.mem_of_getElem? (i := 16) (by decide +kernel))), (List.forall_mem_cons.mpr ⟨(lwm_2 (List.mem_of_getElem? (i := 18) (by decide +kernel))), (List.forall_mem_cons.mpr ⟨(lwm_0 (List.mem_of_getElem? (i := 3) (by decide +kernel))), (List.forall_mem_cons.mpr ⟨(lwm_2 (List.mem_of_getElem? (i := 19) (by rfl))), (List.forall_mem_cons.mpr ⟨(lwm_2 (List.mem_of_getElem? (i := 20) (by decide +kernel))), (List.forall_mem_cons.mpr ⟨(lwm_2 (List.mem_of_getElem? (i := 21) (by decide +kernel))), (List.forall_mem_cons.mpr ⟨(lwm_2 (List.mem_of_getElem? (i := 22) (by decide +kernel))), (List.forall_mem_cons.mpr ⟨(lwm_2 (List.mem_of_getElem? (i := 23) (by rfl))), (List.forall_mem_cons.mpr ⟨(lwm_2 (List.mem_of_getElem? (i := 24) (by decide +kernel))), (List.forall_mem_cons.mpr ⟨(lwm_2 (List.mem_of_getElem? (i := 25) (by decide +kernel))), (List.forall_mem_cons.mpr ⟨(lwm_2 (List.mem_of_getElem? (i := 26) (by decide +kernel))), (List.forall_mem_cons.mpr ⟨(lwm_2 (List.mem_of_getElem? (i := 27) (by rfl))), (fun _ h => absurd h List.not_mem_nil)⟩)⟩)⟩)⟩)⟩)⟩)⟩)⟩)⟩)⟩)⟩)⟩)⟩)⟩)⟩)⟩)⟩)⟩)⟩)⟩)⟩)⟩)⟩)⟩)
set_option maxRecDepth 20000 in
theorem lwi_wsL_law_r8 : ∀ w ∈ wsL_law_r8, w ∈ lw_tbl := (List.forall_mem_cons.mpr ⟨(lwm_2 (List.mem_of_getElem? (i := 28) (by decide +kernel))), (List.forall_mem_cons.mpr ⟨(lwm_2 (List.mem_of_getElem? (i := 30) (by decide +kernel))), (List.forall_mem_cons.mpr ⟨(lwm_0 (List.mem_of_getElem? (i := 4) (by decide +kernel))), (List.forall_mem_cons.mpr ⟨(lwm_2 (List.mem_of_getElem? (i := 31) (by rfl))), (List.forall_mem_cons.mpr ⟨(lwm_2 (List.mem_of_getElem? (i := 32) (by decide +kernel))), (List.forall_mem_cons.mpr ⟨(lwm_2 (List.mem_of_getElem? (i := 33) (by decide +kernel))), (List.forall_mem_cons.mpr ⟨(lwm_2 (List.mem_of_getElem? (i := 34) (by rfl))), (List.forall_mem_cons.mpr ⟨(lwm_2 (List.mem_of_getElem? (i := 35) (by decide +kernel))), (List.forall_mem_cons.mpr ⟨(lwm_2 (List.mem_of_getElem? (i := 36) (by decide +kernel))), (List.forall_mem_cons.mpr ⟨(lwm_2 (List.mem_of_getElem? (i := 37) (by decide +kernel))), (List.forall_mem_cons.mpr ⟨(lwm_2 (List.mem_of_getElem? (i := 38) (by rfl))), (List.forall_mem_cons.mpr ⟨(lwm_3 (List.mem_of_getElem? (i := 169) (by decide +kernel))), (List.forall_mem_cons.mpr ⟨(lwm_3 (List.mem_of_getElem? (i := 170) (by decide +kernel))), (List.forall_mem_cons.mpr ⟨(lwm_3 (List.mem_of_getElem? (i := 171) (by decide +kernel))), (List.forall_mem_cons.mpr ⟨(lwm_3 (List.mem_of_getElem? (i := 172) (by rfl))), (List.forall_mem_cons.mpr ⟨(lwm_3 (List.mem_of_getElem? (i := 173) (by decide +kernel))), (List.forall_mem_cons.mpr ⟨(lwm_3 (List.mem_of_getElem? (i := 175) (by decide +kernel))), (List.forall_mem_cons.mpr ⟨(lwm_0 (List.mem_of_getElem? (i := 18) (by decide +kernel))), (List.forall_mem_cons.mpr ⟨(lwm_3 (List.mem_of_getElem? (i := 176) (by rfl))), (List.forall_mem_cons.mpr ⟨(lwm_3 (List.mem_of_getElem? (i := 177) (by decide +kernel))), (List.forall_mem_cons.mpr ⟨(lwm_3 (List.mem_of_getElem? (i := 178) (by decide +kernel))), (List.forall_mem_cons.mpr ⟨(lwm_3 (List.mem_of_getElem? (i := 179) (by rfl))), (List.forall_mem_cons.mpr ⟨(lwm_3 (List.mem_of_getElem? (i := 180) (by decide +kernel))), (List.forall_mem_cons.mpr ⟨(lwm_3 (List.mem_of_getElem? (i := 181) (by decide +kernel))), (fun _ h => absurd h List.not_mem_nil)⟩)⟩)⟩)⟩)⟩)⟩)⟩)⟩)⟩)⟩)⟩)⟩)⟩)⟩)⟩)⟩)⟩)⟩)⟩)⟩)⟩)⟩)⟩)⟩)
set_option maxRecDepth 20000 in
theorem lwi_wsL_law_r9 : ∀ w ∈ wsL_law_r9, w ∈ lw_tbl := (List.forall_mem_cons.mpr ⟨(lwm_3 (List.mem_of_getElem? (i := 182) (by rfl))), (List.forall_mem_cons.mpr ⟨(lwm_3 (List.mem_of_getElem? (i := 183) (by decide +kernel))), (List.forall_mem_cons.mpr ⟨(lwm_3 (List.mem_of_getElem? (i := 185) (by decide +kernel))), (List.forall_mem_cons.mpr ⟨(lwm_0 (List.mem_of_getElem? (i := 19) (by decide +kernel))), (List.forall_mem_cons.mpr ⟨(lwm_3 (List.mem_of_getElem? (i := 186) (by rfl))), (List.forall_mem_cons.mpr ⟨(lwm_3 (List.mem_of_getElem? (i := 187) (by decide +kernel))), (List.forall_mem_cons.mpr ⟨(lwm_3 (List.mem_of_getElem? (i := 189) (by decide +kernel))), (List.forall_mem_cons.mpr ⟨(lwm_0 (List.mem_of_getElem? (i := 20) (by decide +kernel))), (List.forall_mem_cons.mpr ⟨(lwm_3 (List.mem_of_getElem? (i := 190) (by rfl))), (List.forall_mem_cons.mpr ⟨(lwm_3 (List.mem_of_getElem? (i := 191) (by decide +kernel))), (List.forall_mem_cons.mpr ⟨(lwm_3 (List.mem_of_getElem? (i := 193) (by decide +kernel))), (List.forall_mem_cons.mpr ⟨(lwm_0 (List.mem_of_getElem? (i := 21) (by decide +kernel))), (List.forall_mem_cons.mpr ⟨(lwm_3 (List.mem_of_getElem? (i := 194) (by rfl))), (List.forall_mem_cons.mpr ⟨(lwm_3 (List.mem_of_getElem? (i := 195) (by decide +kernel))), (List.forall_mem_cons.mpr ⟨(lwm_3 (List.mem_of_getElem? (i := 197) (by decide +kernel))), (List.forall_mem_cons.mpr ⟨(lwm_0 (List.mem_of_getElem? (i := 22) (by decide +kernel))), (List.forall_mem_cons.mpr ⟨(lwm_3 (List.mem_of_getElem? (i := 198) (by rfl))), (List.forall_mem_cons.mpr ⟨(lwm_3 (List.mem_of_getElem? (i := 131) (by decide +kernel))), (List.forall_mem_cons.mpr ⟨(lwm_3 (List.mem_of_getElem? (i := 199) (by decide +kernel))), (List.forall_mem_cons.mpr ⟨(lwm_3 (List.mem_of_getElem? (i := 200) (by decide +kernel))), (List.forall_mem_cons.mpr ⟨(lwm_3 (List.mem_of_getElem? (i := 201) (by rfl))), (List.forall_mem_cons.mpr ⟨(lwm_3 (List.mem_of_getElem? (i := 202) (by decide +kernel))), (List.forall_mem_cons.mpr ⟨(lwm_3 (List.mem_of_getElem? (i := 204) (by decide +kernel))), (List.forall_mem_cons.mpr ⟨(lwm_0 (List.mem_of_getElem? (i := 23) (by decide +kernel))), (fun _ h => absurd h List.not_mem_nil)⟩)⟩)⟩)⟩)⟩)⟩)⟩)⟩)⟩)⟩)⟩)⟩)⟩)⟩)⟩)⟩)⟩)⟩)⟩)⟩)⟩)⟩)⟩)⟩)
set_option maxRecDepth 20000 in
theorem lwi_wsL_law_r10 : ∀ w ∈ wsL_law_r10, w ∈ lw_tbl := (List.forall_mem_cons.mpr ⟨(lwm_3 (List.mem_of_getElem? (i := 205) (by rfl))), (List.forall_mem_cons.mpr ⟨(lwm_3 (List.mem_of_getElem? (i := 206) (by decide +kernel))), (List.forall_mem_cons.mpr ⟨(lwm_3 (List.mem_of_getElem? (i := 208) (by decide +kernel))), (List.forall_mem_cons.mpr ⟨(lwm_0 (List.mem_of_getElem? (i := 24) (by decide +kernel))), (List.forall_mem_cons.mpr ⟨(lwm_3 (List.mem_of_getElem? (i := 209) (by rfl))), (List.forall_mem_cons.mpr ⟨(lwm_3 (List.mem_of_getElem? (i := 210) (by decide +kernel))), (List.forall_mem_cons.mpr ⟨(lwm_3 (List.mem_of_getElem? (i := 212) (by decide +kernel))), (List.forall_mem_cons.mpr ⟨(lwm_0 (List.mem_of_getElem? (i := 25) (by decide +kernel))), (List.forall_mem_cons.mpr ⟨(lwm_3 (List.mem_of_getElem? (i := 213) (by rfl))), (List.forall_mem_cons.mpr ⟨(lwm_3 (List.mem_of_getElem? (i := 214) (by decide +kernel))), (List.forall_mem_cons.mpr ⟨(lwm_3 (List.mem_of_getElem? (i := 216) (by decide +kernel))), (List.forall_mem_cons.mpr ⟨(lwm_0 (List.mem_of_getElem? (i := 26) (by decide +kernel))), (List.forall_mem_cons.mpr ⟨(lwm_3 (List.mem_of_getElem? (i := 217) (by rfl))), (List.forall_mem_cons.mpr ⟨(lwm_3 (List.mem_of_getElem? (i := 218) (by decide +kernel))), (List.forall_mem_cons.mpr ⟨(lwm_3 (List.mem_of_getElem? (i := 219) (by decide +kernel))), (List.forall_mem_cons.mpr ⟨(lwm_3 (List.mem_of_getElem? (i := 220) (by rfl))), (List.forall_mem_cons.mpr ⟨(lwm_2 (List.mem_of_getElem? (i := 39) (by decide +kernel))), (List.forall_mem_cons.mpr ⟨(lwm_2 (List.mem_of_getElem? (i := 40) (by decide +kernel))), (List.forall_mem_cons.mpr ⟨(lwm_2 (List.mem_of_getElem? (i := 41) (by decide +kernel))), (List.forall_mem_cons.mpr ⟨(lwm_2 (List.mem_of_getElem? (i := 42) (by rfl))), (List.forall_mem_cons.mpr ⟨(lwm_2 (List.mem_of_getElem? (i := 43) (by decide +kernel))), (List.forall_mem_cons.mpr ⟨(lwm_2 (List.mem_of_getElem? (i := 44) (by decide +kernel))), (List.forall_mem_cons.mpr ⟨(lwm_2 (List.mem_of_getElem? (i := 45) (by decide +kernel))), (List.forall_mem_cons.mpr ⟨(lwm_2 (List.mem_of_getElem? (i := 46) (by rfl))), (fun _ h => absurd h List.not_mem_nil)⟩)⟩)⟩)⟩)⟩)⟩)⟩)⟩)⟩)⟩)⟩)⟩)⟩)⟩)⟩)⟩)⟩)⟩)⟩)⟩)⟩)⟩)⟩)⟩)
set_option maxRecDepth 20000 in
theorem lwi_wsL_law_r11 : ∀ w ∈ wsL_law_r11, w ∈ lw_tbl := (List.forall_mem_cons.mpr ⟨(lwm_3 (List.mem_of_getElem? (i := 221) (by decide +kernel))), (List.forall_mem_cons.mpr ⟨(lwm_3 (List.mem_of_getElem? (i := 222) (by decide +kernel))), (List.forall_mem_cons.mpr ⟨(lwm_3 (List.mem_of_getElem? (i := 223) (by decide +kernel))), (List.forall_mem_cons.mpr ⟨(lwm_3 (List.mem_of_getElem? (i := 224) (by rfl))), (List.forall_mem_cons.mpr ⟨(lwm_3 (List.mem_of_getElem? (i := 225) (by decide +kernel))), (List.forall_mem_cons.mpr ⟨(lwm_3 (List.mem_of_getElem? (i := 227) (by decide +kernel))), (List.forall_mem_cons.mpr ⟨(lwm_0 (List.mem_of_getElem? (i := 27) (by decide +kernel))), (List.forall_mem_cons.mpr ⟨(lwm_3 (List.mem_of_getElem? (i := 228) (by rfl))), (List.forall_mem_cons.mpr ⟨(lwm_3 (List.mem_of_getElem? (i := 229) (by decide +kernel))), (List.forall_mem_cons.mpr ⟨(lwm_3 (List.mem_of_getElem? (i := 231) (by decide +kernel))), (List.forall_mem_cons.mpr ⟨(lwm_0 (List.mem_of_getElem? (i := 28) (by decide +kernel))), (List.forall_mem_cons.mpr ⟨(lwm_3 (List.mem_of_getElem? (i := 232) (by rfl))), (List.forall_mem_cons.mpr ⟨(lwm_2 (List.mem_of_getElem? (i := 47) (by decide +kernel))), (List.forall_mem_cons.mpr ⟨(lwm_2 (List.mem_of_getElem? (i := 48) (by decide +kernel))), (List.forall_mem_cons.mpr ⟨(lwm_2 (List.mem_of_getElem? (i := 49) (by decide +kernel))), (List.forall_mem_cons.mpr ⟨(lwm_2 (List.mem_of_getElem? (i := 50) (by rfl))), (List.forall_mem_cons.mpr ⟨(lwm_2 (List.mem_of_getElem? (i := 51) (by decide +kernel))), (List.forall_mem_cons.mpr ⟨(lwm_2 (List.mem_of_getElem? (i := 52) (by decide +kernel))), (List.forall_mem_cons.mpr ⟨(lwm_2 (List.mem_of_getElem? (i := 53) (by decide +kernel))), (List.forall_mem_cons.mpr ⟨(lwm_2 (List.mem_of_getElem? (i := 54) (by rfl))), (List.forall_mem_cons.mpr ⟨(lwm_2 (List.mem_of_getElem? (i := 56) (by decide +kernel))), (List.forall_mem_cons.mpr ⟨(lwm_2 (List.mem_of_getElem? (i := 57) (by rfl))), (List.forall_mem_cons.mpr ⟨(lwm_2 (List.mem_of_getElem? (i := 59) (by decide +kernel))), (List.forall_mem_cons.mpr ⟨(lwm_2 (List.mem_of_getElem? (i := 60) (by rfl))), (fun _ h => absurd h List.not_mem_nil)⟩)⟩)⟩)⟩)⟩)⟩)⟩)⟩)⟩)⟩)⟩)⟩)⟩)⟩)⟩)⟩)⟩)⟩)⟩)⟩)⟩)⟩)⟩)⟩)
set_option maxRecDepth 20000 in
theorem lwi_wsL_law_r12 : ∀ w ∈ wsL_law_r12, w ∈ lw_tbl := (List.forall_mem_cons.mpr ⟨(lwm_2 (List.mem_of_getElem? (i := 61) (by decide +kernel))), (List.forall_mem_cons.mpr ⟨(lwm_2 (List.mem_of_getElem? (i := 62) (by decide +kernel))), (List.forall_mem_cons.mpr ⟨(lwm_2 (List.mem_of_getElem? (i := 63) (by decide +kernel))), (List.forall_mem_cons.mpr ⟨(lwm_2 (List.mem_of_getElem? (i := 64) (by rfl))), (List.forall_mem_cons.mpr ⟨(lwm_2 (List.mem_of_getElem? (i := 65) (by decide +kernel))), (List.forall_mem_cons.mpr ⟨(lwm_2 (List.mem_of_getElem? (i := 66) (by decide +kernel))), (List.forall_mem_cons.mpr ⟨(lwm_2 (List.mem_of_getElem? (i := 67) (by decide +kernel))), (List.forall_mem_cons.mpr ⟨(lwm_2 (List.mem_of_getElem? (i := 68) (by rfl))), (List.forall_mem_cons.mpr ⟨(lwm_2 (List.mem_of_getElem? (i := 69) (by decide +kernel))), (List.forall_mem_cons.mpr ⟨(lwm_2 (List.mem_of_getElem? (i := 70) (by decide +kernel))), (List.forall_mem_cons.mpr ⟨(lwm_2 (List.mem_of_getElem? (i := 71) (by decide +kernel))), (List.forall_mem_cons.mpr ⟨(lwm_2 (List.mem_of_getElem? (i := 72) (by rfl))), (List.forall_mem_cons.mpr ⟨(lwm_2 (List.mem_of_getElem? (i := 73) (by decide +kernel))), (List.forall_mem_cons.mpr ⟨(lwm_2 (List.mem_of_getElem? (i := 74) (by decide +kernel))), (List.forall_mem_cons.mpr ⟨(lwm_2 (List.mem_of_getElem? (i := 75) (by decide +kernel))), (List.forall_mem_cons.mpr ⟨(lwm_2 (List.mem_of_getElem? (i := 76) (by rfl))), (List.forall_mem_cons.mpr ⟨(lwm_3 (List.mem_of_getElem? (i := 233) (by decide +kernel))), (List.forall_mem_cons.mpr ⟨(lwm_3 (List.mem_of_getElem? (i := 234) (by decide +kernel))), (List.forall_mem_cons.mpr ⟨(lwm_3 (List.mem_of_getElem? (i := 235) (by decide +kernel))), (List.forall_mem_cons.mpr ⟨(lwm_3 (List.mem_of_getElem? (i := 236) (by rfl))), (List.forall_mem_cons.mpr ⟨(lwm_3 (List.mem_of_getElem? (i := 237) (by decide +kernel))), (List.forall_mem_cons.mpr ⟨(lwm_3 (List.mem_of_getElem? (i := 239) (by decide +kernel))), (List.forall_mem_cons.mpr ⟨(lwm_0 (List.mem_of_getElem? (i := 29) (by decide +kernel))), (List.forall_mem_cons.mpr ⟨(lwm_4 (List.mem_of_getElem? (i := 0) (by rfl))), (fun _ h => absurd h List.not_mem_nil)⟩)⟩)⟩)⟩)⟩)⟩)⟩)⟩)⟩)⟩)⟩)⟩)⟩)⟩)⟩)⟩)⟩)⟩)⟩)⟩)⟩)⟩)⟩)⟩)
set_option maxRecDepth 20000 in
theorem lwi_wsL_law_r13 : ∀ w ∈ wsL_law_r13, w ∈ lw_tbl := (List.forall_mem_cons.mpr ⟨(lwm_4 (List.mem_of_getElem? (i := 1) (by decide +kernel))), (List.forall_mem_cons.mpr ⟨(lwm_4 (List.mem_of_getElem? (i := 3) (by decide +kernel))), (List.forall_mem_cons.mpr ⟨(lwm_0 (List.mem_of_getElem? (i := 30) (by decide +kernel))), (List.forall_mem_cons.mpr ⟨(lwm_4 (List.mem_of_getElem? (i := 4) (by rfl))), (List.forall_mem_cons.mpr ⟨(lwm_4 (List.mem_of_getElem? (i := 5) (by decide +kernel))), (List.forall_mem_cons.mpr ⟨(lwm_4 (List.mem_of_getElem? (i := 7) (by decide +kernel))), (List.forall_mem_cons.mpr ⟨(lwm_0 (List.mem_of_getElem? (i := 31) (by decide +kernel))), (List.forall_mem_cons.mpr ⟨(lwm_4 (List.mem_of_getElem? (i := 8) (by rfl))), (List.forall_mem_cons.mpr ⟨(lwm_2 (List.mem_of_getElem? (i := 77) (by decide +kernel))), (List.forall_mem_cons.mpr ⟨(lwm_2 (List.mem_of_getElem? (i := 78) (by decide +kernel))), (List.forall_mem_cons.mpr ⟨(lwm_2 (List.mem_of_getElem? (i := 79) (by decide +kernel))), (List.forall_mem_cons.mpr ⟨(lwm_2 (List.mem_of_getElem? (i := 80) (by rfl))), (List.forall_mem_cons.mpr ⟨(lwm_2 (List.mem_of_getElem? (i := 81) (by decide +kernel))), (List.forall_mem_cons.mpr ⟨(lwm_2 (List.mem_of_getElem? (i := 82) (by decide +kernel))), (List.forall_mem_cons.mpr ⟨(lwm_2 (List.mem_of_getElem? (i := 83) (by decide +kernel))), (List.forall_mem_cons.mpr ⟨(lwm_2 (List.mem_of_getElem? (i := 84) (by rfl))), (List.forall_mem_cons.mpr ⟨(lwm_2 (List.mem_of_getElem? (i := 86) (by decide +kernel))), (List.forall_mem_cons.mpr ⟨(lwm_2 (List.mem_of_getElem? (i := 87) (by rfl))), (List.forall_mem_cons.mpr ⟨(lwm_2 (List.mem_of_getElem? (i := 88) (by decide +kernel))), (List.forall_mem_cons.mpr ⟨(lwm_2 (List.mem_of_getElem? (i := 90) (by decide +kernel))), (List.forall_mem_cons.mpr ⟨(lwm_0 (List.mem_of_getElem? (i := 5) (by decide +kernel))), (List.forall_mem_cons.mpr ⟨(lwm_2 (List.mem_of_getElem? (i := 91) (by rfl))), (List.forall_mem_cons.mpr ⟨(lwm_2 (List.mem_of_getElem? (i := 92) (by decide +kernel))), (List.forall_mem_cons.mpr ⟨(lwm_2 (List.mem_of_getElem? (i := 94) (by decide +kernel))), (fun _ h => absurd h List.not_mem_nil)⟩)⟩)⟩)⟩)⟩)⟩)⟩)⟩)⟩)⟩)⟩)⟩)⟩)⟩)⟩)⟩)⟩)⟩)⟩)⟩)⟩)⟩)⟩)⟩)
set_option maxRecDepth 20000 in
theorem lwi_wsL_law_r14 : ∀ w ∈ wsL_law_r14, w ∈ lw_tbl := (List.forall_mem_cons.mpr ⟨(lwm_0 (List.mem_of_getElem? (i := 6) (by decide +kernel))), (List.forall_mem_cons.mpr ⟨(lwm_2 (List.mem_of_getElem? (i := 95) (by rfl))), (List.forall_mem_cons.mpr ⟨(lwm_2 (List.mem_of_getElem? (i := 96) (by decide +kernel))), (List.forall_mem_cons.mpr ⟨(lwm_2 (List.mem_of_getElem? (i := 98) (by decide +kernel))), (List.forall_mem_cons.mpr ⟨(lwm_0 (List.mem_of_getElem? (i := 7) (by decide +kernel))), (List.forall_mem_cons.mpr ⟨(lwm_2 (List.mem_of_getElem? (i := 99) (by rfl))), (List.forall_mem_cons.mpr ⟨(lwm_2 (List.mem_of_getElem? (i := 100) (by decide +kernel))), (List.forall_mem_cons.mpr ⟨(lwm_2 (List.mem_of_getElem? (i := 101) (by decide +kernel))), (List.forall_mem_cons.mpr ⟨(lwm_2 (List.mem_of_getElem? (i := 102) (by decide +kernel))), (List.forall_mem_cons.mpr ⟨(lwm_2 (List.mem_of_getElem? (i := 103) (by rfl))), (List.forall_mem_cons.mpr ⟨(lwm_2 (List.mem_of_getElem? (i := 104) (by decide +kernel))), (List.forall_mem_cons.mpr ⟨(lwm_2 (List.mem_of_getElem? (i := 105) (by decide +kernel))), (List.forall_mem_cons.mpr ⟨(lwm_2 (List.mem_of_getElem? (i := 106) (by decide +kernel))), (List.forall_mem_cons.mpr ⟨(lwm_2 (List.mem_of_getElem? (i := 107) (by rfl))), (List.forall_mem_cons.mpr ⟨(lwm_2 (List.mem_of_getElem? (i := 109) (by decide +kernel))), (List.forall_mem_cons.mpr ⟨(lwm_2 (List.mem_of_getElem? (i := 110) (by rfl))), (List.forall_mem_cons.mpr ⟨(lwm_2 (List.mem_of_getElem? (i := 111) (by decide +kernel))), (List.forall_mem_cons.mpr ⟨(lwm_2 (List.mem_of_getElem? (i := 112) (by decide +kernel))), (List.forall_mem_cons.mpr ⟨(lwm_2 (List.mem_of_getElem? (i := 113) (by decide +kernel))), (List.forall_mem_cons.mpr ⟨(lwm_2 (List.mem_of_getElem? (i := 114) (by rfl))), (List.forall_mem_cons.mpr ⟨(lwm_2 (List.mem_of_getElem? (i := 115) (by decide +kernel))), (List.forall_mem_cons.mpr ⟨(lwm_2 (List.mem_of_getElem? (i := 117) (by decide +kernel))), (List.forall_mem_cons.mpr ⟨(lwm_0 (List.mem_of_getElem? (i := 8) (by decide +kernel))), (List.forall_mem_cons.mpr ⟨(lwm_2 (List.mem_of_getElem? (i := 118) (by rfl))), (fun _ h => absurd h List.not_mem_nil)⟩)⟩)⟩)⟩)⟩)⟩)⟩)⟩)⟩)⟩)⟩)⟩)⟩)⟩)⟩)⟩)⟩)⟩)⟩)⟩)⟩)⟩)⟩)⟩)
set_option maxRecDepth 20000 in
theorem lwi_wsL_law_r15 : ∀ w ∈ wsL_law_r15, w ∈ lw_tbl := (List.forall_mem_cons.mpr ⟨(lwm_2 (List.mem_of_getElem? (i := 119) (by decide +kernel))), (List.forall_mem_cons.mpr ⟨(lwm_2 (List.mem_of_getElem? (i := 120) (by decide +kernel))), (List.forall_mem_cons.mpr ⟨(lwm_2 (List.mem_of_getElem? (i := 121) (by decide +kernel))), (List.forall_mem_cons.mpr ⟨(lwm_2 (List.mem_of_getElem? (i := 122) (by rfl))), (List.forall_mem_cons.mpr ⟨(lwm_2 (List.mem_of_getElem? (i := 124) (by decide +kernel))), (List.forall_mem_cons.mpr ⟨(lwm_2 (List.mem_of_getElem? (i := 125) (by decide +kernel))), (List.forall_mem_cons.mpr ⟨(lwm_4 (List.mem_of_getElem? (i := 9) (by decide +kernel))), (List.forall_mem_cons.mpr ⟨(lwm_4 (List.mem_of_getElem? (i := 10) (by decide +kernel))), (List.forall_mem_cons.mpr ⟨(lwm_4 (List.mem_of_getElem? (i := 11) (by decide +kernel))), (List.forall_mem_cons.mpr ⟨(lwm_4 (List.mem_of_getElem? (i := 12) (by rfl))), (List.forall_mem_cons.mpr ⟨(lwm_4 (List.mem_of_getElem? (i := 13) (by decide +kernel))), (List.forall_mem_cons.mpr ⟨(lwm_4 (List.mem_of_getElem? (i := 15) (by decide +kernel))), (List.forall_mem_cons.mpr ⟨(lwm_0 (List.mem_of_getElem? (i := 32) (by decide +kernel))), (List.forall_mem_cons.mpr ⟨(lwm_4 (List.mem_of_getElem? (i := 16) (by rfl))), (List.forall_mem_cons.mpr ⟨(lwm_4 (List.mem_of_getElem? (i := 17) (by decide +kernel))), (List.forall_mem_cons.mpr ⟨(lwm_4 (List.mem_of_getElem? (i := 19) (by decide +kernel))), (List.forall_mem_cons.mpr ⟨(lwm_0 (List.mem_of_getElem? (i := 33) (by decide +kernel))), (List.forall_mem_cons.mpr ⟨(lwm_4 (List.mem_of_getElem? (i := 20) (by rfl))), (List.forall_mem_cons.mpr ⟨(lwm_4 (List.mem_of_getElem? (i := 21) (by decide +kernel))), (List.forall_mem_cons.mpr ⟨(lwm_4 (List.mem_of_getElem? (i := 23) (by decide +kernel))), (List.forall_mem_cons.mpr ⟨(lwm_0 (List.mem_of_getElem? (i := 34) (by decide +kernel))), (List.forall_mem_cons.mpr ⟨(lwm_4 (List.mem_of_getElem? (i := 24) (by rfl))), (List.forall_mem_cons.mpr ⟨(lwm_4 (List.mem_of_getElem? (i := 25) (by decide +kernel))), (List.forall_mem_cons.mpr ⟨(lwm_4 (List.mem_of_getElem? (i := 26) (by decide +kernel))), (fun _ h => absurd h List.not_mem_nil)⟩)⟩)⟩)⟩)⟩)⟩)⟩)⟩)⟩)⟩)⟩)⟩)⟩)⟩)⟩)⟩)⟩)⟩)⟩)⟩)⟩)⟩)⟩)⟩)
set_option maxRecDepth 20000 in
theorem lwi_wsL_law_r16 : ∀ w ∈ wsL_law_r16, w ∈ lw_tbl := (List.forall_mem_cons.mpr ⟨(lwm_4 (List.mem_of_getElem? (i := 27) (by rfl))), (List.forall_mem_cons.mpr ⟨(lwm_4 (List.mem_of_getElem? (i := 28) (by decide +kernel))), (List.forall_mem_cons.mpr ⟨(lwm_4 (List.mem_of_getElem? (i := 30) (by decide +kernel))), (List.forall_mem_cons.mpr ⟨(lwm_0 (List.mem_of_getElem? (i := 35) (by decide +kernel))), (List.forall_mem_cons.mpr ⟨(lwm_4 (List.mem_of_getElem? (i := 31) (by rfl))), (List.forall_mem_cons.mpr ⟨(lwm_4 (List.mem_of_getElem? (i := 32) (by decide +kernel))), (List.forall_mem_cons.mpr ⟨(lwm_4 (List.mem_of_getElem? (i := 34) (by decide +kernel))), (List.forall_mem_cons.mpr ⟨(lwm_0 (List.mem_of_getElem? (i := 36) (by decide +kernel))), (List.forall_mem_cons.mpr ⟨(lwm_4 (List.mem_of_getElem? (i := 35) (by rfl))), (List.forall_mem_cons.mpr ⟨(lwm_2 (List.mem_of_getElem? (i := 126) (by decide +kernel))), (List.forall_mem_cons.mpr ⟨(lwm_2 (List.mem_of_getElem? (i := 127) (by decide +kernel))), (List.forall_mem_cons.mpr ⟨(lwm_2 (List.mem_of_getElem? (i := 128) (by decide +kernel))), (List.forall_mem_cons.mpr ⟨(lwm_2 (List.mem_of_getElem? (i := 129) (by rfl))), (List.forall_mem_cons.mpr ⟨(lwm_2 (List.mem_of_getElem? (i := 130) (by decide +kernel))), (List.forall_mem_cons.mpr ⟨(lwm_2 (List.mem_of_getElem? (i := 131) (by decide +kernel))), (List.forall_mem_cons.mpr ⟨(lwm_2 (List.mem_of_getElem? (i := 132) (by decide +kernel))), (List.forall_mem_cons.mpr ⟨(lwm_2 (List.mem_of_getElem? (i := 133) (by rfl))), (List.forall_mem_cons.mpr ⟨(lwm_4 (List.mem_of_getElem? (i := 36) (by decide +kernel))), (List.forall_mem_cons.mpr ⟨(lwm_4 (List.mem_of_getElem? (i := 37) (by decide +kernel))), (List.forall_mem_cons.mpr ⟨(lwm_4 (List.mem_of_getElem? (i := 38) (by decide +kernel))), (List.forall_mem_cons.mpr ⟨(lwm_4 (List.mem_of_getElem? (i := 39) (by rfl))), (List.forall_mem_cons.mpr ⟨(lwm_4 (List.mem_of_getElem? (i := 40) (by decide +kernel))), (List.forall_mem_cons.mpr ⟨(lwm_4 (List.mem_of_getElem? (i := 42) (by decide +kernel))), (List.forall_mem_cons.mpr ⟨(lwm_0 (List.mem_of_getElem? (i := 37) (by decide +kernel))), (fun _ h => absurd h List.not_mem_nil)⟩)⟩)⟩)⟩)⟩)⟩)⟩)⟩)⟩)⟩)⟩)⟩)⟩)⟩)⟩)⟩)⟩)⟩)⟩)⟩)⟩)⟩)⟩)⟩)
set_option maxRecDepth 20000 in
theorem lwi_wsL_law_r17 : ∀ w ∈ wsL_law_r17, w ∈ lw_tbl := (List.forall_mem_cons.mpr ⟨(lwm_4 (List.mem_of_getElem? (i := 43) (by rfl))), (List.forall_mem_cons.mpr ⟨(lwm_4 (List.mem_of_getElem? (i := 44) (by decide +kernel))), (List.forall_mem_cons.mpr ⟨(lwm_4 (List.mem_of_getElem? (i := 46) (by decide +kernel))), (List.forall_mem_cons.mpr ⟨(lwm_0 (List.mem_of_getElem? (i := 38) (by decide +kernel))), (List.forall_mem_cons.mpr ⟨(lwm_4 (List.mem_of_getElem? (i := 47) (by rfl))), (List.forall_mem_cons.mpr ⟨(lwm_2 (List.mem_of_getElem? (i := 134) (by decide +kernel))), (List.forall_mem_cons.mpr ⟨(lwm_2 (List.mem_of_getElem? (i := 135) (by decide +kernel))), (List.forall_mem_cons.mpr ⟨(lwm_2 (List.mem_of_getElem? (i := 136) (by decide +kernel))), (List.forall_mem_cons.mpr ⟨(lwm_2 (List.mem_of_getElem? (i := 137) (by rfl))), (List.forall_mem_cons.mpr ⟨(lwm_2 (List.mem_of_getElem? (i := 138) (by decide +kernel))), (List.forall_mem_cons.mpr ⟨(lwm_2 (List.mem_of_getElem? (i := 139) (by decide +kernel))), (List.forall_mem_cons.mpr ⟨(lwm_2 (List.mem_of_getElem? (i := 140) (by decide +kernel))), (List.forall_mem_cons.mpr ⟨(lwm_2 (List.mem_of_getElem? (i := 141) (by rfl))), (List.forall_mem_cons.mpr ⟨(lwm_4 (List.mem_of_getElem? (i := 48) (by decide +kernel))), (List.forall_mem_cons.mpr ⟨(lwm_4 (List.mem_of_getElem? (i := 49) (by decide +kernel))), (List.forall_mem_cons.mpr ⟨(lwm_4 (List.mem_of_getElem? (i := 50) (by decide +kernel))), (List.forall_mem_cons.mpr ⟨(lwm_4 (List.mem_of_getElem? (i := 51) (by rfl))), (List.forall_mem_cons.mpr ⟨(lwm_4 (List.mem_of_getElem? (i := 52) (by decide +kernel))), (List.forall_mem_cons.mpr ⟨(lwm_4 (List.mem_of_getElem? (i := 54) (by decide +kernel))), (List.forall_mem_cons.mpr ⟨(lwm_0 (List.mem_of_getElem? (i := 39) (by decide +kernel))), (List.forall_mem_cons.mpr ⟨(lwm_4 (List.mem_of_getElem? (i := 55) (by rfl))), (List.forall_mem_cons.mpr ⟨(lwm_2 (List.mem_of_getElem? (i := 142) (by decide +kernel))), (List.forall_mem_cons.mpr ⟨(lwm_2 (List.mem_of_getElem? (i := 143) (by decide +kernel))), (List.forall_mem_cons.mpr ⟨(lwm_2 (List.mem_of_getElem? (i := 144) (by decide +kernel))), (fun _ h => absurd h List.not_mem_nil)⟩)⟩)⟩)⟩)⟩)⟩)⟩)⟩)⟩)⟩)⟩)⟩)⟩)⟩)⟩)⟩)⟩)⟩)⟩)⟩)⟩)⟩)⟩)⟩)
set_option maxRecDepth 20000 in
theorem lwi_wsL_law_r18 : ∀ w ∈ wsL_law_r18, w ∈ lw_tbl := (List.forall_mem_cons.mpr ⟨(lwm_2 (List.mem_of_getElem? (i := 145) (by rfl))), (List.forall_mem_cons.mpr ⟨(lwm_2 (List.mem_of_getElem? (i := 146) (by decide +kernel))), (List.forall_mem_cons.mpr ⟨(lwm_2 (List.mem_of_getElem? (i := 147) (by decide +kernel))), (List.forall_mem_cons.mpr ⟨(lwm_2 (List.mem_of_getElem? (i := 148) (by decide +kernel))), (List.forall_mem_cons.mpr ⟨(lwm_2 (List.mem_of_getElem? (i := 149) (by rfl))), (List.forall_mem_cons.mpr ⟨(lwm_4 (List.mem_of_getElem? (i := 56) (by decide +kernel))), (List.forall_mem_cons.mpr ⟨(lwm_4 (List.mem_of_getElem? (i := 57) (by decide +kernel))), (List.forall_mem_cons.mpr ⟨(lwm_4 (List.mem_of_getElem? (i := 58) (by decide +kernel))), (List.forall_mem_cons.mpr ⟨(lwm_4 (List.mem_of_getElem? (i := 59) (by rfl))), (List.forall_mem_cons.mpr ⟨(lwm_4 (List.mem_of_getElem? (i := 60) (by decide +kernel))), (List.forall_mem_cons.mpr ⟨(lwm_4 (List.mem_of_getElem? (i := 62) (by decide +kernel))), (List.forall_mem_cons.mpr ⟨(lwm_0 (List.mem_of_getElem? (i := 40) (by decide +kernel))), (List.forall_mem_cons.mpr ⟨(lwm_4 (List.mem_of_getElem? (i := 63) (by rfl))), (List.forall_mem_cons.mpr ⟨(lwm_4 (List.mem_of_getElem? (i := 64) (by decide +kernel))), (List.forall_mem_cons.mpr ⟨(lwm_4 (List.mem_of_getElem? (i := 66) (by decide +kernel))), (List.forall_mem_cons.mpr ⟨(lwm_0 (List.mem_of_getElem? (i := 41) (by decide +kernel))), (List.forall_mem_cons.mpr ⟨(lwm_4 (List.mem_of_getElem? (i := 67) (by rfl))), (List.forall_mem_cons.mpr ⟨(lwm_2 (List.mem_of_getElem? (i := 150) (by decide +kernel))), (List.forall_mem_cons.mpr ⟨(lwm_2 (List.mem_of_getElem? (i := 151) (by decide +kernel))), (List.forall_mem_cons.mpr ⟨(lwm_2 (List.mem_of_getElem? (i := 152) (by decide +kernel))), (List.forall_mem_cons.mpr ⟨(lwm_2 (List.mem_of_getElem? (i := 153) (by rfl))), (List.forall_mem_cons.mpr ⟨(lwm_2 (List.mem_of_getElem? (i := 154) (by decide +kernel))), (List.forall_mem_cons.mpr ⟨(lwm_2 (List.mem_of_getElem? (i := 155) (by decide +kernel))), (List.forall_mem_cons.mpr ⟨(lwm_2 (List.mem_of_getElem? (i := 156) (by decide +kernel))), (fun _ h => absurd h List.not_mem_nil)⟩)⟩)⟩)⟩)⟩)⟩)⟩)⟩)⟩)⟩)⟩)⟩)⟩)⟩)⟩)⟩)⟩)⟩)⟩)⟩)⟩)⟩)⟩)⟩)
set_option maxRecDepth 20000 in
theorem lwi_wsL_law_r19 : ∀ w ∈ wsL_law_r19, w ∈ lw_tbl := (List.forall_mem_cons.mpr ⟨(lwm_2 (List.mem_of_getElem? (i := 157) (by rfl))), (List.forall_mem_cons.mpr ⟨(lwm_4 (List.mem_of_getElem? (i := 68) (by decide +kernel))), (List.forall_mem_cons.mpr ⟨(lwm_4 (List.mem_of_getElem? (i := 69) (by decide +kernel))), (List.forall_mem_cons.mpr ⟨(lwm_4 (List.mem_of_getElem? (i := 70) (by decide +kernel))), (List.forall_mem_cons.mpr ⟨(lwm_4 (List.mem_of_getElem? (i := 71) (by rfl))), (List.forall_mem_cons.mpr ⟨(lwm_4 (List.mem_of_getElem? (i := 72) (by decide +kernel))), (List.forall_mem_cons.mpr ⟨(lwm_4 (List.mem_of_getElem? (i := 74) (by decide +kernel))), (List.forall_mem_cons.mpr ⟨(lwm_0 (List.mem_of_getElem? (i := 42) (by decide +kernel))), (List.forall_mem_cons.mpr ⟨(lwm_4 (List.mem_of_getElem? (i := 75) (by rfl))), (List.forall_mem_cons.mpr ⟨(lwm_2 (List.mem_of_getElem? (i := 158) (by decide +kernel))), (List.forall_mem_cons.mpr ⟨(lwm_2 (List.mem_of_getElem? (i := 159) (by decide +kernel))), (List.forall_mem_cons.mpr ⟨(lwm_2 (List.mem_of_getElem? (i := 160) (by decide +kernel))), (List.forall_mem_cons.mpr ⟨(lwm_2 (List.mem_of_getElem? (i := 161) (by rfl))), (List.forall_mem_cons.mpr ⟨(lwm_2 (List.mem_of_getElem? (i := 162) (by decide +kernel))), (List.forall_mem_cons.mpr ⟨(lwm_2 (List.mem_of_getElem? (i := 163) (by decide +kernel))), (List.forall_mem_cons.mpr ⟨(lwm_2 (List.mem_of_getElem? (i := 164) (by decide +kernel))), (List.forall_mem_cons.mpr ⟨(lwm_2 (List.mem_of_getElem? (i := 165) (by rfl))), (List.forall_mem_cons.mpr ⟨(lwm_2 (List.mem_of_getElem? (i := 167) (by decide +kernel))), (List.forall_mem_cons.mpr ⟨(lwm_2 (List.mem_of_getElem? (i := 168) (by rfl))), (List.forall_mem_cons.mpr ⟨(lwm_4 (List.mem_of_getElem? (i := 76) (by decide +kernel))), (List.forall_mem_cons.mpr ⟨(lwm_4 (List.mem_of_getElem? (i := 77) (by decide +kernel))), (List.forall_mem_cons.mpr ⟨(lwm_4 (List.mem_of_getElem? (i := 78) (by decide +kernel))), (List.forall_mem_cons.mpr ⟨(lwm_4 (List.mem_of_getElem? (i := 79) (by rfl))), (List.forall_mem_cons.mpr ⟨(lwm_4 (List.mem_of_getElem? (i := 80) (by decide +kernel))), (fun _ h => absurd h List.not_mem_nil)⟩)⟩)⟩)⟩)⟩)⟩)⟩)⟩)⟩)⟩)⟩)⟩)⟩)⟩)⟩)⟩)⟩)⟩)⟩)⟩)⟩)⟩)⟩)⟩)
set_option maxRecDepth 20000 in
theorem lwi_wsL_law_r20 : ∀ w ∈ wsL_law_r20, w ∈ lw_tbl := (List.forall_mem_cons.mpr ⟨(lwm_4 (List.mem_of_getElem? (i := 81) (by decide +kernel))), (List.forall_mem_cons.mpr ⟨(lwm_4 (List.mem_of_getElem? (i := 82) (by rfl))), (List.forall_mem_cons.mpr ⟨(lwm_2 (List.mem_of_getElem? (i := 174) (by decide +kernel))), (List.forall_mem_cons.mpr ⟨(lwm_2 (List.mem_of_getElem? (i := 175) (by decide +kernel))), (List.forall_mem_cons.mpr ⟨(lwm_2 (List.mem_of_getElem? (i := 176) (by decide +kernel))), (List.forall_mem_cons.mpr ⟨(lwm_2 (List.mem_of_getElem? (i := 177) (by rfl))), (List.forall_mem_cons.mpr ⟨(lwm_2 (List.mem_of_getElem? (i := 178) (by decide +kernel))), (List.forall_mem_cons.mpr ⟨(lwm_2 (List.mem_of_getElem? (i := 179) (by decide +kernel))), (List.forall_mem_cons.mpr ⟨(lwm_2 (List.mem_of_getElem? (i := 180) (by decide +kernel))), (List.forall_mem_cons.mpr ⟨(lwm_2 (List.mem_of_getElem? (i := 181) (by rfl))), (List.forall_mem_cons.mpr ⟨(lwm_1 (List.mem_of_getElem? (i := 150) (by decide +kernel))), (List.forall_mem_cons.mpr ⟨(lwm_4 (List.mem_of_getElem? (i := 83) (by decide +kernel))), (List.forall_mem_cons.mpr ⟨(lwm_4 (List.mem_of_getElem? (i := 84) (by decide +kernel))), (List.forall_mem_cons.mpr ⟨(lwm_4 (List.mem_of_getElem? (i := 85) (by decide +kernel))), (List.forall_mem_cons.mpr ⟨(lwm_4 (List.mem_of_getElem? (i := 86) (by rfl))), (List.forall_mem_cons.mpr ⟨(lwm_3 (List.mem_of_getElem? (i := 136) (by decide +kernel))), (List.forall_mem_cons.mpr ⟨(lwm_2 (List.mem_of_getElem? (i := 183) (by decide +kernel))), (List.forall_mem_cons.mpr ⟨(lwm_2 (List.mem_of_getElem? (i := 184) (by decide +kernel))), (List.forall_mem_cons.mpr ⟨(lwm_2 (List.mem_of_getElem? (i := 185) (by decide +kernel))), (List.forall_mem_cons.mpr ⟨(lwm_2 (List.mem_of_getElem? (i := 186) (by rfl))), (List.forall_mem_cons.mpr ⟨(lwm_2 (List.mem_of_getElem? (i := 187) (by decide +kernel))), (List.forall_mem_cons.mpr ⟨(lwm_2 (List.mem_of_getElem? (i := 188) (by decide +kernel))), (List.forall_mem_cons.mpr ⟨(lwm_2 (List.mem_of_getElem? (i := 189) (by decide +kernel))), (List.forall_mem_cons.mpr ⟨(lwm_2 (List.mem_of_getElem? (i := 190) (by rfl))), (fun _ h => absurd h List.not_mem_nil)⟩)⟩)⟩)⟩)⟩)⟩)⟩)⟩)⟩)⟩)⟩)⟩)⟩)⟩)⟩)⟩)⟩)⟩)⟩)⟩)⟩)⟩)⟩)⟩)
set_option maxRecDepth 20000 in
theorem lwi_wsL_law_r21 : ∀ w ∈ wsL_law_r21, w ∈ lw_tbl := (List.forall_mem_cons.mpr ⟨(lwm_4 (List.mem_of_getElem? (i := 87) (by decide +kernel))), (List.forall_mem_cons.mpr ⟨(lwm_4 (List.mem_of_getElem? (i := 88) (by decide +kernel))), (List.forall_mem_cons.mpr ⟨(lwm_4 (List.mem_of_getElem? (i := 89) (by decide +kernel))), (List.forall_mem_cons.mpr ⟨(lwm_4 (List.mem_of_getElem? (i := 90) (by rfl))), (List.forall_mem_cons.mpr ⟨(lwm_2 (List.mem_of_getElem? (i := 191) (by decide +kernel))), (List.forall_mem_cons.mpr ⟨(lwm_2 (List.mem_of_getElem? (i := 192) (by decide +kernel))), (List.forall_mem_cons.mpr ⟨(lwm_2 (List.mem_of_getElem? (i := 193) (by decide +kernel))), (List.forall_mem_cons.mpr ⟨(lwm_2 (List.mem_of_getElem? (i := 194) (by rfl))), (List.forall_mem_cons.mpr ⟨(lwm_2 (List.mem_of_getElem? (i := 195) (by decide +kernel))), (List.forall_mem_cons.mpr ⟨(lwm_2 (List.mem_of_getElem? (i := 196) (by decide +kernel))), (List.forall_mem_cons.mpr ⟨(lwm_2 (List.mem_of_getElem? (i := 197) (by decide +kernel))), (List.forall_mem_cons.mpr ⟨(lwm_2 (List.mem_of_getElem? (i := 198) (by rfl))), (List.forall_mem_cons.mpr ⟨(lwm_1 (List.mem_of_getElem? (i := 151) (by decide +kernel))), (List.forall_mem_cons.mpr ⟨(lwm_2 (List.mem_of_getElem? (i := 199) (by decide +kernel))), (List.forall_mem_cons.mpr ⟨(lwm_2 (List.mem_of_getElem? (i := 200) (by decide +kernel))), (List.forall_mem_cons.mpr ⟨(lwm_2 (List.mem_of_getElem? (i := 201) (by decide +kernel))), (List.forall_mem_cons.mpr ⟨(lwm_2 (List.mem_of_getElem? (i := 202) (by rfl))), (List.forall_mem_cons.mpr ⟨(lwm_2 (List.mem_of_getElem? (i := 203) (by decide +kernel))), (List.forall_mem_cons.mpr ⟨(lwm_2 (List.mem_of_getElem? (i := 204) (by decide +kernel))), (List.forall_mem_cons.mpr ⟨(lwm_2 (List.mem_of_getElem? (i := 205) (by decide +kernel))), (List.forall_mem_cons.mpr ⟨(lwm_2 (List.mem_of_getElem? (i := 206) (by rfl))), (List.forall_mem_cons.mpr ⟨(lwm_1 (List.mem_of_getElem? (i := 153) (by decide +kernel))), (List.forall_mem_cons.mpr ⟨(lwm_1 (List.mem_of_getElem? (i := 155) (by decide +kernel))), (List.forall_mem_cons.mpr ⟨(lwm_2 (List.mem_of_getElem? (i := 207) (by decide +kernel))), (fun _ h => absurd h List.not_mem_nil)⟩)⟩)⟩)⟩)⟩)⟩)⟩)⟩)⟩)⟩)⟩)⟩)⟩)⟩)⟩)⟩)⟩)⟩)⟩)⟩)⟩)⟩)⟩)⟩)
set_option maxRecDepth 20000 in
theorem lwi_wsL_law_r22 : ∀ w ∈ wsL_law_r22, w ∈ lw_tbl := (List.forall_mem_cons.mpr ⟨(lwm_2 (List.mem_of_getElem? (i := 209) (by decide +kernel))), (List.forall_mem_cons.mpr ⟨(lwm_0 (List.mem_of_getElem? (i := 9) (by decide +kernel))), (List.forall_mem_cons.mpr ⟨(lwm_2 (List.mem_of_getElem? (i := 210) (by rfl))), (List.forall_mem_cons.mpr ⟨(lwm_2 (List.mem_of_getElem? (i := 211) (by decide +kernel))), (List.forall_mem_cons.mpr ⟨(lwm_2 (List.mem_of_getElem? (i := 213) (by decide +kernel))), (List.forall_mem_cons.mpr ⟨(lwm_0 (List.mem_of_getElem? (i := 10) (by decide +kernel))), (List.forall_mem_cons.mpr ⟨(lwm_2 (List.mem_of_getElem? (i := 214) (by rfl))), (List.forall_mem_cons.mpr ⟨(lwm_1 (List.mem_of_getElem? (i := 152) (by decide +kernel))), (List.forall_mem_cons.mpr ⟨(lwm_2 (List.mem_of_getElem? (i := 215) (by decide +kernel))), (List.forall_mem_cons.mpr ⟨(lwm_2 (List.mem_of_getElem? (i := 217) (by decide +kernel))), (List.forall_mem_cons.mpr ⟨(lwm_0 (List.mem_of_getElem? (i := 11) (by decide +kernel))), (List.forall_mem_cons.mpr ⟨(lwm_2 (List.mem_of_getElem? (i := 218) (by rfl))), (List.forall_mem_cons.mpr ⟨(lwm_2 (List.mem_of_getElem? (i := 219) (by decide +kernel))), (List.forall_mem_cons.mpr ⟨(lwm_2 (List.mem_of_getElem? (i := 221) (by decide +kernel))), (List.forall_mem_cons.mpr ⟨(lwm_0 (List.mem_of_getElem? (i := 12) (by decide +kernel))), (List.forall_mem_cons.mpr ⟨(lwm_2 (List.mem_of_getElem? (i := 222) (by rfl))), (List.forall_mem_cons.mpr ⟨(lwm_2 (List.mem_of_getElem? (i := 223) (by decide +kernel))), (List.forall_mem_cons.mpr ⟨(lwm_2 (List.mem_of_getElem? (i := 224) (by decide +kernel))), (List.forall_mem_cons.mpr ⟨(lwm_2 (List.mem_of_getElem? (i := 225) (by decide +kernel))), (List.forall_mem_cons.mpr ⟨(lwm_2 (List.mem_of_getElem? (i := 226) (by rfl))), (List.forall_mem_cons.mpr ⟨(lwm_2 (List.mem_of_getElem? (i := 227) (by decide +kernel))), (List.forall_mem_cons.mpr ⟨(lwm_2 (List.mem_of_getElem? (i := 229) (by decide +kernel))), (List.forall_mem_cons.mpr ⟨(lwm_0 (List.mem_of_getElem? (i := 13) (by decide +kernel))), (List.forall_mem_cons.mpr ⟨(lwm_2 (List.mem_of_getElem? (i := 230) (by rfl))), (fun _ h => absurd h List.not_mem_nil)⟩)⟩)⟩)⟩)⟩)⟩)⟩)⟩)⟩)⟩)⟩)⟩)⟩)⟩)⟩)⟩)⟩)⟩)⟩)⟩)⟩)⟩)⟩)⟩)
set_option maxRecDepth 20000 in
theorem lwi_wsL_law_r23 : ∀ w ∈ wsL_law_r23, w ∈ lw_tbl := (List.forall_mem_cons.mpr ⟨(lwm_1 (List.mem_of_getElem? (i := 157) (by decide +kernel))), (List.forall_mem_cons.mpr ⟨(lwm_4 (List.mem_of_getElem? (i := 91) (by decide +kernel))), (List.forall_mem_cons.mpr ⟨(lwm_4 (List.mem_of_getElem? (i := 92) (by decide +kernel))), (List.forall_mem_cons.mpr ⟨(lwm_4 (List.mem_of_getElem? (i := 93) (by decide +kernel))), (List.forall_mem_cons.mpr ⟨(lwm_4 (List.mem_of_getElem? (i := 94) (by rfl))), (List.forall_mem_cons.mpr ⟨(lwm_3 (List.mem_of_getElem? (i := 137) (by decide +kernel))), (List.forall_mem_cons.mpr ⟨(lwm_4 (List.mem_of_getElem? (i := 95) (by decide +kernel))), (List.forall_mem_cons.mpr ⟨(lwm_4 (List.mem_of_getElem? (i := 97) (by decide +kernel))), (List.forall_mem_cons.mpr ⟨(lwm_0 (List.mem_of_getElem? (i := 43) (by decide +kernel))), (List.forall_mem_cons.mpr ⟨(lwm_4 (List.mem_of_getElem? (i := 98) (by rfl))), (List.forall_mem_cons.mpr ⟨(lwm_3 (List.mem_of_getElem? (i := 141) (by decide +kernel))), (List.forall_mem_cons.mpr ⟨(lwm_4 (List.mem_of_getElem? (i := 99) (by decide +kernel))), (List.forall_mem_cons.mpr ⟨(lwm_4 (List.mem_of_getElem? (i := 101) (by decide +kernel))), (List.forall_mem_cons.mpr ⟨(lwm_0 (List.mem_of_getElem? (i := 44) (by decide +kernel))), (List.forall_mem_cons.mpr ⟨(lwm_4 (List.mem_of_getElem? (i := 102) (by rfl))), (List.forall_mem_cons.mpr ⟨(lwm_3 (List.mem_of_getElem? (i := 138) (by decide +kernel))), (List.forall_mem_cons.mpr ⟨(lwm_3 (List.mem_of_getElem? (i := 139) (by decide +kernel))), (List.forall_mem_cons.mpr ⟨(lwm_3 (List.mem_of_getElem? (i := 140) (by decide +kernel))), (List.forall_mem_cons.mpr ⟨(lwm_4 (List.mem_of_getElem? (i := 103) (by decide +kernel))), (List.forall_mem_cons.mpr ⟨(lwm_4 (List.mem_of_getElem? (i := 105) (by decide +kernel))), (List.forall_mem_cons.mpr ⟨(lwm_0 (List.mem_of_getElem? (i := 45) (by decide +kernel))), (List.forall_mem_cons.mpr ⟨(lwm_4 (List.mem_of_getElem? (i := 106) (by rfl))), (List.forall_mem_cons.mpr ⟨(lwm_4 (List.mem_of_getElem? (i := 107) (by decide +kernel))), (List.forall_mem_cons.mpr ⟨(lwm_4 (List.mem_of_getElem? (i := 109) (by decide +kernel))), (fun _ h => absurd h List.not_mem_nil)⟩)⟩)⟩)⟩)⟩)⟩)⟩)⟩)⟩)⟩)⟩)⟩)⟩)⟩)⟩)⟩)⟩)⟩)⟩)⟩)⟩)⟩)⟩)⟩)
set_option maxRecDepth 20000 in
theorem lwi_wsL_law_r24 : ∀ w ∈ wsL_law_r24, w ∈ lw_tbl := (List.forall_mem_cons.mpr ⟨(lwm_0 (List.mem_of_getElem? (i := 46) (by decide +kernel))), (List.forall_mem_cons.mpr ⟨(lwm_4 (List.mem_of_getElem? (i := 110) (by rfl))), (List.forall_mem_cons.mpr ⟨(lwm_4 (List.mem_of_getElem? (i := 111) (by decide +kernel))), (List.forall_mem_cons.mpr ⟨(lwm_4 (List.mem_of_getElem? (i := 113) (by decide +kernel))), (List.forall_mem_cons.mpr ⟨(lwm_0 (List.mem_of_getElem? (i := 47) (by decide +kernel))), (List.forall_mem_cons.mpr ⟨(lwm_4 (List.mem_of_getElem? (i := 114) (by rfl))), (List.forall_mem_cons.mpr ⟨(lwm_4 (List.mem_of_getElem? (i := 115) (by decide +kernel))), (List.forall_mem_cons.mpr ⟨(lwm_4 (List.mem_of_getElem? (i := 117) (by decide +kernel))), (List.forall_mem_cons.mpr ⟨(lwm_0 (List.mem_of_getElem? (i := 48) (by decide +kernel))), (List.forall_mem_cons.mpr ⟨(lwm_4 (List.mem_of_getElem? (i := 118) (by rfl))), (List.forall_mem_cons.mpr ⟨(lwm_4 (List.mem_of_getElem? (i := 119) (by decide +kernel))), (List.forall_mem_cons.mpr ⟨(lwm_4 (List.mem_of_getElem? (i := 121) (by decide +kernel))), (List.forall_mem_cons.mpr ⟨(lwm_0 (List.mem_of_getElem? (i := 49) (by decide +kernel))), (List.forall_mem_cons.mpr ⟨(lwm_4 (List.mem_of_getElem? (i := 122) (by rfl))), (List.forall_mem_cons.mpr ⟨(lwm_2 (List.mem_of_getElem? (i := 231) (by decide +kernel))), (List.forall_mem_cons.mpr ⟨(lwm_2 (List.mem_of_getElem? (i := 232) (by decide +kernel))), (List.forall_mem_cons.mpr ⟨(lwm_2 (List.mem_of_getElem? (i := 233) (by decide +kernel))), (List.forall_mem_cons.mpr ⟨(lwm_2 (List.mem_of_getElem? (i := 234) (by rfl))), (List.forall_mem_cons.mpr ⟨(lwm_2 (List.mem_of_getElem? (i := 235) (by decide +kernel))), (List.forall_mem_cons.mpr ⟨(lwm_2 (List.mem_of_getElem? (i := 236) (by decide +kernel))), (List.forall_mem_cons.mpr ⟨(lwm_2 (List.mem_of_getElem? (i := 237) (by decide +kernel))), (List.forall_mem_cons.mpr ⟨(lwm_2 (List.mem_of_getElem? (i := 239) (by decide +kernel))), (List.forall_mem_cons.mpr ⟨(lwm_0 (List.mem_of_getElem? (i := 14) (by decide +kernel))), (List.forall_mem_cons.mpr ⟨(lwm_3 (List.mem_of_getElem? (i := 0) (by rfl))), (fun _ h => absurd h List.not_mem_nil)⟩)⟩)⟩)⟩)⟩)⟩)⟩)⟩)⟩)⟩)⟩)⟩)⟩)⟩)⟩)⟩)⟩)⟩)⟩)⟩)⟩)⟩)⟩)⟩)
set_option maxRecDepth 20000 in
theorem lwi_wsL_law_r25 : ∀ w ∈ wsL_law_r25, w ∈ lw_tbl := (List.forall_mem_cons.mpr ⟨(lwm_3 (List.mem_of_getElem? (i := 1) (by decide +kernel))), (List.forall_mem_cons.mpr ⟨(lwm_4 (List.mem_of_getElem? (i := 123) (by decide +kernel))), (List.forall_mem_cons.mpr ⟨(lwm_4 (List.mem_of_getElem? (i := 124) (by decide +kernel))), (List.forall_mem_cons.mpr ⟨(lwm_4 (List.mem_of_getElem? (i := 125) (by decide +kernel))), (List.forall_mem_cons.mpr ⟨(lwm_4 (List.mem_of_getElem? (i := 126) (by rfl))), (List.forall_mem_cons.mpr ⟨(lwm_3 (List.mem_of_getElem? (i := 2) (by decide +kernel))), (List.forall_mem_cons.mpr ⟨(lwm_3 (List.mem_of_getElem? (i := 3) (by decide +kernel))), (List.forall_mem_cons.mpr ⟨(lwm_3 (List.mem_of_getElem? (i := 4) (by decide +kernel))), (List.forall_mem_cons.mpr ⟨(lwm_3 (List.mem_of_getElem? (i := 5) (by rfl))), (List.forall_mem_cons.mpr ⟨(lwm_3 (List.mem_of_getElem? (i := 6) (by decide +kernel))), (List.forall_mem_cons.mpr ⟨(lwm_3 (List.mem_of_getElem? (i := 7) (by decide +kernel))), (List.forall_mem_cons.mpr ⟨(lwm_3 (List.mem_of_getElem? (i := 8) (by decide +kernel))), (List.forall_mem_cons.mpr ⟨(lwm_3 (List.mem_of_getElem? (i := 9) (by rfl))), (List.forall_mem_cons.mpr ⟨(lwm_4 (List.mem_of_getElem? (i := 127) (by decide +kernel))), (List.forall_mem_cons.mpr ⟨(lwm_4 (List.mem_of_getElem? (i := 128) (by decide +kernel))), (List.forall_mem_cons.mpr ⟨(lwm_4 (List.mem_of_getElem? (i := 129) (by decide +kernel))), (List.forall_mem_cons.mpr ⟨(lwm_4 (List.mem_of_getElem? (i := 130) (by rfl))), (List.forall_mem_cons.mpr ⟨(lwm_3 (List.mem_of_getElem? (i := 10) (by decide +kernel))), (List.forall_mem_cons.mpr ⟨(lwm_3 (List.mem_of_getElem? (i := 11) (by decide +kernel))), (List.forall_mem_cons.mpr ⟨(lwm_3 (List.mem_of_getElem? (i := 12) (by decide +kernel))), (List.forall_mem_cons.mpr ⟨(lwm_3 (List.mem_of_getElem? (i := 13) (by rfl))), (List.forall_mem_cons.mpr ⟨(lwm_1 (List.mem_of_getElem? (i := 179) (by decide +kernel))), (List.forall_mem_cons.mpr ⟨(lwm_3 (List.mem_of_getElem? (i := 14) (by decide +kernel))), (List.forall_mem_cons.mpr ⟨(lwm_3 (List.mem_of_getElem? (i := 15) (by decide +kernel))), (fun _ h => absurd h List.not_mem_nil)⟩)⟩)⟩)⟩)⟩)⟩)⟩)⟩)⟩)⟩)⟩)⟩)⟩)⟩)⟩)⟩)⟩)⟩)⟩)⟩)⟩)⟩)⟩)⟩)
set_option maxRecDepth 20000 in
theorem lwi_wsL_law_r26 : ∀ w ∈ wsL_law_r26, w ∈ lw_tbl := (List.forall_mem_cons.mpr ⟨(lwm_4 (List.mem_of_getElem? (i := 131) (by decide +kernel))), (List.forall_mem_cons.mpr ⟨(lwm_4 (List.mem_of_getElem? (i := 132) (by decide +kernel))), (List.forall_mem_cons.mpr ⟨(lwm_4 (List.mem_of_getElem? (i := 133) (by decide +kernel))), (List.forall_mem_cons.mpr ⟨(lwm_4 (List.mem_of_getElem? (i := 134) (by rfl))), (List.forall_mem_cons.mpr ⟨(lwm_3 (List.mem_of_getElem? (i := 133) (by decide +kernel))), (List.forall_mem_cons.mpr ⟨(lwm_3 (List.mem_of_getElem? (i := 16) (by decide +kernel))), (List.forall_mem_cons.mpr ⟨(lwm_3 (List.mem_of_getElem? (i := 17) (by decide +kernel))), (List.forall_mem_cons.mpr ⟨(lwm_3 (List.mem_of_getElem? (i := 18) (by decide +kernel))), (List.forall_mem_cons.mpr ⟨(lwm_3 (List.mem_of_getElem? (i := 19) (by rfl))), (List.forall_mem_cons.mpr ⟨(lwm_4 (List.mem_of_getElem? (i := 135) (by decide +kernel))), (List.forall_mem_cons.mpr ⟨(lwm_4 (List.mem_of_getElem? (i := 136) (by decide +kernel))), (List.forall_mem_cons.mpr ⟨(lwm_4 (List.mem_of_getElem? (i := 137) (by decide +kernel))), (List.forall_mem_cons.mpr ⟨(lwm_4 (List.mem_of_getElem? (i := 138) (by rfl))), (List.forall_mem_cons.mpr ⟨(lwm_3 (List.mem_of_getElem? (i := 20) (by decide +kernel))), (List.forall_mem_cons.mpr ⟨(lwm_3 (List.mem_of_getElem? (i := 21) (by decide +kernel))), (List.forall_mem_cons.mpr ⟨(lwm_3 (List.mem_of_getElem? (i := 22) (by decide +kernel))), (List.forall_mem_cons.mpr ⟨(lwm_3 (List.mem_of_getElem? (i := 23) (by rfl))), (List.forall_mem_cons.mpr ⟨(lwm_3 (List.mem_of_getElem? (i := 24) (by decide +kernel))), (List.forall_mem_cons.mpr ⟨(lwm_3 (List.mem_of_getElem? (i := 25) (by decide +kernel))), (List.forall_mem_cons.mpr ⟨(lwm_3 (List.mem_of_getElem? (i := 26) (by decide +kernel))), (List.forall_mem_cons.mpr ⟨(lwm_3 (List.mem_of_getElem? (i := 27) (by rfl))), (List.forall_mem_cons.mpr ⟨(lwm_3 (List.mem_of_getElem? (i := 28) (by decide +kernel))), (List.forall_mem_cons.mpr ⟨(lwm_3 (List.mem_of_getElem? (i := 29) (by decide +kernel))), (List.forall_mem_cons.mpr ⟨(lwm_3 (List.mem_of_getElem? (i := 30) (by decide +kernel))), (fun _ h => absurd h List.not_mem_nil)⟩)⟩)⟩)⟩)⟩)⟩)⟩)⟩)⟩)⟩)⟩)⟩)⟩)⟩)⟩)⟩)⟩)⟩)⟩)⟩)⟩)⟩)⟩)⟩)
set_option maxRecDepth 20000 in
theorem lwi_wsL_law_r27 : ∀ w ∈ wsL_law_r27, w ∈ lw_tbl := (List.forall_mem_cons.mpr ⟨(lwm_3 (List.mem_of_getElem? (i := 31) (by rfl))), (List.forall_mem_cons.mpr ⟨(lwm_3 (List.mem_of_getElem? (i := 32) (by decide +kernel))), (List.forall_mem_cons.mpr ⟨(lwm_4 (List.mem_of_getElem? (i := 139) (by decide +kernel))), (List.forall_mem_cons.mpr ⟨(lwm_4 (List.mem_of_getElem? (i := 140) (by decide +kernel))), (List.forall_mem_cons.mpr ⟨(lwm_4 (List.mem_of_getElem? (i := 141) (by decide +kernel))), (List.forall_mem_cons.mpr ⟨(lwm_4 (List.mem_of_getElem? (i := 142) (by rfl))), (List.forall_mem_cons.mpr ⟨(lwm_4 (List.mem_of_getElem? (i := 143) (by decide +kernel))), (List.forall_mem_cons.mpr ⟨(lwm_4 (List.mem_of_getElem? (i := 145) (by decide +kernel))), (List.forall_mem_cons.mpr ⟨(lwm_0 (List.mem_of_getElem? (i := 50) (by decide +kernel))), (List.forall_mem_cons.mpr ⟨(lwm_4 (List.mem_of_getElem? (i := 146) (by rfl))), (List.forall_mem_cons.mpr ⟨(lwm_3 (List.mem_of_getElem? (i := 33) (by decide +kernel))), (List.forall_mem_cons.mpr ⟨(lwm_3 (List.mem_of_getElem? (i := 34) (by decide +kernel))), (List.forall_mem_cons.mpr ⟨(lwm_3 (List.mem_of_getElem? (i := 35) (by decide +kernel))), (List.forall_mem_cons.mpr ⟨(lwm_3 (List.mem_of_getElem? (i := 36) (by rfl))), (List.forall_mem_cons.mpr ⟨(lwm_3 (List.mem_of_getElem? (i := 37) (by decide +kernel))), (List.forall_mem_cons.mpr ⟨(lwm_3 (List.mem_of_getElem? (i := 38) (by decide +kernel))), (List.forall_mem_cons.mpr ⟨(lwm_3 (List.mem_of_getElem? (i := 39) (by decide +kernel))), (List.forall_mem_cons.mpr ⟨(lwm_3 (List.mem_of_getElem? (i := 40) (by rfl))), (List.forall_mem_cons.mpr ⟨(lwm_3 (List.mem_of_getElem? (i := 41) (by decide +kernel))), (List.forall_mem_cons.mpr ⟨(lwm_3 (List.mem_of_getElem? (i := 42) (by decide +kernel))), (List.forall_mem_cons.mpr ⟨(lwm_3 (List.mem_of_getElem? (i := 44) (by decide +kernel))), (List.forall_mem_cons.mpr ⟨(lwm_0 (List.mem_of_getElem? (i := 15) (by decide +kernel))), (List.forall_mem_cons.mpr ⟨(lwm_3 (List.mem_of_getElem? (i := 45) (by rfl))), (List.forall_mem_cons.mpr ⟨(lwm_3 (List.mem_of_getElem? (i := 46) (by decide +kernel))), (fun _ h => absurd h List.not_mem_nil)⟩)⟩)⟩)⟩)⟩)⟩)⟩)⟩)⟩)⟩)⟩)⟩)⟩)⟩)⟩)⟩)⟩)⟩)⟩)⟩)⟩)⟩)⟩)⟩)
set_option maxRecDepth 20000 in
theorem lwi_wsL_law_r28 : ∀ w ∈ wsL_law_r28, w ∈ lw_tbl := (List.forall_mem_cons.mpr ⟨(lwm_3 (List.mem_of_getElem? (i := 48) (by decide +kernel))), (List.forall_mem_cons.mpr ⟨(lwm_0 (List.mem_of_getElem? (i := 16) (by decide +kernel))), (List.forall_mem_cons.mpr ⟨(lwm_3 (List.mem_of_getElem? (i := 49) (by rfl))), (List.forall_mem_cons.mpr ⟨(lwm_3 (List.mem_of_getElem? (i := 50) (by decide +kernel))), (List.forall_mem_cons.mpr ⟨(lwm_3 (List.mem_of_getElem? (i := 52) (by decide +kernel))), (List.forall_mem_cons.mpr ⟨(lwm_0 (List.mem_of_getElem? (i := 17) (by decide +kernel))), (List.forall_mem_cons.mpr ⟨(lwm_3 (List.mem_of_getElem? (i := 53) (by rfl))), (List.forall_mem_cons.mpr ⟨(lwm_4 (List.mem_of_getElem? (i := 147) (by decide +kernel))), (List.forall_mem_cons.mpr ⟨(lwm_4 (List.mem_of_getElem? (i := 148) (by decide +kernel))), (List.forall_mem_cons.mpr ⟨(lwm_4 (List.mem_of_getElem? (i := 149) (by decide +kernel))), (List.forall_mem_cons.mpr ⟨(lwm_4 (List.mem_of_getElem? (i := 150) (by rfl))), (List.forall_mem_cons.mpr ⟨(lwm_4 (List.mem_of_getElem? (i := 151) (by decide +kernel))), (List.forall_mem_cons.mpr ⟨(lwm_4 (List.mem_of_getElem? (i := 153) (by decide +kernel))), (List.forall_mem_cons.mpr ⟨(lwm_0 (List.mem_of_getElem? (i := 51) (by decide +kernel))), (List.forall_mem_cons.mpr ⟨(lwm_4 (List.mem_of_getElem? (i := 154) (by rfl))), (List.forall_mem_cons.mpr ⟨(lwm_4 (List.mem_of_getElem? (i := 155) (by decide +kernel))), (List.forall_mem_cons.mpr ⟨(lwm_4 (List.mem_of_getElem? (i := 157) (by decide +kernel))), (List.forall_mem_cons.mpr ⟨(lwm_0 (List.mem_of_getElem? (i := 52) (by decide +kernel))), (List.forall_mem_cons.mpr ⟨(lwm_4 (List.mem_of_getElem? (i := 158) (by rfl))), (List.forall_mem_cons.mpr ⟨(lwm_3 (List.mem_of_getElem? (i := 54) (by decide +kernel))), (List.forall_mem_cons.mpr ⟨(lwm_3 (List.mem_of_getElem? (i := 55) (by decide +kernel))), (List.forall_mem_cons.mpr ⟨(lwm_3 (List.mem_of_getElem? (i := 56) (by decide +kernel))), (List.forall_mem_cons.mpr ⟨(lwm_3 (List.mem_of_getElem? (i := 57) (by rfl))), (List.forall_mem_cons.mpr ⟨(lwm_3 (List.mem_of_getElem? (i := 58) (by decide +kernel))), (fun _ h => absurd h List.not_mem_nil)⟩)⟩)⟩)⟩)⟩)⟩)⟩)⟩)⟩)⟩)⟩)⟩)⟩)⟩)⟩)⟩)⟩)⟩)⟩)⟩)⟩)⟩)⟩)⟩)
set_option maxRecDepth 20000 in
theorem lwi_wsL_law_r29 : ∀ w ∈ wsL_law_r29, w ∈ lw_tbl := (List.forall_mem_cons.mpr ⟨(lwm_3 (List.mem_of_getElem? (i := 59) (by decide +kernel))), (List.forall_mem_cons.mpr ⟨(lwm_3 (List.mem_of_getElem? (i := 60) (by decide +kernel))), (List.forall_mem_cons.mpr ⟨(lwm_3 (List.mem_of_getElem? (i := 61) (by rfl))), (List.forall_mem_cons.mpr ⟨(lwm_4 (List.mem_of_getElem? (i := 159) (by decide +kernel))), (List.forall_mem_cons.mpr ⟨(lwm_4 (List.mem_of_getElem? (i := 160) (by decide +kernel))), (List.forall_mem_cons.mpr ⟨(lwm_4 (List.mem_of_getElem? (i := 161) (by decide +kernel))), (List.forall_mem_cons.mpr ⟨(lwm_4 (List.mem_of_getElem? (i := 162) (by rfl))), (List.forall_mem_cons.mpr ⟨(lwm_3 (List.mem_of_getElem? (i := 62) (by decide +kernel))), (List.forall_mem_cons.mpr ⟨(lwm_3 (List.mem_of_getElem? (i := 63) (by decide +kernel))), (List.forall_mem_cons.mpr ⟨(lwm_3 (List.mem_of_getElem? (i := 64) (by decide +kernel))), (List.forall_mem_cons.mpr ⟨(lwm_3 (List.mem_of_getElem? (i := 65) (by rfl))), (List.forall_mem_cons.mpr ⟨(lwm_3 (List.mem_of_getElem? (i := 66) (by decide +kernel))), (List.forall_mem_cons.mpr ⟨(lwm_3 (List.mem_of_getElem? (i := 67) (by decide +kernel))), (List.forall_mem_cons.mpr ⟨(lwm_3 (List.mem_of_getElem? (i := 68) (by decide +kernel))), (List.forall_mem_cons.mpr ⟨(lwm_4 (List.mem_of_getElem? (i := 163) (by decide +kernel))), (List.forall_mem_cons.mpr ⟨(lwm_4 (List.mem_of_getElem? (i := 164) (by decide +kernel))), (List.forall_mem_cons.mpr ⟨(lwm_4 (List.mem_of_getElem? (i := 165) (by decide +kernel))), (List.forall_mem_cons.mpr ⟨(lwm_4 (List.mem_of_getElem? (i := 166) (by rfl))), (List.forall_mem_cons.mpr ⟨(lwm_3 (List.mem_of_getElem? (i := 69) (by decide +kernel))), (List.forall_mem_cons.mpr ⟨(lwm_3 (List.mem_of_getElem? (i := 70) (by decide +kernel))), (List.forall_mem_cons.mpr ⟨(lwm_3 (List.mem_of_getElem? (i := 71) (by decide +kernel))), (List.forall_mem_cons.mpr ⟨(lwm_3 (List.mem_of_getElem? (i := 72) (by rfl))), (List.forall_mem_cons.mpr ⟨(lwm_3 (List.mem_of_getElem? (i := 73) (by decide +kernel))), (List.forall_mem_cons.mpr ⟨(lwm_3 (List.mem_of_getElem? (i := 74) (by decide +kernel))), (fun _ h => absurd h List.not_mem_nil)⟩)⟩)⟩)⟩)⟩)⟩)⟩)⟩)⟩)⟩)⟩)⟩)⟩)⟩)⟩)⟩)⟩)⟩)⟩)⟩)⟩)⟩)⟩)⟩)
set_option maxRecDepth 20000 in
theorem lwi_wsL_law_r30 : ∀ w ∈ wsL_law_r30, w ∈ lw_tbl := (List.forall_mem_cons.mpr ⟨(lwm_3 (List.mem_of_getElem? (i := 75) (by decide +kernel))), (List.forall_mem_cons.mpr ⟨(lwm_4 (List.mem_of_getElem? (i := 167) (by decide +kernel))), (List.forall_mem_cons.mpr ⟨(lwm_4 (List.mem_of_getElem? (i := 168) (by decide +kernel))), (List.forall_mem_cons.mpr ⟨(lwm_4 (List.mem_of_getElem? (i := 169) (by decide +kernel))), (List.forall_mem_cons.mpr ⟨(lwm_4 (List.mem_of_getElem? (i := 170) (by rfl))), (List.forall_mem_cons.mpr ⟨(lwm_3 (List.mem_of_getElem? (i := 76) (by decide +kernel))), (List.forall_mem_cons.mpr ⟨(lwm_3 (List.mem_of_getElem? (i := 77) (by decide +kernel))), (List.forall_mem_cons.mpr ⟨(lwm_3 (List.mem_of_getElem? (i := 78) (by decide +kernel))), (List.forall_mem_cons.mpr ⟨(lwm_3 (List.mem_of_getElem? (i := 79) (by rfl))), (List.forall_mem_cons.mpr ⟨(lwm_3 (List.mem_of_getElem? (i := 80) (by decide +kernel))), (List.forall_mem_cons.mpr ⟨(lwm_3 (List.mem_of_getElem? (i := 81) (by decide +kernel))), (List.forall_mem_cons.mpr ⟨(lwm_3 (List.mem_of_getElem? (i := 82) (by decide +kernel))), (List.forall_mem_cons.mpr ⟨(lwm_3 (List.mem_of_getElem? (i := 83) (by rfl))), (List.forall_mem_cons.mpr ⟨(lwm_4 (List.mem_of_getElem? (i := 171) (by decide +kernel))), (List.forall_mem_cons.mpr ⟨(lwm_4 (List.mem_of_getElem? (i := 172) (by decide +kernel))), (List.forall_mem_cons.mpr ⟨(lwm_4 (List.mem_of_getElem? (i := 173) (by decide +kernel))), (List.forall_mem_cons.mpr ⟨(lwm_4 (List.mem_of_getElem? (i := 174) (by rfl))), (List.forall_mem_cons.mpr ⟨(lwm_4 (List.mem_of_getElem? (i := 175) (by decide +kernel))), (List.forall_mem_cons.mpr ⟨(lwm_4 (List.mem_of_getElem? (i := 177) (by decide +kernel))), (List.forall_mem_cons.mpr ⟨(lwm_0 (List.mem_of_getElem? (i := 53) (by decide +kernel))), (List.forall_mem_cons.mpr ⟨(lwm_4 (List.mem_of_getElem? (i := 178) (by rfl))), (List.forall_mem_cons.mpr ⟨(lwm_3 (List.mem_of_getElem? (i := 84) (by decide +kernel))), (List.forall_mem_cons.mpr ⟨(lwm_3 (List.mem_of_getElem? (i := 85) (by decide +kernel))), (List.forall_mem_cons.mpr ⟨(lwm_3 (List.mem_of_getElem? (i := 86) (by decide +kernel))), (fun _ h => absurd h List.not_mem_nil)⟩)⟩)⟩)⟩)⟩)⟩)⟩)⟩)⟩)⟩)⟩)⟩)⟩)⟩)⟩)⟩)⟩)⟩)⟩)⟩)⟩)⟩)⟩)⟩)
set_option maxRecDepth 20000 in
theorem lwi_wsL_law_r31 : ∀ w ∈ wsL_law_r31, w ∈ lw_tbl := (List.forall_mem_cons.mpr ⟨(lwm_3 (List.mem_of_getElem? (i := 87) (by rfl))), (List.forall_mem_cons.mpr ⟨(lwm_4 (List.mem_of_getElem? (i := 179) (by decide +kernel))), (List.forall_mem_cons.mpr ⟨(lwm_4 (List.mem_of_getElem? (i := 180) (by decide +kernel))), (List.forall_mem_cons.mpr ⟨(lwm_4 (List.mem_of_getElem? (i := 181) (by decide +kernel))), (List.forall_mem_cons.mpr ⟨(lwm_4 (List.mem_of_getElem? (i := 182) (by rfl))), (List.forall_mem_cons.mpr ⟨(lwm_3 (List.mem_of_getElem? (i := 88) (by decide +kernel))), (List.forall_mem_cons.mpr ⟨(lwm_3 (List.mem_of_getElem? (i := 89) (by decide +kernel))), (List.forall_mem_cons.mpr ⟨(lwm_3 (List.mem_of_getElem? (i := 90) (by decide +kernel))), (List.forall_mem_cons.mpr ⟨(lwm_3 (List.mem_of_getElem? (i := 91) (by rfl))), (List.forall_mem_cons.mpr ⟨(lwm_3 (List.mem_of_getElem? (i := 92) (by decide +kernel))), (List.forall_mem_cons.mpr ⟨(lwm_4 (List.mem_of_getElem? (i := 183) (by decide +kernel))), (List.forall_mem_cons.mpr ⟨(lwm_4 (List.mem_of_getElem? (i := 184) (by decide +kernel))), (List.forall_mem_cons.mpr ⟨(lwm_4 (List.mem_of_getElem? (i := 185) (by decide +kernel))), (List.forall_mem_cons.mpr ⟨(lwm_4 (List.mem_of_getElem? (i := 186) (by rfl))), (List.forall_mem_cons.mpr ⟨(lwm_3 (List.mem_of_getElem? (i := 93) (by decide +kernel))), (List.forall_mem_cons.mpr ⟨(lwm_3 (List.mem_of_getElem? (i := 94) (by decide +kernel))), (List.forall_mem_cons.mpr ⟨(lwm_3 (List.mem_of_getElem? (i := 95) (by decide +kernel))), (List.forall_mem_cons.mpr ⟨(lwm_3 (List.mem_of_getElem? (i := 96) (by rfl))), (List.forall_mem_cons.mpr ⟨(lwm_4 (List.mem_of_getElem? (i := 187) (by decide +kernel))), (List.forall_mem_cons.mpr ⟨(lwm_4 (List.mem_of_getElem? (i := 188) (by decide +kernel))), (List.forall_mem_cons.mpr ⟨(lwm_4 (List.mem_of_getElem? (i := 189) (by decide +kernel))), (List.forall_mem_cons.mpr ⟨(lwm_4 (List.mem_of_getElem? (i := 190) (by rfl))), (List.forall_mem_cons.mpr ⟨(lwm_3 (List.mem_of_getElem? (i := 97) (by decide +kernel))), (List.forall_mem_cons.mpr ⟨(lwm_3 (List.mem_of_getElem? (i := 98) (by decide +kernel))), (fun _ h => absurd h List.not_mem_nil)⟩)⟩)⟩)⟩)⟩)⟩)⟩)⟩)⟩)⟩)⟩)⟩)⟩)⟩)⟩)⟩)⟩)⟩)⟩)⟩)⟩)⟩)⟩)⟩)
set_option maxRecDepth 20000 in
theorem lwi_wsL_law_r32 : ∀ w ∈ wsL_law_r32, w ∈ lw_tbl := (List.forall_mem_cons.mpr ⟨(lwm_3 (List.mem_of_getElem? (i := 99) (by decide +kernel))), (List.forall_mem_cons.mpr ⟨(lwm_3 (List.mem_of_getElem? (i := 100) (by rfl))), (List.forall_mem_cons.mpr ⟨(lwm_4 (List.mem_of_getElem? (i := 191) (by decide +kernel))), (List.forall_mem_cons.mpr ⟨(lwm_4 (List.mem_of_getElem? (i := 192) (by decide +kernel))), (List.forall_mem_cons.mpr ⟨(lwm_4 (List.mem_of_getElem? (i := 193) (by decide +kernel))), (List.forall_mem_cons.mpr ⟨(lwm_4 (List.mem_of_getElem? (i := 194) (by rfl))), (List.forall_mem_cons.mpr ⟨(lwm_3 (List.mem_of_getElem? (i := 101) (by decide +kernel))), (List.forall_mem_cons.mpr ⟨(lwm_3 (List.mem_of_getElem? (i := 102) (by decide +kernel))), (List.forall_mem_cons.mpr ⟨(lwm_3 (List.mem_of_getElem? (i := 103) (by decide +kernel))), (List.forall_mem_cons.mpr ⟨(lwm_3 (List.mem_of_getElem? (i := 104) (by rfl))), (List.forall_mem_cons.mpr ⟨(lwm_3 (List.mem_of_getElem? (i := 105) (by decide +kernel))), (List.forall_mem_cons.mpr ⟨(lwm_3 (List.mem_of_getElem? (i := 106) (by decide +kernel))), (List.forall_mem_cons.mpr ⟨(lwm_3 (List.mem_of_getElem? (i := 107) (by decide +kernel))), (List.forall_mem_cons.mpr ⟨(lwm_3 (List.mem_of_getElem? (i := 108) (by rfl))), (List.forall_mem_cons.mpr ⟨(lwm_3 (List.mem_of_getElem? (i := 109) (by decide +kernel))), (List.forall_mem_cons.mpr ⟨(lwm_3 (List.mem_of_getElem? (i := 110) (by decide +kernel))), (List.forall_mem_cons.mpr ⟨(lwm_3 (List.mem_of_getElem? (i := 111) (by decide +kernel))), (List.forall_mem_cons.mpr ⟨(lwm_3 (List.mem_of_getElem? (i := 112) (by rfl))), (List.forall_mem_cons.mpr ⟨(lwm_4 (List.mem_of_getElem? (i := 195) (by decide +kernel))), (List.forall_mem_cons.mpr ⟨(lwm_4 (List.mem_of_getElem? (i := 196) (by decide +kernel))), (List.forall_mem_cons.mpr ⟨(lwm_4 (List.mem_of_getElem? (i := 197) (by decide +kernel))), (List.forall_mem_cons.mpr ⟨(lwm_4 (List.mem_of_getElem? (i := 198) (by rfl))), (List.forall_mem_cons.mpr ⟨(lwm_4 (List.mem_of_getElem? (i := 199) (by decide +kernel))), (List.forall_mem_cons.mpr ⟨(lwm_4 (List.mem_of_getElem? (i := 201) (by decide +kernel))), (fun _ h => absurd h List.not_mem_nil)⟩)⟩)⟩)⟩)⟩)⟩)⟩)⟩)⟩)⟩)⟩)⟩)⟩)⟩)⟩)⟩)⟩)⟩)⟩)⟩)⟩)⟩)⟩)⟩)
set_option maxRecDepth 20000 in
theorem lwi_wsL_law_r33 : ∀ w ∈ wsL_law_r33, w ∈ lw_tbl := (List.forall_mem_cons.mpr ⟨(lwm_0 (List.mem_of_getElem? (i := 54) (by decide +kernel))), (List.forall_mem_cons.mpr ⟨(lwm_4 (List.mem_of_getElem? (i := 202) (by rfl))), (List.forall_mem_cons.mpr ⟨(lwm_4 (List.mem_of_getElem? (i := 203) (by decide +kernel))), (List.forall_mem_cons.mpr ⟨(lwm_4 (List.mem_of_getElem? (i := 205) (by decide +kernel))), (List.forall_mem_cons.mpr ⟨(lwm_0 (List.mem_of_getElem? (i := 55) (by decide +kernel))), (List.forall_mem_cons.mpr ⟨(lwm_4 (List.mem_of_getElem? (i := 206) (by rfl))), (List.forall_mem_cons.mpr ⟨(lwm_4 (List.mem_of_getElem? (i := 207) (by decide +kernel))), (List.forall_mem_cons.mpr ⟨(lwm_4 (List.mem_of_getElem? (i := 209) (by decide +kernel))), (List.forall_mem_cons.mpr ⟨(lwm_0 (List.mem_of_getElem? (i := 56) (by decide +kernel))), (List.forall_mem_cons.mpr ⟨(lwm_4 (List.mem_of_getElem? (i := 210) (by rfl))), (List.forall_mem_cons.mpr ⟨(lwm_3 (List.mem_of_getElem? (i := 113) (by decide +kernel))), (List.forall_mem_cons.mpr ⟨(lwm_3 (List.mem_of_getElem? (i := 114) (by decide +kernel))), (List.forall_mem_cons.mpr ⟨(lwm_3 (List.mem_of_getElem? (i := 115) (by decide +kernel))), (List.forall_mem_cons.mpr ⟨(lwm_3 (List.mem_of_getElem? (i := 116) (by rfl))), (List.forall_mem_cons.mpr ⟨(lwm_3 (List.mem_of_getElem? (i := 117) (by decide +kernel))), (List.forall_mem_cons.mpr ⟨(lwm_4 (List.mem_of_getElem? (i := 211) (by decide +kernel))), (List.forall_mem_cons.mpr ⟨(lwm_4 (List.mem_of_getElem? (i := 212) (by decide +kernel))), (List.forall_mem_cons.mpr ⟨(lwm_4 (List.mem_of_getElem? (i := 213) (by decide +kernel))), (List.forall_mem_cons.mpr ⟨(lwm_4 (List.mem_of_getElem? (i := 214) (by rfl))), (List.forall_mem_cons.mpr ⟨(lwm_3 (List.mem_of_getElem? (i := 118) (by decide +kernel))), (List.forall_mem_cons.mpr ⟨(lwm_3 (List.mem_of_getElem? (i := 119) (by decide +kernel))), (List.forall_mem_cons.mpr ⟨(lwm_3 (List.mem_of_getElem? (i := 120) (by decide +kernel))), (List.forall_mem_cons.mpr ⟨(lwm_3 (List.mem_of_getElem? (i := 121) (by rfl))), (List.forall_mem_cons.mpr ⟨(lwm_3 (List.mem_of_getElem? (i := 122) (by decide +kernel))), (fun _ h => absurd h List.not_mem_nil)⟩)⟩)⟩)⟩)⟩)⟩)⟩)⟩)⟩)⟩)⟩)⟩)⟩)⟩)⟩)⟩)⟩)⟩)⟩)⟩)⟩)⟩)⟩)⟩)
set_option maxRecDepth 20000 in
theorem lwi_wsL_law_r34 : ∀ w ∈ wsL_law_r34, w ∈ lw_tbl := (List.forall_mem_cons.mpr ⟨(lwm_4 (List.mem_of_getElem? (i := 215) (by decide +kernel))), (List.forall_mem_cons.mpr ⟨(lwm_4 (List.mem_of_getElem? (i := 216) (by decide +kernel))), (List.forall_mem_cons.mpr ⟨(lwm_4 (List.mem_of_getElem? (i := 217) (by decide +kernel))), (List.forall_mem_cons.mpr ⟨(lwm_4 (List.mem_of_getElem? (i := 218) (by rfl))), (List.forall_mem_cons.mpr ⟨(lwm_4 (List.mem_of_getElem? (i := 219) (by decide +kernel))), (fun _ h => absurd h List.not_mem_nil)⟩)⟩)⟩)⟩)⟩)
set_option maxRecDepth 20000 in
theorem lwi_wsX60 : ∀ w ∈ wsX60, w ∈ lw_tbl := (List.forall_mem_cons.mpr ⟨(lwm_1 (List.mem_of_getElem? (i := 180) (by decide +kernel))), (List.forall_mem_cons.mpr ⟨(lwm_1 (List.mem_of_getElem? (i := 182) (by decide +kernel))), (List.forall_mem_cons.mpr ⟨(lwm_1 (List.mem_of_getElem? (i := 184) (by decide +kernel))), (List.forall_mem_cons.mpr ⟨(lwm_1 (List.mem_of_getElem? (i := 186) (by decide +kernel))), (List.forall_mem_cons.mpr ⟨(lwm_1 (List.mem_of_getElem? (i := 188) (by decide +kernel))), (List.forall_mem_cons.mpr ⟨(lwm_1 (List.mem_of_getElem? (i := 190) (by decide +kernel))), (fun _ h => absurd h List.not_mem_nil)⟩)⟩)⟩)⟩)⟩)⟩)
set_option maxRecDepth 20000 in
theorem lwi_wsX70 : ∀ w ∈ wsX70, w ∈ lw_tbl := (List.forall_mem_cons.mpr ⟨(lwm_3 (List.mem_of_getElem? (i := 142) (by decide +kernel))), (List.forall_mem_cons.mpr ⟨(lwm_3 (List.mem_of_getElem? (i := 144) (by decide +kernel))), (List.forall_mem_cons.mpr ⟨(lwm_3 (List.mem_of_getElem? (i := 146) (by decide +kernel))), (List.forall_mem_cons.mpr ⟨(lwm_3 (List.mem_of_getElem? (i := 148) (by decide +kernel))), (List.forall_mem_cons.mpr ⟨(lwm_3 (List.mem_of_getElem? (i := 150) (by decide +kernel))), (List.forall_mem_cons.mpr ⟨(lwm_3 (List.mem_of_getElem? (i := 152) (by decide +kernel))), (List.forall_mem_cons.mpr ⟨(lwm_3 (List.mem_of_getElem? (i := 154) (by decide +kernel))), (List.forall_mem_cons.mpr ⟨(lwm_3 (List.mem_of_getElem? (i := 156) (by decide +kernel))), (List.forall_mem_cons.mpr ⟨(lwm_3 (List.mem_of_getElem? (i := 158) (by decide +kernel))), (List.forall_mem_cons.mpr ⟨(lwm_3 (List.mem_of_getElem? (i := 160) (by decide +kernel))), (List.forall_mem_cons.mpr ⟨(lwm_3 (List.mem_of_getElem? (i := 162) (by decide +kernel))), (List.forall_mem_cons.mpr ⟨(lwm_3 (List.mem_of_getElem? (i := 164) (by decide +kernel))), (List.forall_mem_cons.mpr ⟨(lwm_3 (List.mem_of_getElem? (i := 166) (by decide +kernel))), (fun _ h => absurd h List.not_mem_nil)⟩)⟩)⟩)⟩)⟩)⟩)⟩)⟩)⟩)⟩)⟩)⟩)⟩)
set_option maxRecDepth 20000 in
theorem lwi_wsX50 : ∀ w ∈ wsX50, w ∈ lw_tbl := (List.forall_mem_cons.mpr ⟨(lwm_1 (List.mem_of_getElem? (i := 110) (by decide +kernel))), (List.forall_mem_cons.mpr ⟨(lwm_1 (List.mem_of_getElem? (i := 112) (by decide +kernel))), (List.forall_mem_cons.mpr ⟨(lwm_1 (List.mem_of_getElem? (i := 114) (by decide +kernel))), (List.forall_mem_cons.mpr ⟨(lwm_1 (List.mem_of_getElem? (i := 116) (by decide +kernel))), (List.forall_mem_cons.mpr ⟨(lwm_1 (List.mem_of_getElem? (i := 118) (by decide +kernel))), (List.forall_mem_cons.mpr ⟨(lwm_1 (List.mem_of_getElem? (i := 120) (by decide +kernel))), (fun _ h => absurd h List.not_mem_nil)⟩)⟩)⟩)⟩)⟩)⟩)
set_option maxRecDepth 20000 in
theorem lwi_wsX10 : ∀ w ∈ wsX10, w ∈ lw_tbl := (List.forall_mem_cons.mpr ⟨(lwm_1 (List.mem_of_getElem? (i := 136) (by decide +kernel))), (List.forall_mem_cons.mpr ⟨(lwm_1 (List.mem_of_getElem? (i := 138) (by decide +kernel))), (List.forall_mem_cons.mpr ⟨(lwm_1 (List.mem_of_getElem? (i := 140) (by decide +kernel))), (fun _ h => absurd h List.not_mem_nil)⟩)⟩)⟩)
set_option maxRecDepth 20000 in
theorem lwi_wsX40 : ∀ w ∈ wsX40, w ∈ lw_tbl := (List.forall_mem_cons.mpr ⟨(lwm_1 (List.mem_of_getElem? (i := 159) (by decide +kernel))), (List.forall_mem_cons.mpr ⟨(lwm_1 (List.mem_of_getElem? (i := 161) (by decide +kernel))), (List.forall_mem_cons.mpr ⟨(lwm_1 (List.mem_of_getElem? (i := 163) (by decide +kernel))), (List.forall_mem_cons.mpr ⟨(lwm_1 (List.mem_of_getElem? (i := 165) (by decide +kernel))), (List.forall_mem_cons.mpr ⟨(lwm_1 (List.mem_of_getElem? (i := 167) (by decide +kernel))), (List.forall_mem_cons.mpr ⟨(lwm_1 (List.mem_of_getElem? (i := 169) (by decide +kernel))), (List.forall_mem_cons.mpr ⟨(lwm_1 (List.mem_of_getElem? (i := 171) (by decide +kernel))), (fun _ h => absurd h List.not_mem_nil)⟩)⟩)⟩)⟩)⟩)⟩)⟩)
set_option maxRecDepth 20000 in
theorem lwi_wsX30 : ∀ w ∈ wsX30, w ∈ lw_tbl := (List.forall_mem_cons.mpr ⟨(lwm_1 (List.mem_of_getElem? (i := 35) (by decide +kernel))), (fun _ h => absurd h List.not_mem_nil)⟩)
set_option maxRecDepth 20000 in
theorem lwi_wsX00 : ∀ w ∈ wsX00, w ∈ lw_tbl := (List.forall_mem_cons.mpr ⟨(lwm_1 (List.mem_of_getElem? (i := 85) (by decide +kernel))), (List.forall_mem_cons.mpr ⟨(lwm_1 (List.mem_of_getElem? (i := 87) (by decide +kernel))), (List.forall_mem_cons.mpr ⟨(lwm_1 (List.mem_of_getElem? (i := 89) (by decide +kernel))), (List.forall_mem_cons.mpr ⟨(lwm_1 (List.mem_of_getElem? (i := 91) (by decide +kernel))), (List.forall_mem_cons.mpr ⟨(lwm_1 (List.mem_of_getElem? (i := 93) (by decide +kernel))), (List.forall_mem_cons.mpr ⟨(lwm_1 (List.mem_of_getElem? (i := 95) (by decide +kernel))), (List.forall_mem_cons.mpr ⟨(lwm_1 (List.mem_of_getElem? (i := 97) (by decide +kernel))), (fun _ h => absurd h List.not_mem_nil)⟩)⟩)⟩)⟩)⟩)⟩)⟩)
set_option maxRecDepth 20000 in
theorem lwi_wsX20 : ∀ w ∈ wsX20, w ∈ lw_tbl := (List.forall_mem_cons.mpr ⟨(lwm_1 (List.mem_of_getElem? (i := 59) (by decide +kernel))), (List.forall_mem_cons.mpr ⟨(lwm_1 (List.mem_of_getElem? (i := 61) (by decide +kernel))), (List.forall_mem_cons.mpr ⟨(lwm_1 (List.mem_of_getElem? (i := 63) (by decide +kernel))), (List.forall_mem_cons.mpr ⟨(lwm_1 (List.mem_of_getElem? (i := 65) (by decide +kernel))), (fun _ h => absurd h List.not_mem_nil)⟩)⟩)⟩)⟩)
set_option maxRecDepth 20000 in
theorem lwi_wsL_law : ∀ w ∈ wsL_law, w ∈ lw_tbl := (List.forall_mem_append.mpr ⟨(List.forall_mem_append.mpr ⟨(List.forall_mem_append.mpr ⟨(List.forall_mem_append.mpr ⟨(List.forall_mem_append.mpr ⟨(List.forall_mem_append.mpr ⟨(List.forall_mem_append.mpr ⟨(List.forall_mem_append.mpr ⟨(List.forall_mem_append.mpr ⟨(List.forall_mem_append.mpr ⟨lwi_wsL_law_r1, (List.forall_mem_append.mpr ⟨lwi_wsL_law_r2, (List.forall_mem_append.mpr ⟨lwi_wsL_law_r3, (List.forall_mem_append.mpr ⟨lwi_wsL_law_r4, (List.forall_mem_append.mpr ⟨lwi_wsL_law_r5, (List.forall_mem_append.mpr ⟨lwi_wsL_law_r6, (List.forall_mem_append.mpr ⟨lwi_wsL_law_r7, (List.forall_mem_append.mpr ⟨lwi_wsL_law_r8, (List.forall_mem_append.mpr ⟨lwi_wsL_law_r9, (List.forall_mem_append.mpr ⟨lwi_wsL_law_r10, (List.forall_mem_append.mpr ⟨lwi_wsL_law_r11, (List.forall_mem_append.mpr ⟨lwi_wsL_law_r12, (List.forall_mem_append.mpr ⟨lwi_wsL_law_r13, (List.forall_mem_append.mpr ⟨lwi_wsL_law_r14, (List.forall_mem_append.mpr ⟨lwi_wsL_law_r15, (List.forall_mem_append.mpr ⟨lwi_wsL_law_r16, (List.forall_mem_append.mpr ⟨lwi_wsL_law_r17, (List.forall_mem_append.mpr ⟨lwi_wsL_law_r18, (List.forall_mem_append.mpr ⟨lwi_wsL_law_r19, (List.forall_mem_append.mpr ⟨lwi_wsL_law_r20, (List.forall_mem_append.mpr ⟨lwi_wsL_law_r21, (List.forall_mem_append.mpr ⟨lwi_wsL_law_r22, (List.forall_mem_append.mpr ⟨lwi_wsL_law_r23, (List.forall_mem_append.mpr ⟨lwi_wsL_law_r24, (List.forall_mem_append.mpr ⟨lwi_wsL_law_r25, (List.forall_mem_append.mpr ⟨lwi_wsL_law_r26, (List.forall_mem_append.mpr ⟨lwi_wsL_law_r27, (List.forall_mem_append.mpr ⟨lwi_wsL_law_r28, (List.forall_mem_append.mpr ⟨lwi_wsL_law_r29, (List.forall_mem_append.mpr ⟨lwi_wsL_law_r30, (List.forall_mem_append.mpr ⟨lwi_wsL_law_r31, (List.forall_mem_append.mpr ⟨lwi_wsL_law_r32, (List.forall_mem_append.mpr ⟨lwi_wsL_law_r33, lwi_wsL_law_r34⟩)⟩)⟩)⟩)⟩)⟩)⟩)⟩)⟩)⟩)⟩)⟩)⟩)⟩)⟩)⟩)⟩)⟩)⟩)⟩)⟩)⟩)⟩)⟩)⟩)⟩)⟩)⟩)⟩)⟩)⟩)⟩)⟩), lwi_wsX60⟩), lwi_wsX70⟩), lwi_wsX50⟩), lwi_wsX10⟩), lwi_wsX40⟩), lwi_wsX30⟩), lwi_wsX00⟩), lwi_wsX20⟩), (fun _ h => absurd h List.not_mem_nil)⟩)
theorem wsL_law_in : ∀ w ∈ wsL_law, w ∈ lw_tbl := lwi_wsL_law
theorem inlX0 : ∀ w ∈ wsX00, w ∈ wsL_law := fun _ h => List.mem_append_left _ (List.mem_append_left _ (List.mem_append_right _ h))
theorem inX0 : ∀ w ∈ wsX00, w ∈ lw_tbl := fun w h => wsL_law_in w (inlX0 w h)
theorem inlX1 : ∀ w ∈ wsX10, w ∈ wsL_law := fun _ h => List.mem_append_left _ (List.mem_append_left _ (List.mem_append_left _ (List.mem_append_left _ (List.mem_append_left _ (List.mem_append_right _ h)))))
theorem inX1 : ∀ w ∈ wsX10, w ∈ lw_tbl := fun w h => wsL_law_in w (inlX1 w h)
theorem inlX2 : ∀ w ∈ wsX20, w ∈ wsL_law := fun _ h => List.mem_append_left _ (List.mem_append_right _ h)
theorem inX2 : ∀ w ∈ wsX20, w ∈ lw_tbl := fun w h => wsL_law_in w (inlX2 w h)
theorem inlX3 : ∀ w ∈ wsX30, w ∈ wsL_law := fun _ h => List.mem_append_left _ (List.mem_append_left _ (List.mem_append_left _ (List.mem_append_right _ h)))
theorem inX3 : ∀ w ∈ wsX30, w ∈ lw_tbl := fun w h => wsL_law_in w (inlX3 w h)
theorem inlX4 : ∀ w ∈ wsX40, w ∈ wsL_law := fun _ h => List.mem_append_left _ (List.mem_append_left _ (List.mem_append_left _ (List.mem_append_left _ (List.mem_append_right _ h))))
theorem inX4 : ∀ w ∈ wsX40, w ∈ lw_tbl := fun w h => wsL_law_in w (inlX4 w h)
theorem inlX5 : ∀ w ∈ wsX50, w ∈ wsL_law := fun _ h => List.mem_append_left _ (List.mem_append_left _ (List.mem_append_left _ (List.mem_append_left _ (List.mem_append_left _ (List.mem_append_left _ (List.mem_append_right _ h))))))
theorem inX5 : ∀ w ∈ wsX50, w ∈ lw_tbl := fun w h => wsL_law_in w (inlX5 w h)
theorem inlX6 : ∀ w ∈ wsX60, w ∈ wsL_law := fun _ h => List.mem_append_left _ (List.mem_append_left _ (List.mem_append_left _ (List.mem_append_left _ (List.mem_append_left _ (List.mem_append_left _ (List.mem_append_left _ (List.mem_append_left _ (List.mem_append_right _ h))))))))
theorem inX6 : ∀ w ∈ wsX60, w ∈ lw_tbl := fun w h => wsL_law_in w (inlX6 w h)
theorem inlX7 : ∀ w ∈ wsX70, w ∈ wsL_law := fun _ h => List.mem_append_left _ (List.mem_append_left _ (List.mem_append_left _ (List.mem_append_left _ (List.mem_append_left _ (List.mem_append_left _ (List.mem_append_left _ (List.mem_append_right _ h)))))))
theorem inX7 : ∀ w ∈ wsX70, w ∈ lw_tbl := fun w h => wsL_law_in w (inlX7 w h)
theorem inJ10 : ∀ w ∈ wsJ100, w ∈ lw_tbl := by decide +kernel
theorem inJ7 : ∀ w ∈ wsJ70, w ∈ lw_tbl := by decide +kernel
set_option maxRecDepth 20000 in
theorem ggX0_init_X3_init : GoodIn wsX0_init wsX3_init := goodIn_r _ [15, 16, 2, 3, 17, 18, 19, 20, 21, 22, 28] (by rfl) (by decide +kernel)
set_option maxRecDepth 20000 in
theorem gX0_init_X3_init : GoodIn wsX0_init (wsX3_init) := ggX0_init_X3_init
set_option maxRecDepth 20000 in
theorem ggX0_init_X2_init : GoodIn wsX0_init wsX2_init := goodIn_r _ [24, 25, 2, 3, 17, 26, 27, 36, 37, 38, 39] (by rfl) (by decide +kernel)
set_option maxRecDepth 20000 in
theorem gX0_init_X2_init_n20 : GoodIn wsX0_init (wsX2_init) := ggX0_init_X2_init
theorem dX0_init_0 : decode cX0_init 0 = .ok (.aload_n 0, 1) := by decide +kernel
theorem dX0_init_1 : decode cX0_init 1 = .ok (.invokespecial 3, 3) := by decide +kernel
theorem dX0_init_4 : decode cX0_init 4 = .ok (.aload_n 0, 1) := by decide +kernel
theorem dX0_init_5 : decode cX0_init 5 = .ok (.new 9, 3) := by decide +kernel
theorem dX0_init_8 : decode cX0_init 8 = .ok (.dup, 1) := by decide +kernel
theorem dX0_init_9 : decode cX0_init 9 = .ok (.invokespecial 11, 3) := by decide +kernel
theorem dX0_init_12 : decode cX0_init 12 = .ok (.putfield 12, 3) := by decide +kernel
theorem dX0_init_15 : decode cX0_init 15 = .ok (.aload_n 0, 1) := by decide +kernel
theorem dX0_init_16 : decode cX0_init 16 = .ok (.new 18, 3) := by decide +kernel
theorem dX0_init_19 : decode cX0_init 19 = .ok (.dup, 1) := by decide +kernel
theorem dX0_init_20 : decode cX0_init 20 = .ok (.invokespecial 20, 3) := by decide +kernel
theorem dX0_init_23 : decode cX0_init 23 = .ok (.putfield 21, 3) := by decide +kernel
theorem dX0_init_26 : decode cX0_init 26 = .ok (.aload_n 0, 1) := by decide +kernel
theorem dX0_init_27 : decode cX0_init 27 = .ok (.iconst 0, 1) := by decide +kernel
theorem dX0_init_28 : decode cX0_init 28 = .ok (.putfield 25, 3) := by decide +kernel
theorem dX0_init_31 : decode cX0_init 31 = .ok (.return_, 1) := by decide +kernel
set_option maxRecDepth 20000 in
theorem ggX0_start_X3_removeAll : GoodIn wsX0_start wsX3_removeAll := goodIn_r _ [11, 12, 13, 14, 15, 16, 31] (by rfl) (by decide +kernel)
set_option maxRecDepth 20000 in
theorem gX0_start_X3_removeAll : GoodIn wsX0_start (wsV RX0 29 RX3 yX3_removeAll wsX3_removeAll) := goodIn_app (goodIn_r _ [7, 8, 9, 10] (by rfl) (by decide +kernel)) ggX0_start_X3_removeAll
set_option maxRecDepth 20000 in
theorem ggX0_start_X2_removeAll : GoodIn wsX0_start wsX2_removeAll := goodIn_r _ [21, 22, 23, 32, 33, 34, 35] (by rfl) (by decide +kernel)
set_option maxRecDepth 20000 in
theorem gX0_start_X2_removeAll : GoodIn wsX0_start (wsV RX0 32 RX2 yX2_removeAll wsX2_removeAll) := goodIn_app (goodIn_r _ [17, 18, 19, 20] (by rfl) (by decide +kernel)) ggX0_start_X2_removeAll
theorem dX0_start_0 : decode cX0_start 0 = .ok (.aload_n 0, 1) := by decide +kernel
theorem dX0_start_1 : decode cX0_start 1 = .ok (.getfield 12, 3) := by decide +kernel
theorem dX0_start_4 : decode cX0_start 4 = .ok (.invokevirtual 29, 3) := by decide +kernel
theorem dX0_start_7 : decode cX0_start 7 = .ok (.aload_n 0, 1) := by decide +kernel
theorem dX0_start_8 : decode cX0_start 8 = .ok (.getfield 21, 3) := by decide +kernel
theorem dX0_start_11 : decode cX0_start 11 = .ok (.invokevirtual 32, 3) := by decide +kernel
theorem dX0_start_14 : decode cX0_start 14 = .ok (.aload_n 0, 1) := by decide +kernel
theorem dX0_start_15 : decode cX0_start 15 = .ok (.iconst 1, 1) := by decide +kernel
theorem dX0_start_16 : decode cX0_start 16 = .ok (.putfield 25, 3) := by decide +kernel
theorem dX0_start_19 : decode cX0_start 19 = .ok (.aload_n 0, 1) := by decide +kernel
theorem dX0_start_20 : decode cX0_start 20 = .ok (.iload_n 1, 1) := by decide +kernel
theorem dX0_start_21 : decode cX0_start 21 = .ok (.putfield 33, 3) := by decide +kernel
theorem dX0_start_24 : decode cX0_start 24 = .ok (.aload_n 0, 1) := by decide +kernel
theorem dX0_start_25 : decode cX0_start 25 = .ok (.iload_n 2, 1) := by decide +kernel
theorem dX0_start_26 : decode cX0_start 26 = .ok (.putfield 36, 3) := by decide +kernel
theorem dX0_start_29 : decode cX0_start 29 = .ok (.aload_n 0, 1) := by decide +kernel
theorem dX0_start_30 : decode cX0_start 30 = .ok (.iconst 0, 1) := by decide +kernel
theorem dX0_start_31 : decode cX0_start 31 = .ok (.putfield 39, 3) := by decide +kernel
theorem dX0_start_34 : decode cX0_start 34 = .ok (.return_, 1) := by decide +kernel
set_option maxRecDepth 20000 in
theorem ggX0_take_X3_take : GoodIn wsX0_take wsX3_take := goodIn_r _ [12, 13, 14, 15, 16, 17, 35] (by rfl) (by decide +kernel)
set_option maxRecDepth 20000 in
theorem gX0_take_X3_take : GoodIn wsX0_take (wsV RX0 42 RX3 yX3_take wsX3_take) := goodIn_app (goodIn_r _ [8, 9, 10, 11] (by rfl) (by decide +kernel)) ggX0_take_X3_take
set_option maxRecDepth 20000 in
theorem ggX0_take_X2_take : GoodIn wsX0_take wsX2_take := goodIn_r _ [22, 23, 24, 15, 16, 17, 25, 26, 27, 36, 37, 38, 39] (by rfl) (by decide +kernel)
set_option maxRecDepth 20000 in
theorem gX0_take_X2_take : GoodIn wsX0_take (wsV RX0 46 RX2 yX2_take wsX2_take) := goodIn_app (goodIn_r _ [18, 19, 20, 21] (by rfl) (by decide +kernel)) ggX0_take_X2_take
theorem dX0_take_0 : decode cX0_take 0 = .ok (.aload_n 0, 1) := by decide +kernel
theorem dX0_take_1 : decode cX0_take 1 = .ok (.getfield 12, 3) := by decide +kernel
theorem dX0_take_4 : decode cX0_take 4 = .ok (.aload_n 1, 1) := by decide +kernel
theorem dX0_take_5 : decode cX0_take 5 = .ok (.getfield 12, 3) := by decide +kernel
theorem dX0_take_8 : decode cX0_take 8 = .ok (.invokevirtual 42, 3) := by decide +kernel
theorem dX0_take_11 : decode cX0_take 11 = .ok (.aload_n 0, 1) := by decide +kernel
theorem dX0_take_12 : decode cX0_take 12 = .ok (.getfield 21, 3) := by decide +kernel
theorem dX0_take_15 : decode cX0_take 15 = .ok (.aload_n 1, 1) := by decide +kernel
theorem dX0_take_16 : decode cX0_take 16 = .ok (.getfield 21, 3) := by decide +kernel
theorem dX0_take_19 : decode cX0_take 19 = .ok (.invokevirtual 46, 3) := by decide +kernel
theorem dX0_take_22 : decode cX0_take 22 = .ok (.aload_n 0, 1) := by decide +kernel
theorem dX0_take_23 : decode cX0_take 23 = .ok (.aload_n 1, 1) := by decide +kernel
theorem dX0_take_24 : decode cX0_take 24 = .ok (.getfield 25, 3) := by decide +kernel
theorem dX0_take_27 : decode cX0_take 27 = .ok (.putfield 25, 3) := by decide +kernel
theorem dX0_take_30 : decode cX0_take 30 = .ok (.aload_n 0, 1) := by decide +kernel
theorem dX0_take_31 : decode cX0_take 31 = .ok (.aload_n 1, 1) := by decide +kernel
theorem dX0_take_32 : decode cX0_take 32 = .ok (.getfield 33, 3) := by decide +kernel
theorem dX0_take_35 : decode cX0_take 35 = .ok (.putfield 33, 3) := by decide +kernel
theorem dX0_take_38 : decode cX0_take 38 = .ok (.aload_n 0, 1) := by decide +kernel
theorem dX0_take_39 : decode cX0_take 39 = .ok (.aload_n 1, 1) := by decide +kernel
theorem dX0_take_40 : decode cX0_take 40 = .ok (.getfield 36, 3) := by decide +kernel
theorem dX0_take_43 : decode cX0_take 43 = .ok (.putfield 36, 3) := by decide +kernel
theorem dX0_take_46 : decode cX0_take 46 = .ok (.aload_n 0, 1) := by decide +kernel
theorem dX0_take_47 : decode cX0_take 47 = .ok (.aload_n 1, 1) := by decide +kernel
theorem dX0_take_48 : decode cX0_take 48 = .ok (.getfield 39, 3) := by decide +kernel
theorem dX0_take_51 : decode cX0_take 51 = .ok (.putfield 39, 3) := by decide +kernel
theorem dX0_take_54 : decode cX0_take 54 = .ok (.aload_n 0, 1) := by decide +kernel
theorem dX0_take_55 : decode cX0_take 55 = .ok (.aload_n 1, 1) := by decide +kernel
theorem dX0_take_56 : decode cX0_take 56 = .ok (.getfield 49, 3) := by decide +kernel
theorem dX0_take_59 : decode cX0_take 59 = .ok (.putfield 49, 3) := by decide +kernel
theorem dX0_take_62 : decode cX0_take 62 = .ok (.return_, 1) := by decide +kernel
set_option maxRecDepth 20000 in
theorem ggX0_copyKey_X6_changedValue : GoodIn wsX0_copyKey wsX6_changedValue := goodIn_r _ [6] (by rfl) (by decide +kernel)
set_option maxRecDepth 20000 in
theorem gX0_copyKey_X6_changedValue_n52 : GoodIn wsX0_copyKey (wsX6_changedValue) := ggX0_copyKey_X6_changedValue
set_option maxRecDepth 20000 in
theorem ggX0_copyKey_X3_at : GoodIn wsX0_copyKey wsX3_at := goodIn_r _ [11, 12, 24] (by rfl) (by decide +kernel)
set_option maxRecDepth 20000 in
theorem gX0_copyKey_X3_at : GoodIn wsX0_copyKey (wsV RX0 56 RX3 yX3_at wsX3_at) := goodIn_app (goodIn_r _ [7, 8, 9, 10] (by rfl) (by decide +kernel)) ggX0_copyKey_X3_at
set_option maxRecDepth 20000 in
theorem ggX0_copyKey_X3_place : GoodIn wsX0_copyKey wsX3_place := goodIn_r _ [16, 12, 24] (by rfl) (by decide +kernel)
set_option maxRecDepth 20000 in
theorem gX0_copyKey_X3_place : GoodIn wsX0_copyKey (wsV RX0 60 RX3 yX3_place wsX3_place) := goodIn_app (goodIn_r _ [13, 14, 15, 10] (by rfl) (by decide +kernel)) ggX0_copyKey_X3_place
theorem dX0_copyKey_0 : decode cX0_copyKey 0 = .ok (.aload_n 0, 1) := by decide +kernel
theorem dX0_copyKey_1 : decode cX0_copyKey 1 = .ok (.iload_n 1, 1) := by decide +kernel
theorem dX0_copyKey_2 : decode cX0_copyKey 2 = .ok (.iconst 1, 1) := by decide +kernel
theorem dX0_copyKey_3 : decode cX0_copyKey 3 = .ok (.iadd, 1) := by decide +kernel
theorem dX0_copyKey_4 : decode cX0_copyKey 4 = .ok (.putfield 39, 3) := by decide +kernel
theorem dX0_copyKey_7 : decode cX0_copyKey 7 = .ok (.aload_n 0, 1) := by decide +kernel
theorem dX0_copyKey_8 : decode cX0_copyKey 8 = .ok (.getfield 33, 3) := by decide +kernel
theorem dX0_copyKey_11 : decode cX0_copyKey 11 = .ok (.iload_n 1, 1) := by decide +kernel
theorem dX0_copyKey_12 : decode cX0_copyKey 12 = .ok (.iload_n 2, 1) := by decide +kernel
theorem dX0_copyKey_13 : decode cX0_copyKey 13 = .ok (.invokestatic 52, 3) := by decide +kernel
theorem dX0_copyKey_16 : decode cX0_copyKey 16 = .ok (.istore_n 3, 1) := by decide +kernel
theorem dX0_copyKey_17 : decode cX0_copyKey 17 = .ok (.iload_n 3, 1) := by decide +kernel
theorem dX0_copyKey_18 : decode cX0_copyKey 18 = .ok (.bipush (-5), 2) := by decide +kernel
theorem dX0_copyKey_20 : decode cX0_copyKey 20 = .ok (.if_icmp .eq 16, 3) := by decide +kernel
theorem dX0_copyKey_23 : decode cX0_copyKey 23 = .ok (.aload_n 0, 1) := by decide +kernel
theorem dX0_copyKey_24 : decode cX0_copyKey 24 = .ok (.getfield 12, 3) := by decide +kernel
theorem dX0_copyKey_27 : decode cX0_copyKey 27 = .ok (.iload_n 1, 1) := by decide +kernel
theorem dX0_copyKey_28 : decode cX0_copyKey 28 = .ok (.invokevirtual 56, 3) := by decide +kernel
theorem dX0_copyKey_31 : decode cX0_copyKey 31 = .ok (.bipush (-5), 2) := by decide +kernel
theorem dX0_copyKey_33 : decode cX0_copyKey 33 = .ok (.if_icmp .eq 5, 3) := by decide +kernel
theorem dX0_copyKey_36 : decode cX0_copyKey 36 = .ok (.iconst 0, 1) := by decide +kernel
theorem dX0_copyKey_37 : decode cX0_copyKey 37 = .ok (.ireturn, 1) := by decide +kernel
theorem dX0_copyKey_38 : decode cX0_copyKey 38 = .ok (.aload_n 0, 1) := by decide +kernel
theorem dX0_copyKey_39 : decode cX0_copyKey 39 = .ok (.getfield 12, 3) := by decide +kernel
theorem dX0_copyKey_42 : decode cX0_copyKey 42 = .ok (.iload_n 1, 1) := by decide +kernel
theorem dX0_copyKey_43 : decode cX0_copyKey 43 = .ok (.iload_n 3, 1) := by decide +kernel
theorem dX0_copyKey_44 : decode cX0_copyKey 44 = .ok (.invokevirtual 60, 3) := by decide +kernel
theorem dX0_copyKey_47 : decode cX0_copyKey 47 = .ok (.iconst 1, 1) := by decide +kernel
theorem dX0_copyKey_48 : decode cX0_copyKey 48 = .ok (.ireturn, 1) := by decide +kernel
theorem dX0_tell_0 : decode cX0_tell 0 = .ok (.iload_n 1, 1) := by decide +kernel
theorem dX0_tell_1 : decode cX0_tell 1 = .ok (.ifCond .ne 8, 3) := by decide +kernel
theorem dX0_tell_4 : decode cX0_tell 4 = .ok (.aload_n 0, 1) := by decide +kernel
theorem dX0_tell_5 : decode cX0_tell 5 = .ok (.getfield 25, 3) := by decide +kernel
theorem dX0_tell_8 : decode cX0_tell 8 = .ok (.ireturn, 1) := by decide +kernel
theorem dX0_tell_9 : decode cX0_tell 9 = .ok (.iload_n 1, 1) := by decide +kernel
theorem dX0_tell_10 : decode cX0_tell 10 = .ok (.iconst 5, 1) := by decide +kernel
theorem dX0_tell_11 : decode cX0_tell 11 = .ok (.if_icmp .ne 21, 3) := by decide +kernel
theorem dX0_tell_14 : decode cX0_tell 14 = .ok (.aload_n 0, 1) := by decide +kernel
theorem dX0_tell_15 : decode cX0_tell 15 = .ok (.getfield 25, 3) := by decide +kernel
theorem dX0_tell_18 : decode cX0_tell 18 = .ok (.iconst 3, 1) := by decide +kernel
theorem dX0_tell_19 : decode cX0_tell 19 = .ok (.if_icmp .ne 10, 3) := by decide +kernel
theorem dX0_tell_22 : decode cX0_tell 22 = .ok (.aload_n 0, 1) := by decide +kernel
theorem dX0_tell_23 : decode cX0_tell 23 = .ok (.getfield 49, 3) := by decide +kernel
theorem dX0_tell_26 : decode cX0_tell 26 = .ok (.goto 5, 3) := by decide +kernel
theorem dX0_tell_29 : decode cX0_tell 29 = .ok (.bipush (-5), 2) := by decide +kernel
theorem dX0_tell_31 : decode cX0_tell 31 = .ok (.ireturn, 1) := by decide +kernel
theorem dX0_tell_32 : decode cX0_tell 32 = .ok (.aload_n 0, 1) := by decide +kernel
theorem dX0_tell_33 : decode cX0_tell 33 = .ok (.getfield 25, 3) := by decide +kernel
theorem dX0_tell_36 : decode cX0_tell 36 = .ok (.ifCond .ne 6, 3) := by decide +kernel
theorem dX0_tell_39 : decode cX0_tell 39 = .ok (.bipush (-5), 2) := by decide +kernel
theorem dX0_tell_41 : decode cX0_tell 41 = .ok (.ireturn, 1) := by decide +kernel
theorem dX0_tell_42 : decode cX0_tell 42 = .ok (.iload_n 1, 1) := by decide +kernel
theorem dX0_tell_43 : decode cX0_tell 43 = .ok (.tableswitch 40 1 3 #[25, 30, 35], 25) := by decide +kernel
theorem dX0_tell_68 : decode cX0_tell 68 = .ok (.aload_n 0, 1) := by decide +kernel
theorem dX0_tell_69 : decode cX0_tell 69 = .ok (.getfield 33, 3) := by decide +kernel
theorem dX0_tell_72 : decode cX0_tell 72 = .ok (.ireturn, 1) := by decide +kernel
theorem dX0_tell_73 : decode cX0_tell 73 = .ok (.aload_n 0, 1) := by decide +kernel
theorem dX0_tell_74 : decode cX0_tell 74 = .ok (.getfield 36, 3) := by decide +kernel
theorem dX0_tell_77 : decode cX0_tell 77 = .ok (.ireturn, 1) := by decide +kernel
theorem dX0_tell_78 : decode cX0_tell 78 = .ok (.aload_n 0, 1) := by decide +kernel
theorem dX0_tell_79 : decode cX0_tell 79 = .ok (.getfield 39, 3) := by decide +kernel
theorem dX0_tell_82 : decode cX0_tell 82 = .ok (.ireturn, 1) := by decide +kernel
theorem dX0_tell_83 : decode cX0_tell 83 = .ok (.aload_n 0, 1) := by decide +kernel
theorem dX0_tell_84 : decode cX0_tell 84 = .ok (.getfield 21, 3) := by decide +kernel
theorem dX0_tell_87 : decode cX0_tell 87 = .ok (.getfield 64, 3) := by decide +kernel
theorem dX0_tell_90 : decode cX0_tell 90 = .ok (.ireturn, 1) := by decide +kernel
set_option maxRecDepth 20000 in
theorem ggX1_init_X5_init : GoodIn wsX1_init wsX5_init := goodIn_r _ [9, 10, 2, 3, 11, 12, 13, 14, 15, 16, 17, 18, 19, 20, 21, 22, 23, 24, 25, 26, 27, 28, 29, 30, 31, 32, 33, 34, 35, 36, 37, 38, 39, 40, 41, 42, 43, 44, 45, 46, 47, 57, 51, 52, 53, 54, 55, 56, 58, 59, 60, 61, 62, 63, 64, 65, 66, 67, 68] (by rfl) (by decide +kernel)
set_option maxRecDepth 20000 in
theorem gX1_init_X5_init_n17 : GoodIn wsX1_init (wsX5_init) := ggX1_init_X5_init
theorem dX1_init_0 : decode cX1_init 0 = .ok (.aload_n 0, 1) := by decide +kernel
theorem dX1_init_1 : decode cX1_init 1 = .ok (.invokespecial 3, 3) := by decide +kernel
theorem dX1_init_4 : decode cX1_init 4 = .ok (.aload_n 0, 1) := by decide +kernel
theorem dX1_init_5 : decode cX1_init 5 = .ok (.bipush 6, 2) := by decide +kernel
theorem dX1_init_7 : decode cX1_init 7 = .ok (.anewarray 11, 3) := by decide +kernel
theorem dX1_init_10 : decode cX1_init 10 = .ok (.putfield 13, 3) := by decide +kernel
theorem dX1_init_13 : decode cX1_init 13 = .ok (.iconst 0, 1) := by decide +kernel
theorem dX1_init_14 : decode cX1_init 14 = .ok (.istore_n 1, 1) := by decide +kernel
theorem dX1_init_15 : decode cX1_init 15 = .ok (.iload_n 1, 1) := by decide +kernel
theorem dX1_init_16 : decode cX1_init 16 = .ok (.bipush 6, 2) := by decide +kernel
theorem dX1_init_18 : decode cX1_init 18 = .ok (.if_icmp .ge 22, 3) := by decide +kernel
theorem dX1_init_21 : decode cX1_init 21 = .ok (.aload_n 0, 1) := by decide +kernel
theorem dX1_init_22 : decode cX1_init 22 = .ok (.getfield 13, 3) := by decide +kernel
theorem dX1_init_25 : decode cX1_init 25 = .ok (.iload_n 1, 1) := by decide +kernel
theorem dX1_init_26 : decode cX1_init 26 = .ok (.new 11, 3) := by decide +kernel
theorem dX1_init_29 : decode cX1_init 29 = .ok (.dup, 1) := by decide +kernel
theorem dX1_init_30 : decode cX1_init 30 = .ok (.invokespecial 17, 3) := by decide +kernel
theorem dX1_init_33 : decode cX1_init 33 = .ok (.aastore, 1) := by decide +kernel
theorem dX1_init_34 : decode cX1_init 34 = .ok (.iinc 1 1, 3) := by decide +kernel
theorem dX1_init_37 : decode cX1_init 37 = .ok (.goto (-22), 3) := by decide +kernel
theorem dX1_init_40 : decode cX1_init 40 = .ok (.return_, 1) := by decide +kernel
set_option maxRecDepth 20000 in
theorem ggX1_prepare_X1_slotOf : GoodIn wsX1_prepare wsX1_slotOf := goodIn_r _ [7, 8, 54, 55, 56] (by rfl) (by decide +kernel)
set_option maxRecDepth 20000 in
theorem gX1_prepare_X1_slotOf : GoodIn wsX1_prepare (wsV RX1 22 RX1 yX1_slotOf wsX1_slotOf) := goodIn_app (goodIn_r _ [3, 4, 5, 6] (by rfl) (by decide +kernel)) ggX1_prepare_X1_slotOf
set_option maxRecDepth 20000 in
theorem ggX1_prepare_X5_take : GoodIn wsX1_prepare wsX5_take := goodIn_r _ [13, 14, 15, 16, 17, 18, 19, 20, 21, 22, 23, 24, 25, 26, 27, 28, 29, 30, 31, 32, 33, 34, 35, 36, 37, 38, 39, 40, 41, 42, 43, 44, 45, 46, 47, 48, 49, 50, 51, 52, 53, 57, 58, 59, 60, 61, 62, 63, 64, 65, 66, 67, 68, 69, 70, 71, 72, 73, 74] (by rfl) (by decide +kernel)
set_option maxRecDepth 20000 in
theorem gX1_prepare_X5_take : GoodIn wsX1_prepare (wsV RX1 26 RX5 yX5_take wsX5_take) := goodIn_app (goodIn_r _ [9, 10, 11, 12] (by rfl) (by decide +kernel)) ggX1_prepare_X5_take
theorem dX1_prepare_0 : decode cX1_prepare 0 = .ok (.aload_n 0, 1) := by decide +kernel
theorem dX1_prepare_1 : decode cX1_prepare 1 = .ok (.getfield 13, 3) := by decide +kernel
theorem dX1_prepare_4 : decode cX1_prepare 4 = .ok (.aload_n 0, 1) := by decide +kernel
theorem dX1_prepare_5 : decode cX1_prepare 5 = .ok (.aload_n 0, 1) := by decide +kernel
theorem dX1_prepare_6 : decode cX1_prepare 6 = .ok (.getfield 18, 3) := by decide +kernel
theorem dX1_prepare_9 : decode cX1_prepare 9 = .ok (.invokevirtual 22, 3) := by decide +kernel
theorem dX1_prepare_12 : decode cX1_prepare 12 = .ok (.aaload, 1) := by decide +kernel
theorem dX1_prepare_13 : decode cX1_prepare 13 = .ok (.aload_n 1, 1) := by decide +kernel
theorem dX1_prepare_14 : decode cX1_prepare 14 = .ok (.invokevirtual 26, 3) := by decide +kernel
theorem dX1_prepare_17 : decode cX1_prepare 17 = .ok (.return_, 1) := by decide +kernel
set_option maxRecDepth 20000 in
theorem ggX1_keepPrepared_X1_slotOf : GoodIn wsX1_keepPrepared wsX1_slotOf := goodIn_r _ [7, 2, 8, 9, 10] (by rfl) (by decide +kernel)
set_option maxRecDepth 20000 in
theorem gX1_keepPrepared_X1_slotOf : GoodIn wsX1_keepPrepared (wsV RX1 22 RX1 yX1_slotOf wsX1_slotOf) := goodIn_app (goodIn_r _ [3, 4, 5, 6] (by rfl) (by decide +kernel)) ggX1_keepPrepared_X1_slotOf
theorem dX1_keepPrepared_0 : decode cX1_keepPrepared 0 = .ok (.aload_n 0, 1) := by decide +kernel
theorem dX1_keepPrepared_1 : decode cX1_keepPrepared 1 = .ok (.getfield 18, 3) := by decide +kernel
theorem dX1_keepPrepared_4 : decode cX1_keepPrepared 4 = .ok (.iconst 5, 1) := by decide +kernel
theorem dX1_keepPrepared_5 : decode cX1_keepPrepared 5 = .ok (.if_icmp .ge 16, 3) := by decide +kernel
theorem dX1_keepPrepared_8 : decode cX1_keepPrepared 8 = .ok (.aload_n 0, 1) := by decide +kernel
theorem dX1_keepPrepared_9 : decode cX1_keepPrepared 9 = .ok (.dup, 1) := by decide +kernel
theorem dX1_keepPrepared_10 : decode cX1_keepPrepared 10 = .ok (.getfield 18, 3) := by decide +kernel
theorem dX1_keepPrepared_13 : decode cX1_keepPrepared 13 = .ok (.iconst 1, 1) := by decide +kernel
theorem dX1_keepPrepared_14 : decode cX1_keepPrepared 14 = .ok (.iadd, 1) := by decide +kernel
theorem dX1_keepPrepared_15 : decode cX1_keepPrepared 15 = .ok (.putfield 18, 3) := by decide +kernel
theorem dX1_keepPrepared_18 : decode cX1_keepPrepared 18 = .ok (.goto 12, 3) := by decide +kernel
theorem dX1_keepPrepared_21 : decode cX1_keepPrepared 21 = .ok (.aload_n 0, 1) := by decide +kernel
theorem dX1_keepPrepared_22 : decode cX1_keepPrepared 22 = .ok (.aload_n 0, 1) := by decide +kernel
theorem dX1_keepPrepared_23 : decode cX1_keepPrepared 23 = .ok (.iconst 1, 1) := by decide +kernel
theorem dX1_keepPrepared_24 : decode cX1_keepPrepared 24 = .ok (.invokevirtual 22, 3) := by decide +kernel
theorem dX1_keepPrepared_27 : decode cX1_keepPrepared 27 = .ok (.putfield 30, 3) := by decide +kernel
theorem dX1_keepPrepared_30 : decode cX1_keepPrepared 30 = .ok (.return_, 1) := by decide +kernel
set_option maxRecDepth 20000 in
theorem ggX1_takeBack_X1_slotOf : GoodIn wsX1_takeBack wsX1_slotOf := goodIn_r _ [7, 8, 54, 55, 56] (by rfl) (by decide +kernel)
set_option maxRecDepth 20000 in
theorem gX1_takeBack_X1_slotOf : GoodIn wsX1_takeBack (wsV RX1 22 RX1 yX1_slotOf wsX1_slotOf) := goodIn_app (goodIn_r _ [3, 4, 5, 6] (by rfl) (by decide +kernel)) ggX1_takeBack_X1_slotOf
set_option maxRecDepth 20000 in
theorem ggX1_takeBack_X5_take : GoodIn wsX1_takeBack wsX5_take := goodIn_r _ [13, 14, 15, 16, 17, 18, 19, 20, 21, 22, 23, 24, 25, 26, 27, 28, 29, 30, 31, 32, 33, 34, 35, 36, 37, 38, 39, 40, 41, 42, 43, 44, 45, 46, 47, 48, 49, 50, 51, 52, 53, 57, 58, 59, 60, 61, 62, 63, 64, 65, 66, 67, 68, 69, 70, 71, 72, 73, 74] (by rfl) (by decide +kernel)
set_option maxRecDepth 20000 in
theorem gX1_takeBack_X5_take : GoodIn wsX1_takeBack (wsV RX1 26 RX5 yX5_take wsX5_take) := goodIn_app (goodIn_r _ [9, 10, 11, 12] (by rfl) (by decide +kernel)) ggX1_takeBack_X5_take
theorem dX1_takeBack_0 : decode cX1_takeBack 0 = .ok (.aload_n 0, 1) := by decide +kernel
theorem dX1_takeBack_1 : decode cX1_takeBack 1 = .ok (.getfield 18, 3) := by decide +kernel
theorem dX1_takeBack_4 : decode cX1_takeBack 4 = .ok (.ifCond .ne 6, 3) := by decide +kernel
theorem dX1_takeBack_7 : decode cX1_takeBack 7 = .ok (.bipush (-5), 2) := by decide +kernel
theorem dX1_takeBack_9 : decode cX1_takeBack 9 = .ok (.ireturn, 1) := by decide +kernel
theorem dX1_takeBack_10 : decode cX1_takeBack 10 = .ok (.aload_n 0, 1) := by decide +kernel
theorem dX1_takeBack_11 : decode cX1_takeBack 11 = .ok (.dup, 1) := by decide +kernel
theorem dX1_takeBack_12 : decode cX1_takeBack 12 = .ok (.getfield 18, 3) := by decide +kernel
theorem dX1_takeBack_15 : decode cX1_takeBack 15 = .ok (.iconst 1, 1) := by decide +kernel
theorem dX1_takeBack_16 : decode cX1_takeBack 16 = .ok (.isub, 1) := by decide +kernel
theorem dX1_takeBack_17 : decode cX1_takeBack 17 = .ok (.putfield 18, 3) := by decide +kernel
theorem dX1_takeBack_20 : decode cX1_takeBack 20 = .ok (.aload_n 1, 1) := by decide +kernel
theorem dX1_takeBack_21 : decode cX1_takeBack 21 = .ok (.aload_n 0, 1) := by decide +kernel
theorem dX1_takeBack_22 : decode cX1_takeBack 22 = .ok (.getfield 13, 3) := by decide +kernel
theorem dX1_takeBack_25 : decode cX1_takeBack 25 = .ok (.aload_n 0, 1) := by decide +kernel
theorem dX1_takeBack_26 : decode cX1_takeBack 26 = .ok (.aload_n 0, 1) := by decide +kernel
theorem dX1_takeBack_27 : decode cX1_takeBack 27 = .ok (.getfield 18, 3) := by decide +kernel
theorem dX1_takeBack_30 : decode cX1_takeBack 30 = .ok (.invokevirtual 22, 3) := by decide +kernel
theorem dX1_takeBack_33 : decode cX1_takeBack 33 = .ok (.aaload, 1) := by decide +kernel
theorem dX1_takeBack_34 : decode cX1_takeBack 34 = .ok (.invokevirtual 26, 3) := by decide +kernel
theorem dX1_takeBack_37 : decode cX1_takeBack 37 = .ok (.aload_n 0, 1) := by decide +kernel
theorem dX1_takeBack_38 : decode cX1_takeBack 38 = .ok (.getfield 18, 3) := by decide +kernel
theorem dX1_takeBack_41 : decode cX1_takeBack 41 = .ok (.ireturn, 1) := by decide +kernel
theorem dX1_slotOf_0 : decode cX1_slotOf 0 = .ok (.aload_n 0, 1) := by decide +kernel
theorem dX1_slotOf_1 : decode cX1_slotOf 1 = .ok (.getfield 30, 3) := by decide +kernel
theorem dX1_slotOf_4 : decode cX1_slotOf 4 = .ok (.iload_n 1, 1) := by decide +kernel
theorem dX1_slotOf_5 : decode cX1_slotOf 5 = .ok (.iadd, 1) := by decide +kernel
theorem dX1_slotOf_6 : decode cX1_slotOf 6 = .ok (.bipush 6, 2) := by decide +kernel
theorem dX1_slotOf_8 : decode cX1_slotOf 8 = .ok (.irem, 1) := by decide +kernel
theorem dX1_slotOf_9 : decode cX1_slotOf 9 = .ok (.ireturn, 1) := by decide +kernel
theorem dX2_init_0 : decode cX2_init 0 = .ok (.aload_n 0, 1) := by decide +kernel
theorem dX2_init_1 : decode cX2_init 1 = .ok (.invokespecial 3, 3) := by decide +kernel
theorem dX2_init_4 : decode cX2_init 4 = .ok (.aload_n 0, 1) := by decide +kernel
theorem dX2_init_5 : decode cX2_init 5 = .ok (.bipush 24, 2) := by decide +kernel
theorem dX2_init_7 : decode cX2_init 7 = .ok (.newarray .int, 2) := by decide +kernel
theorem dX2_init_9 : decode cX2_init 9 = .ok (.putfield 9, 3) := by decide +kernel
theorem dX2_init_12 : decode cX2_init 12 = .ok (.aload_n 0, 1) := by decide +kernel
theorem dX2_init_13 : decode cX2_init 13 = .ok (.bipush 24, 2) := by decide +kernel
theorem dX2_init_15 : decode cX2_init 15 = .ok (.newarray .int, 2) := by decide +kernel
theorem dX2_init_17 : decode cX2_init 17 = .ok (.putfield 15, 3) := by decide +kernel
theorem dX2_init_20 : decode cX2_init 20 = .ok (.return_, 1) := by decide +kernel
theorem dX2_removeAll_0 : decode cX2_removeAll 0 = .ok (.aload_n 0, 1) := by decide +kernel
theorem dX2_removeAll_1 : decode cX2_removeAll 1 = .ok (.iconst 0, 1) := by decide +kernel
theorem dX2_removeAll_2 : decode cX2_removeAll 2 = .ok (.putfield 18, 3) := by decide +kernel
theorem dX2_removeAll_5 : decode cX2_removeAll 5 = .ok (.aload_n 0, 1) := by decide +kernel
theorem dX2_removeAll_6 : decode cX2_removeAll 6 = .ok (.iconst 0, 1) := by decide +kernel
theorem dX2_removeAll_7 : decode cX2_removeAll 7 = .ok (.putfield 22, 3) := by decide +kernel
theorem dX2_removeAll_10 : decode cX2_removeAll 10 = .ok (.return_, 1) := by decide +kernel
theorem dX2_take_0 : decode cX2_take 0 = .ok (.aload_n 1, 1) := by decide +kernel
theorem dX2_take_1 : decode cX2_take 1 = .ok (.getfield 9, 3) := by decide +kernel
theorem dX2_take_4 : decode cX2_take 4 = .ok (.iconst 0, 1) := by decide +kernel
theorem dX2_take_5 : decode cX2_take 5 = .ok (.aload_n 0, 1) := by decide +kernel
theorem dX2_take_6 : decode cX2_take 6 = .ok (.getfield 9, 3) := by decide +kernel
theorem dX2_take_9 : decode cX2_take 9 = .ok (.iconst 0, 1) := by decide +kernel
theorem dX2_take_10 : decode cX2_take 10 = .ok (.bipush 24, 2) := by decide +kernel
theorem dX2_take_12 : decode cX2_take 12 = .ok (.invokestatic 25, 3) := by decide +kernel
theorem dX2_take_15 : decode cX2_take 15 = .ok (.aload_n 1, 1) := by decide +kernel
theorem dX2_take_16 : decode cX2_take 16 = .ok (.getfield 15, 3) := by decide +kernel
theorem dX2_take_19 : decode cX2_take 19 = .ok (.iconst 0, 1) := by decide +kernel
theorem dX2_take_20 : decode cX2_take 20 = .ok (.aload_n 0, 1) := by decide +kernel
theorem dX2_take_21 : decode cX2_take 21 = .ok (.getfield 15, 3) := by decide +kernel
theorem dX2_take_24 : decode cX2_take 24 = .ok (.iconst 0, 1) := by decide +kernel
theorem dX2_take_25 : decode cX2_take 25 = .ok (.bipush 24, 2) := by decide +kernel
theorem dX2_take_27 : decode cX2_take 27 = .ok (.invokestatic 25, 3) := by decide +kernel
theorem dX2_take_30 : decode cX2_take 30 = .ok (.aload_n 0, 1) := by decide +kernel
theorem dX2_take_31 : decode cX2_take 31 = .ok (.aload_n 1, 1) := by decide +kernel
theorem dX2_take_32 : decode cX2_take 32 = .ok (.getfield 18, 3) := by decide +kernel
theorem dX2_take_35 : decode cX2_take 35 = .ok (.putfield 18, 3) := by decide +kernel
theorem dX2_take_38 : decode cX2_take 38 = .ok (.aload_n 0, 1) := by decide +kernel
theorem dX2_take_39 : decode cX2_take 39 = .ok (.aload_n 1, 1) := by decide +kernel
theorem dX2_take_40 : decode cX2_take 40 = .ok (.getfield 22, 3) := by decide +kernel
theorem dX2_take_43 : decode cX2_take 43 = .ok (.putfield 22, 3) := by decide +kernel
theorem dX2_take_46 : decode cX2_take 46 = .ok (.return_, 1) := by decide +kernel
set_option maxRecDepth 20000 in
theorem ggX2_add_X2_slotOf : GoodIn wsX2_add wsX2_slotOf := goodIn_r _ [8, 9, 10, 11, 12, 13] (by rfl) (by decide +kernel)
set_option maxRecDepth 20000 in
theorem gX2_add_X2_slotOf : GoodIn wsX2_add (wsV RX2 31 RX2 yX2_slotOf wsX2_slotOf) := goodIn_app (goodIn_r _ [4, 5, 6, 7] (by rfl) (by decide +kernel)) ggX2_add_X2_slotOf
theorem dX2_add_0 : decode cX2_add 0 = .ok (.aload_n 0, 1) := by decide +kernel
theorem dX2_add_1 : decode cX2_add 1 = .ok (.getfield 22, 3) := by decide +kernel
theorem dX2_add_4 : decode cX2_add 4 = .ok (.bipush 24, 2) := by decide +kernel
theorem dX2_add_6 : decode cX2_add 6 = .ok (.if_icmp .lt 5, 3) := by decide +kernel
theorem dX2_add_9 : decode cX2_add 9 = .ok (.iconst 0, 1) := by decide +kernel
theorem dX2_add_10 : decode cX2_add 10 = .ok (.ireturn, 1) := by decide +kernel
theorem dX2_add_11 : decode cX2_add 11 = .ok (.aload_n 0, 1) := by decide +kernel
theorem dX2_add_12 : decode cX2_add 12 = .ok (.aload_n 0, 1) := by decide +kernel
theorem dX2_add_13 : decode cX2_add 13 = .ok (.getfield 22, 3) := by decide +kernel
theorem dX2_add_16 : decode cX2_add 16 = .ok (.invokevirtual 31, 3) := by decide +kernel
theorem dX2_add_19 : decode cX2_add 19 = .ok (.istore_n 3, 1) := by decide +kernel
theorem dX2_add_20 : decode cX2_add 20 = .ok (.aload_n 0, 1) := by decide +kernel
theorem dX2_add_21 : decode cX2_add 21 = .ok (.getfield 9, 3) := by decide +kernel
theorem dX2_add_24 : decode cX2_add 24 = .ok (.iload_n 3, 1) := by decide +kernel
theorem dX2_add_25 : decode cX2_add 25 = .ok (.iload_n 1, 1) := by decide +kernel
theorem dX2_add_26 : decode cX2_add 26 = .ok (.iastore, 1) := by decide +kernel
theorem dX2_add_27 : decode cX2_add 27 = .ok (.aload_n 0, 1) := by decide +kernel
theorem dX2_add_28 : decode cX2_add 28 = .ok (.getfield 15, 3) := by decide +kernel
theorem dX2_add_31 : decode cX2_add 31 = .ok (.iload_n 3, 1) := by decide +kernel
theorem dX2_add_32 : decode cX2_add 32 = .ok (.iload_n 2, 1) := by decide +kernel
theorem dX2_add_33 : decode cX2_add 33 = .ok (.iastore, 1) := by decide +kernel
theorem dX2_add_34 : decode cX2_add 34 = .ok (.aload_n 0, 1) := by decide +kernel
theorem dX2_add_35 : decode cX2_add 35 = .ok (.dup, 1) := by decide +kernel
theorem dX2_add_36 : decode cX2_add 36 = .ok (.getfield 22, 3) := by decide +kernel
theorem dX2_add_39 : decode cX2_add 39 = .ok (.iconst 1, 1) := by decide +kernel
theorem dX2_add_40 : decode cX2_add 40 = .ok (.iadd, 1) := by decide +kernel
theorem dX2_add_41 : decode cX2_add 41 = .ok (.putfield 22, 3) := by decide +kernel
theorem dX2_add_44 : decode cX2_add 44 = .ok (.iconst 1, 1) := by decide +kernel
theorem dX2_add_45 : decode cX2_add 45 = .ok (.ireturn, 1) := by decide +kernel
set_option maxRecDepth 20000 in
theorem ggX2_removeFirst_X2_slotOf : GoodIn wsX2_removeFirst wsX2_slotOf := goodIn_r _ [7, 2, 8, 9, 10, 11] (by rfl) (by decide +kernel)
set_option maxRecDepth 20000 in
theorem gX2_removeFirst_X2_slotOf : GoodIn wsX2_removeFirst (wsV RX2 31 RX2 yX2_slotOf wsX2_slotOf) := goodIn_app (goodIn_r _ [3, 4, 5, 6] (by rfl) (by decide +kernel)) ggX2_removeFirst_X2_slotOf
theorem dX2_removeFirst_0 : decode cX2_removeFirst 0 = .ok (.aload_n 0, 1) := by decide +kernel
theorem dX2_removeFirst_1 : decode cX2_removeFirst 1 = .ok (.getfield 22, 3) := by decide +kernel
theorem dX2_removeFirst_4 : decode cX2_removeFirst 4 = .ok (.ifCond .le 22, 3) := by decide +kernel
theorem dX2_removeFirst_7 : decode cX2_removeFirst 7 = .ok (.aload_n 0, 1) := by decide +kernel
theorem dX2_removeFirst_8 : decode cX2_removeFirst 8 = .ok (.aload_n 0, 1) := by decide +kernel
theorem dX2_removeFirst_9 : decode cX2_removeFirst 9 = .ok (.iconst 1, 1) := by decide +kernel
theorem dX2_removeFirst_10 : decode cX2_removeFirst 10 = .ok (.invokevirtual 31, 3) := by decide +kernel
theorem dX2_removeFirst_13 : decode cX2_removeFirst 13 = .ok (.putfield 18, 3) := by decide +kernel
theorem dX2_removeFirst_16 : decode cX2_removeFirst 16 = .ok (.aload_n 0, 1) := by decide +kernel
theorem dX2_removeFirst_17 : decode cX2_removeFirst 17 = .ok (.dup, 1) := by decide +kernel
theorem dX2_removeFirst_18 : decode cX2_removeFirst 18 = .ok (.getfield 22, 3) := by decide +kernel
theorem dX2_removeFirst_21 : decode cX2_removeFirst 21 = .ok (.iconst 1, 1) := by decide +kernel
theorem dX2_removeFirst_22 : decode cX2_removeFirst 22 = .ok (.isub, 1) := by decide +kernel
theorem dX2_removeFirst_23 : decode cX2_removeFirst 23 = .ok (.putfield 22, 3) := by decide +kernel
theorem dX2_removeFirst_26 : decode cX2_removeFirst 26 = .ok (.return_, 1) := by decide +kernel
set_option maxRecDepth 20000 in
theorem ggX2_keyAt_X2_slotOf : GoodIn wsX2_keyAt wsX2_slotOf := goodIn_r _ [7, 8, 9, 10, 11, 12] (by rfl) (by decide +kernel)
set_option maxRecDepth 20000 in
theorem gX2_keyAt_X2_slotOf : GoodIn wsX2_keyAt (wsV RX2 31 RX2 yX2_slotOf wsX2_slotOf) := goodIn_app (goodIn_r _ [3, 4, 5, 6] (by rfl) (by decide +kernel)) ggX2_keyAt_X2_slotOf
theorem dX2_keyAt_0 : decode cX2_keyAt 0 = .ok (.iload_n 1, 1) := by decide +kernel
theorem dX2_keyAt_1 : decode cX2_keyAt 1 = .ok (.ifCond .lt 24, 3) := by decide +kernel
theorem dX2_keyAt_4 : decode cX2_keyAt 4 = .ok (.iload_n 1, 1) := by decide +kernel
theorem dX2_keyAt_5 : decode cX2_keyAt 5 = .ok (.aload_n 0, 1) := by decide +kernel
theorem dX2_keyAt_6 : decode cX2_keyAt 6 = .ok (.getfield 22, 3) := by decide +kernel
theorem dX2_keyAt_9 : decode cX2_keyAt 9 = .ok (.if_icmp .ge 16, 3) := by decide +kernel
theorem dX2_keyAt_12 : decode cX2_keyAt 12 = .ok (.aload_n 0, 1) := by decide +kernel
theorem dX2_keyAt_13 : decode cX2_keyAt 13 = .ok (.getfield 9, 3) := by decide +kernel
theorem dX2_keyAt_16 : decode cX2_keyAt 16 = .ok (.aload_n 0, 1) := by decide +kernel
theorem dX2_keyAt_17 : decode cX2_keyAt 17 = .ok (.iload_n 1, 1) := by decide +kernel
theorem dX2_keyAt_18 : decode cX2_keyAt 18 = .ok (.invokevirtual 31, 3) := by decide +kernel
theorem dX2_keyAt_21 : decode cX2_keyAt 21 = .ok (.iaload, 1) := by decide +kernel
theorem dX2_keyAt_22 : decode cX2_keyAt 22 = .ok (.goto 5, 3) := by decide +kernel
theorem dX2_keyAt_25 : decode cX2_keyAt 25 = .ok (.bipush (-5), 2) := by decide +kernel
theorem dX2_keyAt_27 : decode cX2_keyAt 27 = .ok (.ireturn, 1) := by decide +kernel
set_option maxRecDepth 20000 in
theorem ggX2_valueAt_X2_slotOf : GoodIn wsX2_valueAt wsX2_slotOf := goodIn_r _ [7, 8, 9, 10, 11, 12] (by rfl) (by decide +kernel)
set_option maxRecDepth 20000 in
theorem gX2_valueAt_X2_slotOf : GoodIn wsX2_valueAt (wsV RX2 31 RX2 yX2_slotOf wsX2_slotOf) := goodIn_app (goodIn_r _ [3, 4, 5, 6] (by rfl) (by decide +kernel)) ggX2_valueAt_X2_slotOf
theorem dX2_valueAt_0 : decode cX2_valueAt 0 = .ok (.iload_n 1, 1) := by decide +kernel
theorem dX2_valueAt_1 : decode cX2_valueAt 1 = .ok (.ifCond .lt 24, 3) := by decide +kernel
theorem dX2_valueAt_4 : decode cX2_valueAt 4 = .ok (.iload_n 1, 1) := by decide +kernel
theorem dX2_valueAt_5 : decode cX2_valueAt 5 = .ok (.aload_n 0, 1) := by decide +kernel
theorem dX2_valueAt_6 : decode cX2_valueAt 6 = .ok (.getfield 22, 3) := by decide +kernel
theorem dX2_valueAt_9 : decode cX2_valueAt 9 = .ok (.if_icmp .ge 16, 3) := by decide +kernel
theorem dX2_valueAt_12 : decode cX2_valueAt 12 = .ok (.aload_n 0, 1) := by decide +kernel
theorem dX2_valueAt_13 : decode cX2_valueAt 13 = .ok (.getfield 15, 3) := by decide +kernel
theorem dX2_valueAt_16 : decode cX2_valueAt 16 = .ok (.aload_n 0, 1) := by decide +kernel
theorem dX2_valueAt_17 : decode cX2_valueAt 17 = .ok (.iload_n 1, 1) := by decide +kernel
theorem dX2_valueAt_18 : decode cX2_valueAt 18 = .ok (.invokevirtual 31, 3) := by decide +kernel
theorem dX2_valueAt_21 : decode cX2_valueAt 21 = .ok (.iaload, 1) := by decide +kernel
theorem dX2_valueAt_22 : decode cX2_valueAt 22 = .ok (.goto 5, 3) := by decide +kernel
theorem dX2_valueAt_25 : decode cX2_valueAt 25 = .ok (.bipush (-5), 2) := by decide +kernel
theorem dX2_valueAt_27 : decode cX2_valueAt 27 = .ok (.ireturn, 1) := by decide +kernel
theorem dX2_slotOf_0 : decode cX2_slotOf 0 = .ok (.aload_n 0, 1) := by decide +kernel
theorem dX2_slotOf_1 : decode cX2_slotOf 1 = .ok (.getfield 18, 3) := by decide +kernel
theorem dX2_slotOf_4 : decode cX2_slotOf 4 = .ok (.iload_n 1, 1) := by decide +kernel
theorem dX2_slotOf_5 : decode cX2_slotOf 5 = .ok (.iadd, 1) := by decide +kernel
theorem dX2_slotOf_6 : decode cX2_slotOf 6 = .ok (.bipush 24, 2) := by decide +kernel
theorem dX2_slotOf_8 : decode cX2_slotOf 8 = .ok (.irem, 1) := by decide +kernel
theorem dX2_slotOf_9 : decode cX2_slotOf 9 = .ok (.ireturn, 1) := by decide +kernel
set_option maxRecDepth 20000 in
theorem ggX3_init_J7_fill_53178 : GoodIn wsX3_init wsJ7_fill_53178 := goodIn_r _ [9] (by rfl) (by decide +kernel)
set_option maxRecDepth 20000 in
theorem gX3_init_J7_fill_53178 : GoodIn wsX3_init (va_wsS RX3 15 yJ7_fill_53178 wsJ7_fill_53178) := goodIn_app (goodIn_r _ [6, 7, 8] (by rfl) (by decide +kernel)) ggX3_init_J7_fill_53178
theorem dX3_init_0 : decode cX3_init 0 = .ok (.aload_n 0, 1) := by decide +kernel
theorem dX3_init_1 : decode cX3_init 1 = .ok (.invokespecial 3, 3) := by decide +kernel
theorem dX3_init_4 : decode cX3_init 4 = .ok (.aload_n 0, 1) := by decide +kernel
theorem dX3_init_5 : decode cX3_init 5 = .ok (.bipush 32, 2) := by decide +kernel
theorem dX3_init_7 : decode cX3_init 7 = .ok (.newarray .int, 2) := by decide +kernel
theorem dX3_init_9 : decode cX3_init 9 = .ok (.putfield 9, 3) := by decide +kernel
theorem dX3_init_12 : decode cX3_init 12 = .ok (.aload_n 0, 1) := by decide +kernel
theorem dX3_init_13 : decode cX3_init 13 = .ok (.getfield 9, 3) := by decide +kernel
theorem dX3_init_16 : decode cX3_init 16 = .ok (.bipush (-5), 2) := by decide +kernel
theorem dX3_init_18 : decode cX3_init 18 = .ok (.invokestatic 15, 3) := by decide +kernel
theorem dX3_init_21 : decode cX3_init 21 = .ok (.return_, 1) := by decide +kernel
theorem dX3_at_0 : decode cX3_at 0 = .ok (.iload_n 1, 1) := by decide +kernel
theorem dX3_at_1 : decode cX3_at 1 = .ok (.ifCond .lt 18, 3) := by decide +kernel
theorem dX3_at_4 : decode cX3_at 4 = .ok (.iload_n 1, 1) := by decide +kernel
theorem dX3_at_5 : decode cX3_at 5 = .ok (.bipush 32, 2) := by decide +kernel
theorem dX3_at_7 : decode cX3_at 7 = .ok (.if_icmp .ge 12, 3) := by decide +kernel
theorem dX3_at_10 : decode cX3_at 10 = .ok (.aload_n 0, 1) := by decide +kernel
theorem dX3_at_11 : decode cX3_at 11 = .ok (.getfield 9, 3) := by decide +kernel
theorem dX3_at_14 : decode cX3_at 14 = .ok (.iload_n 1, 1) := by decide +kernel
theorem dX3_at_15 : decode cX3_at 15 = .ok (.iaload, 1) := by decide +kernel
theorem dX3_at_16 : decode cX3_at 16 = .ok (.goto 5, 3) := by decide +kernel
theorem dX3_at_19 : decode cX3_at 19 = .ok (.bipush (-5), 2) := by decide +kernel
theorem dX3_at_21 : decode cX3_at 21 = .ok (.ireturn, 1) := by decide +kernel
theorem dX3_place_0 : decode cX3_place 0 = .ok (.iload_n 1, 1) := by decide +kernel
theorem dX3_place_1 : decode cX3_place 1 = .ok (.ifCond .lt 16, 3) := by decide +kernel
theorem dX3_place_4 : decode cX3_place 4 = .ok (.iload_n 1, 1) := by decide +kernel
theorem dX3_place_5 : decode cX3_place 5 = .ok (.bipush 32, 2) := by decide +kernel
theorem dX3_place_7 : decode cX3_place 7 = .ok (.if_icmp .ge 10, 3) := by decide +kernel
theorem dX3_place_10 : decode cX3_place 10 = .ok (.aload_n 0, 1) := by decide +kernel
theorem dX3_place_11 : decode cX3_place 11 = .ok (.getfield 9, 3) := by decide +kernel
theorem dX3_place_14 : decode cX3_place 14 = .ok (.iload_n 1, 1) := by decide +kernel
theorem dX3_place_15 : decode cX3_place 15 = .ok (.iload_n 2, 1) := by decide +kernel
theorem dX3_place_16 : decode cX3_place 16 = .ok (.iastore, 1) := by decide +kernel
theorem dX3_place_17 : decode cX3_place 17 = .ok (.return_, 1) := by decide +kernel
set_option maxRecDepth 20000 in
theorem ggX3_removeAll_J7_fill_53178 : GoodIn wsX3_removeAll wsJ7_fill_53178 := goodIn_r _ [5] (by rfl) (by decide +kernel)
set_option maxRecDepth 20000 in
theorem gX3_removeAll_J7_fill_53178 : GoodIn wsX3_removeAll (va_wsS RX3 15 yJ7_fill_53178 wsJ7_fill_53178) := goodIn_app (goodIn_r _ [2, 3, 4] (by rfl) (by decide +kernel)) ggX3_removeAll_J7_fill_53178
theorem dX3_removeAll_0 : decode cX3_removeAll 0 = .ok (.aload_n 0, 1) := by decide +kernel
theorem dX3_removeAll_1 : decode cX3_removeAll 1 = .ok (.getfield 9, 3) := by decide +kernel
theorem dX3_removeAll_4 : decode cX3_removeAll 4 = .ok (.bipush (-5), 2) := by decide +kernel
theorem dX3_removeAll_6 : decode cX3_removeAll 6 = .ok (.invokestatic 15, 3) := by decide +kernel
theorem dX3_removeAll_9 : decode cX3_removeAll 9 = .ok (.return_, 1) := by decide +kernel
theorem dX3_take_0 : decode cX3_take 0 = .ok (.aload_n 1, 1) := by decide +kernel
theorem dX3_take_1 : decode cX3_take 1 = .ok (.getfield 9, 3) := by decide +kernel
theorem dX3_take_4 : decode cX3_take 4 = .ok (.iconst 0, 1) := by decide +kernel
theorem dX3_take_5 : decode cX3_take 5 = .ok (.aload_n 0, 1) := by decide +kernel
theorem dX3_take_6 : decode cX3_take 6 = .ok (.getfield 9, 3) := by decide +kernel
theorem dX3_take_9 : decode cX3_take 9 = .ok (.iconst 0, 1) := by decide +kernel
theorem dX3_take_10 : decode cX3_take 10 = .ok (.bipush 32, 2) := by decide +kernel
theorem dX3_take_12 : decode cX3_take 12 = .ok (.invokestatic 21, 3) := by decide +kernel
theorem dX3_take_15 : decode cX3_take 15 = .ok (.return_, 1) := by decide +kernel
set_option maxRecDepth 20000 in
theorem ggX3_tell_X3_count : GoodIn wsX3_tell wsX3_count := goodIn_r _ [5, 6, 19] (by rfl) (by decide +kernel)
set_option maxRecDepth 20000 in
theorem gX3_tell_X3_count : GoodIn wsX3_tell (wsV RX3 27 RX3 yX3_count wsX3_count) := goodIn_app (goodIn_r _ [1, 2, 3, 4] (by rfl) (by decide +kernel)) ggX3_tell_X3_count
set_option maxRecDepth 20000 in
theorem ggX3_tell_X3_sum : GoodIn wsX3_tell wsX3_sum := goodIn_r _ [10, 6, 19] (by rfl) (by decide +kernel)
set_option maxRecDepth 20000 in
theorem gX3_tell_X3_sum : GoodIn wsX3_tell (wsV RX3 31 RX3 yX3_sum wsX3_sum) := goodIn_app (goodIn_r _ [7, 8, 9, 4] (by rfl) (by decide +kernel)) ggX3_tell_X3_sum
set_option maxRecDepth 20000 in
theorem ggX3_tell_X3_leastKey : GoodIn wsX3_tell wsX3_leastKey := goodIn_r _ [14, 6, 19] (by rfl) (by decide +kernel)
set_option maxRecDepth 20000 in
theorem gX3_tell_X3_leastKey : GoodIn wsX3_tell (wsV RX3 34 RX3 yX3_leastKey wsX3_leastKey) := goodIn_app (goodIn_r _ [11, 12, 13, 4] (by rfl) (by decide +kernel)) ggX3_tell_X3_leastKey
set_option maxRecDepth 20000 in
theorem ggX3_tell_X3_greatestKey : GoodIn wsX3_tell wsX3_greatestKey := goodIn_r _ [18, 6, 19] (by rfl) (by decide +kernel)
set_option maxRecDepth 20000 in
theorem gX3_tell_X3_greatestKey : GoodIn wsX3_tell (wsV RX3 37 RX3 yX3_greatestKey wsX3_greatestKey) := goodIn_app (goodIn_r _ [15, 16, 17, 4] (by rfl) (by decide +kernel)) ggX3_tell_X3_greatestKey
theorem dX3_tell_0 : decode cX3_tell 0 = .ok (.iload_n 1, 1) := by decide +kernel
theorem dX3_tell_1 : decode cX3_tell 1 = .ok (.tableswitch 42 0 2 #[27, 32, 37], 27) := by decide +kernel
theorem dX3_tell_28 : decode cX3_tell 28 = .ok (.aload_n 0, 1) := by decide +kernel
theorem dX3_tell_29 : decode cX3_tell 29 = .ok (.invokevirtual 27, 3) := by decide +kernel
theorem dX3_tell_32 : decode cX3_tell 32 = .ok (.ireturn, 1) := by decide +kernel
theorem dX3_tell_33 : decode cX3_tell 33 = .ok (.aload_n 0, 1) := by decide +kernel
theorem dX3_tell_34 : decode cX3_tell 34 = .ok (.invokevirtual 31, 3) := by decide +kernel
theorem dX3_tell_37 : decode cX3_tell 37 = .ok (.ireturn, 1) := by decide +kernel
theorem dX3_tell_38 : decode cX3_tell 38 = .ok (.aload_n 0, 1) := by decide +kernel
theorem dX3_tell_39 : decode cX3_tell 39 = .ok (.invokevirtual 34, 3) := by decide +kernel
theorem dX3_tell_42 : decode cX3_tell 42 = .ok (.ireturn, 1) := by decide +kernel
theorem dX3_tell_43 : decode cX3_tell 43 = .ok (.aload_n 0, 1) := by decide +kernel
theorem dX3_tell_44 : decode cX3_tell 44 = .ok (.invokevirtual 37, 3) := by decide +kernel
theorem dX3_tell_47 : decode cX3_tell 47 = .ok (.ireturn, 1) := by decide +kernel
theorem dX3_count_0 : decode cX3_count 0 = .ok (.iconst 0, 1) := by decide +kernel
theorem dX3_count_1 : decode cX3_count 1 = .ok (.istore_n 1, 1) := by decide +kernel
theorem dX3_count_2 : decode cX3_count 2 = .ok (.iconst 0, 1) := by decide +kernel
theorem dX3_count_3 : decode cX3_count 3 = .ok (.istore_n 2, 1) := by decide +kernel
theorem dX3_count_4 : decode cX3_count 4 = .ok (.iload_n 2, 1) := by decide +kernel
theorem dX3_count_5 : decode cX3_count 5 = .ok (.bipush 32, 2) := by decide +kernel
theorem dX3_count_7 : decode cX3_count 7 = .ok (.if_icmp .ge 23, 3) := by decide +kernel
theorem dX3_count_10 : decode cX3_count 10 = .ok (.aload_n 0, 1) := by decide +kernel
theorem dX3_count_11 : decode cX3_count 11 = .ok (.getfield 9, 3) := by decide +kernel
theorem dX3_count_14 : decode cX3_count 14 = .ok (.iload_n 2, 1) := by decide +kernel
theorem dX3_count_15 : decode cX3_count 15 = .ok (.iaload, 1) := by decide +kernel
theorem dX3_count_16 : decode cX3_count 16 = .ok (.bipush (-5), 2) := by decide +kernel
theorem dX3_count_18 : decode cX3_count 18 = .ok (.if_icmp .eq 6, 3) := by decide +kernel
theorem dX3_count_21 : decode cX3_count 21 = .ok (.iinc 1 1, 3) := by decide +kernel
theorem dX3_count_24 : decode cX3_count 24 = .ok (.iinc 2 1, 3) := by decide +kernel
theorem dX3_count_27 : decode cX3_count 27 = .ok (.goto (-23), 3) := by decide +kernel
theorem dX3_count_30 : decode cX3_count 30 = .ok (.iload_n 1, 1) := by decide +kernel
theorem dX3_count_31 : decode cX3_count 31 = .ok (.ireturn, 1) := by decide +kernel
theorem dX3_sum_0 : decode cX3_sum 0 = .ok (.iconst 0, 1) := by decide +kernel
theorem dX3_sum_1 : decode cX3_sum 1 = .ok (.istore_n 1, 1) := by decide +kernel
theorem dX3_sum_2 : decode cX3_sum 2 = .ok (.iconst 0, 1) := by decide +kernel
theorem dX3_sum_3 : decode cX3_sum 3 = .ok (.istore_n 2, 1) := by decide +kernel
theorem dX3_sum_4 : decode cX3_sum 4 = .ok (.iload_n 2, 1) := by decide +kernel
theorem dX3_sum_5 : decode cX3_sum 5 = .ok (.bipush 32, 2) := by decide +kernel
theorem dX3_sum_7 : decode cX3_sum 7 = .ok (.if_icmp .ge 29, 3) := by decide +kernel
theorem dX3_sum_10 : decode cX3_sum 10 = .ok (.aload_n 0, 1) := by decide +kernel
theorem dX3_sum_11 : decode cX3_sum 11 = .ok (.getfield 9, 3) := by decide +kernel
theorem dX3_sum_14 : decode cX3_sum 14 = .ok (.iload_n 2, 1) := by decide +kernel
theorem dX3_sum_15 : decode cX3_sum 15 = .ok (.iaload, 1) := by decide +kernel
theorem dX3_sum_16 : decode cX3_sum 16 = .ok (.bipush (-5), 2) := by decide +kernel
theorem dX3_sum_18 : decode cX3_sum 18 = .ok (.if_icmp .eq 12, 3) := by decide +kernel
theorem dX3_sum_21 : decode cX3_sum 21 = .ok (.iload_n 1, 1) := by decide +kernel
theorem dX3_sum_22 : decode cX3_sum 22 = .ok (.aload_n 0, 1) := by decide +kernel
theorem dX3_sum_23 : decode cX3_sum 23 = .ok (.getfield 9, 3) := by decide +kernel
theorem dX3_sum_26 : decode cX3_sum 26 = .ok (.iload_n 2, 1) := by decide +kernel
theorem dX3_sum_27 : decode cX3_sum 27 = .ok (.iaload, 1) := by decide +kernel
theorem dX3_sum_28 : decode cX3_sum 28 = .ok (.iadd, 1) := by decide +kernel
theorem dX3_sum_29 : decode cX3_sum 29 = .ok (.istore_n 1, 1) := by decide +kernel
theorem dX3_sum_30 : decode cX3_sum 30 = .ok (.iinc 2 1, 3) := by decide +kernel
theorem dX3_sum_33 : decode cX3_sum 33 = .ok (.goto (-29), 3) := by decide +kernel
theorem dX3_sum_36 : decode cX3_sum 36 = .ok (.iload_n 1, 1) := by decide +kernel
theorem dX3_sum_37 : decode cX3_sum 37 = .ok (.ireturn, 1) := by decide +kernel
theorem dX3_leastKey_0 : decode cX3_leastKey 0 = .ok (.iconst 0, 1) := by decide +kernel
theorem dX3_leastKey_1 : decode cX3_leastKey 1 = .ok (.istore_n 1, 1) := by decide +kernel
theorem dX3_leastKey_2 : decode cX3_leastKey 2 = .ok (.iload_n 1, 1) := by decide +kernel
theorem dX3_leastKey_3 : decode cX3_leastKey 3 = .ok (.bipush 32, 2) := by decide +kernel
theorem dX3_leastKey_5 : decode cX3_leastKey 5 = .ok (.if_icmp .ge 22, 3) := by decide +kernel
theorem dX3_leastKey_8 : decode cX3_leastKey 8 = .ok (.aload_n 0, 1) := by decide +kernel
theorem dX3_leastKey_9 : decode cX3_leastKey 9 = .ok (.getfield 9, 3) := by decide +kernel
theorem dX3_leastKey_12 : decode cX3_leastKey 12 = .ok (.iload_n 1, 1) := by decide +kernel
theorem dX3_leastKey_13 : decode cX3_leastKey 13 = .ok (.iaload, 1) := by decide +kernel
theorem dX3_leastKey_14 : decode cX3_leastKey 14 = .ok (.bipush (-5), 2) := by decide +kernel
theorem dX3_leastKey_16 : decode cX3_leastKey 16 = .ok (.if_icmp .eq 5, 3) := by decide +kernel
theorem dX3_leastKey_19 : decode cX3_leastKey 19 = .ok (.iload_n 1, 1) := by decide +kernel
theorem dX3_leastKey_20 : decode cX3_leastKey 20 = .ok (.ireturn, 1) := by decide +kernel
theorem dX3_leastKey_21 : decode cX3_leastKey 21 = .ok (.iinc 1 1, 3) := by decide +kernel
theorem dX3_leastKey_24 : decode cX3_leastKey 24 = .ok (.goto (-22), 3) := by decide +kernel
theorem dX3_leastKey_27 : decode cX3_leastKey 27 = .ok (.bipush (-5), 2) := by decide +kernel
theorem dX3_leastKey_29 : decode cX3_leastKey 29 = .ok (.ireturn, 1) := by decide +kernel
theorem dX3_greatestKey_0 : decode cX3_greatestKey 0 = .ok (.bipush 31, 2) := by decide +kernel
theorem dX3_greatestKey_2 : decode cX3_greatestKey 2 = .ok (.istore_n 1, 1) := by decide +kernel
theorem dX3_greatestKey_3 : decode cX3_greatestKey 3 = .ok (.iload_n 1, 1) := by decide +kernel
theorem dX3_greatestKey_4 : decode cX3_greatestKey 4 = .ok (.ifCond .lt 22, 3) := by decide +kernel
theorem dX3_greatestKey_7 : decode cX3_greatestKey 7 = .ok (.aload_n 0, 1) := by decide +kernel
theorem dX3_greatestKey_8 : decode cX3_greatestKey 8 = .ok (.getfield 9, 3) := by decide +kernel
theorem dX3_greatestKey_11 : decode cX3_greatestKey 11 = .ok (.iload_n 1, 1) := by decide +kernel
theorem dX3_greatestKey_12 : decode cX3_greatestKey 12 = .ok (.iaload, 1) := by decide +kernel
theorem dX3_greatestKey_13 : decode cX3_greatestKey 13 = .ok (.bipush (-5), 2) := by decide +kernel
theorem dX3_greatestKey_15 : decode cX3_greatestKey 15 = .ok (.if_icmp .eq 5, 3) := by decide +kernel
theorem dX3_greatestKey_18 : decode cX3_greatestKey 18 = .ok (.iload_n 1, 1) := by decide +kernel
theorem dX3_greatestKey_19 : decode cX3_greatestKey 19 = .ok (.ireturn, 1) := by decide +kernel
theorem dX3_greatestKey_20 : decode cX3_greatestKey 20 = .ok (.iinc 1 (-1), 3) := by decide +kernel
theorem dX3_greatestKey_23 : decode cX3_greatestKey 23 = .ok (.goto (-20), 3) := by decide +kernel
theorem dX3_greatestKey_26 : decode cX3_greatestKey 26 = .ok (.bipush (-5), 2) := by decide +kernel
theorem dX3_greatestKey_28 : decode cX3_greatestKey 28 = .ok (.ireturn, 1) := by decide +kernel
theorem dX4_init_0 : decode cX4_init 0 = .ok (.aload_n 0, 1) := by decide +kernel
theorem dX4_init_1 : decode cX4_init 1 = .ok (.invokespecial 3, 3) := by decide +kernel
theorem dX4_init_4 : decode cX4_init 4 = .ok (.aload_n 0, 1) := by decide +kernel
theorem dX4_init_5 : decode cX4_init 5 = .ok (.bipush 80, 2) := by decide +kernel
theorem dX4_init_7 : decode cX4_init 7 = .ok (.newarray .int, 2) := by decide +kernel
theorem dX4_init_9 : decode cX4_init 9 = .ok (.putfield 9, 3) := by decide +kernel
theorem dX4_init_12 : decode cX4_init 12 = .ok (.return_, 1) := by decide +kernel
set_option maxRecDepth 20000 in
theorem ggX4_appendCharacter_X6_isIn : GoodIn wsX4_appendCharacter wsX6_isIn := goodIn_r _ [5] (by rfl) (by decide +kernel)
set_option maxRecDepth 20000 in
theorem gX4_appendCharacter_X6_isIn_n15 : GoodIn wsX4_appendCharacter (wsX6_isIn) := ggX4_appendCharacter_X6_isIn
theorem dX4_appendCharacter_0 : decode cX4_appendCharacter 0 = .ok (.iload_n 1, 1) := by decide +kernel
theorem dX4_appendCharacter_1 : decode cX4_appendCharacter 1 = .ok (.bipush 32, 2) := by decide +kernel
theorem dX4_appendCharacter_3 : decode cX4_appendCharacter 3 = .ok (.bipush 126, 2) := by decide +kernel
theorem dX4_appendCharacter_5 : decode cX4_appendCharacter 5 = .ok (.invokestatic 15, 3) := by decide +kernel
theorem dX4_appendCharacter_8 : decode cX4_appendCharacter 8 = .ok (.ifCond .ne 6, 3) := by decide +kernel
theorem dX4_appendCharacter_11 : decode cX4_appendCharacter 11 = .ok (.bipush (-2), 2) := by decide +kernel
theorem dX4_appendCharacter_13 : decode cX4_appendCharacter 13 = .ok (.ireturn, 1) := by decide +kernel
theorem dX4_appendCharacter_14 : decode cX4_appendCharacter 14 = .ok (.aload_n 0, 1) := by decide +kernel
theorem dX4_appendCharacter_15 : decode cX4_appendCharacter 15 = .ok (.getfield 19, 3) := by decide +kernel
theorem dX4_appendCharacter_18 : decode cX4_appendCharacter 18 = .ok (.bipush 80, 2) := by decide +kernel
theorem dX4_appendCharacter_20 : decode cX4_appendCharacter 20 = .ok (.if_icmp .lt 6, 3) := by decide +kernel
theorem dX4_appendCharacter_23 : decode cX4_appendCharacter 23 = .ok (.bipush (-3), 2) := by decide +kernel
theorem dX4_appendCharacter_25 : decode cX4_appendCharacter 25 = .ok (.ireturn, 1) := by decide +kernel
theorem dX4_appendCharacter_26 : decode cX4_appendCharacter 26 = .ok (.aload_n 0, 1) := by decide +kernel
theorem dX4_appendCharacter_27 : decode cX4_appendCharacter 27 = .ok (.getfield 9, 3) := by decide +kernel
theorem dX4_appendCharacter_30 : decode cX4_appendCharacter 30 = .ok (.aload_n 0, 1) := by decide +kernel
theorem dX4_appendCharacter_31 : decode cX4_appendCharacter 31 = .ok (.getfield 19, 3) := by decide +kernel
theorem dX4_appendCharacter_34 : decode cX4_appendCharacter 34 = .ok (.iload_n 1, 1) := by decide +kernel
theorem dX4_appendCharacter_35 : decode cX4_appendCharacter 35 = .ok (.iastore, 1) := by decide +kernel
theorem dX4_appendCharacter_36 : decode cX4_appendCharacter 36 = .ok (.aload_n 0, 1) := by decide +kernel
theorem dX4_appendCharacter_37 : decode cX4_appendCharacter 37 = .ok (.dup, 1) := by decide +kernel
theorem dX4_appendCharacter_38 : decode cX4_appendCharacter 38 = .ok (.getfield 19, 3) := by decide +kernel
theorem dX4_appendCharacter_41 : decode cX4_appendCharacter 41 = .ok (.iconst 1, 1) := by decide +kernel
theorem dX4_appendCharacter_42 : decode cX4_appendCharacter 42 = .ok (.iadd, 1) := by decide +kernel
theorem dX4_appendCharacter_43 : decode cX4_appendCharacter 43 = .ok (.putfield 19, 3) := by decide +kernel
theorem dX4_appendCharacter_46 : decode cX4_appendCharacter 46 = .ok (.aload_n 0, 1) := by decide +kernel
theorem dX4_appendCharacter_47 : decode cX4_appendCharacter 47 = .ok (.getfield 19, 3) := by decide +kernel
theorem dX4_appendCharacter_50 : decode cX4_appendCharacter 50 = .ok (.ireturn, 1) := by decide +kernel
theorem dX4_empty_0 : decode cX4_empty 0 = .ok (.aload_n 0, 1) := by decide +kernel
theorem dX4_empty_1 : decode cX4_empty 1 = .ok (.getfield 19, 3) := by decide +kernel
theorem dX4_empty_4 : decode cX4_empty 4 = .ok (.istore_n 1, 1) := by decide +kernel
theorem dX4_empty_5 : decode cX4_empty 5 = .ok (.aload_n 0, 1) := by decide +kernel
theorem dX4_empty_6 : decode cX4_empty 6 = .ok (.iconst 0, 1) := by decide +kernel
theorem dX4_empty_7 : decode cX4_empty 7 = .ok (.putfield 19, 3) := by decide +kernel
theorem dX4_empty_10 : decode cX4_empty 10 = .ok (.iload_n 1, 1) := by decide +kernel
theorem dX4_empty_11 : decode cX4_empty 11 = .ok (.ireturn, 1) := by decide +kernel
theorem dX4_goToStart_0 : decode cX4_goToStart 0 = .ok (.aload_n 0, 1) := by decide +kernel
theorem dX4_goToStart_1 : decode cX4_goToStart 1 = .ok (.iconst 0, 1) := by decide +kernel
theorem dX4_goToStart_2 : decode cX4_goToStart 2 = .ok (.putfield 23, 3) := by decide +kernel
theorem dX4_goToStart_5 : decode cX4_goToStart 5 = .ok (.return_, 1) := by decide +kernel
set_option maxRecDepth 20000 in
theorem ggX4_findFault_X4_goToStart : GoodIn wsX4_findFault wsX4_goToStart := goodIn_r _ [7, 1, 44, 45, 46, 47, 48, 49, 50] (by rfl) (by decide +kernel)
set_option maxRecDepth 20000 in
theorem gX4_findFault_X4_goToStart : GoodIn wsX4_findFault (wsV RX4 26 RX4 yX4_goToStart wsX4_goToStart) := goodIn_app (goodIn_r _ [3, 4, 5, 6] (by rfl) (by decide +kernel)) ggX4_findFault_X4_goToStart
set_option maxRecDepth 20000 in
theorem ggX4_findFault_X4_readOrder : GoodIn wsX4_findFault wsX4_readOrder := goodIn_r _ [11, 12, 1, 13, 14, 15, 16, 6, 17, 2, 18, 19, 20, 21, 22, 23, 24, 25, 26, 27, 28, 29, 30, 31, 32, 33, 34, 35, 36, 37, 38, 39, 40, 41, 42, 43, 44, 45, 46, 47, 48, 49, 50] (by rfl) (by decide +kernel)
set_option maxRecDepth 20000 in
theorem gX4_findFault_X4_readOrder : GoodIn wsX4_findFault (wsV RX4 29 RX4 yX4_readOrder wsX4_readOrder) := goodIn_app (goodIn_r _ [8, 9, 10, 6] (by rfl) (by decide +kernel)) ggX4_findFault_X4_readOrder
set_option maxRecDepth 20000 in
theorem ggX4_findFault_X4_skip : GoodIn wsX4_findFault wsX4_skip := goodIn_r _ [38, 1, 14, 15, 16, 6, 17, 2, 18, 44, 45, 46, 47, 48, 49, 50] (by rfl) (by decide +kernel)
set_option maxRecDepth 20000 in
theorem gX4_findFault_X4_skip : GoodIn wsX4_findFault (wsV RX4 33 RX4 yX4_skip wsX4_skip) := goodIn_app (goodIn_r _ [35, 36, 37, 6] (by rfl) (by decide +kernel)) ggX4_findFault_X4_skip
theorem dX4_findFault_0 : decode cX4_findFault 0 = .ok (.aload_n 0, 1) := by decide +kernel
theorem dX4_findFault_1 : decode cX4_findFault 1 = .ok (.invokevirtual 26, 3) := by decide +kernel
theorem dX4_findFault_4 : decode cX4_findFault 4 = .ok (.iconst 0, 1) := by decide +kernel
theorem dX4_findFault_5 : decode cX4_findFault 5 = .ok (.istore_n 1, 1) := by decide +kernel
theorem dX4_findFault_6 : decode cX4_findFault 6 = .ok (.iload_n 1, 1) := by decide +kernel
theorem dX4_findFault_7 : decode cX4_findFault 7 = .ok (.bipush 80, 2) := by decide +kernel
theorem dX4_findFault_9 : decode cX4_findFault 9 = .ok (.if_icmp .ge 49, 3) := by decide +kernel
theorem dX4_findFault_12 : decode cX4_findFault 12 = .ok (.aload_n 0, 1) := by decide +kernel
theorem dX4_findFault_13 : decode cX4_findFault 13 = .ok (.invokevirtual 29, 3) := by decide +kernel
theorem dX4_findFault_16 : decode cX4_findFault 16 = .ok (.ifCond .ne 8, 3) := by decide +kernel
theorem dX4_findFault_19 : decode cX4_findFault 19 = .ok (.aload_n 0, 1) := by decide +kernel
theorem dX4_findFault_20 : decode cX4_findFault 20 = .ok (.getfield 23, 3) := by decide +kernel
theorem dX4_findFault_23 : decode cX4_findFault 23 = .ok (.ireturn, 1) := by decide +kernel
theorem dX4_findFault_24 : decode cX4_findFault 24 = .ok (.aload_n 0, 1) := by decide +kernel
theorem dX4_findFault_25 : decode cX4_findFault 25 = .ok (.getfield 23, 3) := by decide +kernel
theorem dX4_findFault_28 : decode cX4_findFault 28 = .ok (.aload_n 0, 1) := by decide +kernel
theorem dX4_findFault_29 : decode cX4_findFault 29 = .ok (.getfield 19, 3) := by decide +kernel
theorem dX4_findFault_32 : decode cX4_findFault 32 = .ok (.if_icmp .lt 6, 3) := by decide +kernel
theorem dX4_findFault_35 : decode cX4_findFault 35 = .ok (.bipush (-5), 2) := by decide +kernel
theorem dX4_findFault_37 : decode cX4_findFault 37 = .ok (.ireturn, 1) := by decide +kernel
theorem dX4_findFault_38 : decode cX4_findFault 38 = .ok (.aload_n 0, 1) := by decide +kernel
theorem dX4_findFault_39 : decode cX4_findFault 39 = .ok (.bipush 44, 2) := by decide +kernel
theorem dX4_findFault_41 : decode cX4_findFault 41 = .ok (.invokevirtual 33, 3) := by decide +kernel
theorem dX4_findFault_44 : decode cX4_findFault 44 = .ok (.ifCond .ne 8, 3) := by decide +kernel
theorem dX4_findFault_47 : decode cX4_findFault 47 = .ok (.aload_n 0, 1) := by decide +kernel
theorem dX4_findFault_48 : decode cX4_findFault 48 = .ok (.getfield 23, 3) := by decide +kernel
theorem dX4_findFault_51 : decode cX4_findFault 51 = .ok (.ireturn, 1) := by decide +kernel
theorem dX4_findFault_52 : decode cX4_findFault 52 = .ok (.iinc 1 1, 3) := by decide +kernel
theorem dX4_findFault_55 : decode cX4_findFault 55 = .ok (.goto (-49), 3) := by decide +kernel
theorem dX4_findFault_58 : decode cX4_findFault 58 = .ok (.aload_n 0, 1) := by decide +kernel
theorem dX4_findFault_59 : decode cX4_findFault 59 = .ok (.getfield 23, 3) := by decide +kernel
theorem dX4_findFault_62 : decode cX4_findFault 62 = .ok (.ireturn, 1) := by decide +kernel
set_option maxRecDepth 20000 in
theorem ggX4_readOrder_X4_here : GoodIn wsX4_readOrder wsX4_here := goodIn_r _ [8, 2, 9, 10, 36, 37, 38, 39, 40, 41, 42] (by rfl) (by decide +kernel)
set_option maxRecDepth 20000 in
theorem gX4_readOrder_X4_here : GoodIn wsX4_readOrder (wsV RX4 37 RX4 yX4_here wsX4_here) := goodIn_app (goodIn_r _ [4, 5, 6, 7] (by rfl) (by decide +kernel)) ggX4_readOrder_X4_here
set_option maxRecDepth 20000 in
theorem ggX4_readOrder_X4_readFirst : GoodIn wsX4_readOrder wsX4_readFirst := goodIn_r _ [14, 15, 3, 16, 17, 18, 7, 19, 2, 20, 21, 22, 23, 4, 5, 6, 8, 9, 10, 24, 25, 26, 36, 37, 38, 39, 40, 41, 42] (by rfl) (by decide +kernel)
set_option maxRecDepth 20000 in
theorem gX4_readOrder_X4_readFirst : GoodIn wsX4_readOrder (wsV RX4 44 RX4 yX4_readFirst wsX4_readFirst) := goodIn_app (goodIn_r _ [11, 12, 13, 7] (by rfl) (by decide +kernel)) ggX4_readOrder_X4_readFirst
set_option maxRecDepth 20000 in
theorem ggX4_readOrder_X4_skip : GoodIn wsX4_readOrder wsX4_skip := goodIn_r _ [30, 2, 4, 5, 6, 7, 8, 9, 10, 36, 37, 38, 39, 40, 41, 42] (by rfl) (by decide +kernel)
set_option maxRecDepth 20000 in
theorem gX4_readOrder_X4_skip : GoodIn wsX4_readOrder (wsV RX4 33 RX4 yX4_skip wsX4_skip) := goodIn_app (goodIn_r _ [27, 28, 29, 7] (by rfl) (by decide +kernel)) ggX4_readOrder_X4_skip
set_option maxRecDepth 20000 in
theorem ggX4_readOrder_X4_readSecond : GoodIn wsX4_readOrder wsX4_readSecond := goodIn_r _ [34, 15, 35, 16, 17, 18, 7, 19, 2, 20, 21, 22, 23, 4, 5, 6, 8, 9, 10, 24, 25, 26, 36, 37, 38, 39, 40, 41, 42] (by rfl) (by decide +kernel)
set_option maxRecDepth 20000 in
theorem gX4_readOrder_X4_readSecond : GoodIn wsX4_readOrder (wsV RX4 48 RX4 yX4_readSecond wsX4_readSecond) := goodIn_app (goodIn_r _ [31, 32, 33, 7] (by rfl) (by decide +kernel)) ggX4_readOrder_X4_readSecond
theorem dX4_readOrder_0 : decode cX4_readOrder 0 = .ok (.aload_n 0, 1) := by decide +kernel
theorem dX4_readOrder_1 : decode cX4_readOrder 1 = .ok (.aload_n 0, 1) := by decide +kernel
theorem dX4_readOrder_2 : decode cX4_readOrder 2 = .ok (.invokevirtual 37, 3) := by decide +kernel
theorem dX4_readOrder_5 : decode cX4_readOrder 5 = .ok (.putfield 41, 3) := by decide +kernel
theorem dX4_readOrder_8 : decode cX4_readOrder 8 = .ok (.aload_n 0, 1) := by decide +kernel
theorem dX4_readOrder_9 : decode cX4_readOrder 9 = .ok (.getfield 41, 3) := by decide +kernel
theorem dX4_readOrder_12 : decode cX4_readOrder 12 = .ok (.tableswitch 233 98 117 #[159, 233, 233, 141, 233, 221, 233, 233, 233, 233, 221, 233, 233, 233, 96, 233, 233, 221, 194, 221], 96) := by decide +kernel
theorem dX4_readOrder_108 : decode cX4_readOrder 108 = .ok (.aload_n 0, 1) := by decide +kernel
theorem dX4_readOrder_109 : decode cX4_readOrder 109 = .ok (.dup, 1) := by decide +kernel
theorem dX4_readOrder_110 : decode cX4_readOrder 110 = .ok (.getfield 23, 3) := by decide +kernel
theorem dX4_readOrder_113 : decode cX4_readOrder 113 = .ok (.iconst 1, 1) := by decide +kernel
theorem dX4_readOrder_114 : decode cX4_readOrder 114 = .ok (.iadd, 1) := by decide +kernel
theorem dX4_readOrder_115 : decode cX4_readOrder 115 = .ok (.putfield 23, 3) := by decide +kernel
theorem dX4_readOrder_118 : decode cX4_readOrder 118 = .ok (.aload_n 0, 1) := by decide +kernel
theorem dX4_readOrder_119 : decode cX4_readOrder 119 = .ok (.iconst 0, 1) := by decide +kernel
theorem dX4_readOrder_120 : decode cX4_readOrder 120 = .ok (.bipush 31, 2) := by decide +kernel
theorem dX4_readOrder_122 : decode cX4_readOrder 122 = .ok (.invokevirtual 44, 3) := by decide +kernel
theorem dX4_readOrder_125 : decode cX4_readOrder 125 = .ok (.ifCond .eq 26, 3) := by decide +kernel
theorem dX4_readOrder_128 : decode cX4_readOrder 128 = .ok (.aload_n 0, 1) := by decide +kernel
theorem dX4_readOrder_129 : decode cX4_readOrder 129 = .ok (.bipush 61, 2) := by decide +kernel
theorem dX4_readOrder_131 : decode cX4_readOrder 131 = .ok (.invokevirtual 33, 3) := by decide +kernel
theorem dX4_readOrder_134 : decode cX4_readOrder 134 = .ok (.ifCond .eq 17, 3) := by decide +kernel
theorem dX4_readOrder_137 : decode cX4_readOrder 137 = .ok (.aload_n 0, 1) := by decide +kernel
theorem dX4_readOrder_138 : decode cX4_readOrder 138 = .ok (.iconst 0, 1) := by decide +kernel
theorem dX4_readOrder_139 : decode cX4_readOrder 139 = .ok (.bipush 99, 2) := by decide +kernel
theorem dX4_readOrder_141 : decode cX4_readOrder 141 = .ok (.invokevirtual 48, 3) := by decide +kernel
theorem dX4_readOrder_144 : decode cX4_readOrder 144 = .ok (.ifCond .eq 7, 3) := by decide +kernel
theorem dX4_readOrder_147 : decode cX4_readOrder 147 = .ok (.iconst 1, 1) := by decide +kernel
theorem dX4_readOrder_148 : decode cX4_readOrder 148 = .ok (.goto 4, 3) := by decide +kernel
theorem dX4_readOrder_151 : decode cX4_readOrder 151 = .ok (.iconst 0, 1) := by decide +kernel
theorem dX4_readOrder_152 : decode cX4_readOrder 152 = .ok (.ireturn, 1) := by decide +kernel
theorem dX4_readOrder_153 : decode cX4_readOrder 153 = .ok (.aload_n 0, 1) := by decide +kernel
theorem dX4_readOrder_154 : decode cX4_readOrder 154 = .ok (.dup, 1) := by decide +kernel
theorem dX4_readOrder_155 : decode cX4_readOrder 155 = .ok (.getfield 23, 3) := by decide +kernel
theorem dX4_readOrder_158 : decode cX4_readOrder 158 = .ok (.iconst 1, 1) := by decide +kernel
theorem dX4_readOrder_159 : decode cX4_readOrder 159 = .ok (.iadd, 1) := by decide +kernel
theorem dX4_readOrder_160 : decode cX4_readOrder 160 = .ok (.putfield 23, 3) := by decide +kernel
theorem dX4_readOrder_163 : decode cX4_readOrder 163 = .ok (.aload_n 0, 1) := by decide +kernel
theorem dX4_readOrder_164 : decode cX4_readOrder 164 = .ok (.iconst 0, 1) := by decide +kernel
theorem dX4_readOrder_165 : decode cX4_readOrder 165 = .ok (.bipush 31, 2) := by decide +kernel
theorem dX4_readOrder_167 : decode cX4_readOrder 167 = .ok (.invokevirtual 44, 3) := by decide +kernel
theorem dX4_readOrder_170 : decode cX4_readOrder 170 = .ok (.ireturn, 1) := by decide +kernel
theorem dX4_readOrder_171 : decode cX4_readOrder 171 = .ok (.aload_n 0, 1) := by decide +kernel
theorem dX4_readOrder_172 : decode cX4_readOrder 172 = .ok (.dup, 1) := by decide +kernel
theorem dX4_readOrder_173 : decode cX4_readOrder 173 = .ok (.getfield 23, 3) := by decide +kernel
theorem dX4_readOrder_176 : decode cX4_readOrder 176 = .ok (.iconst 1, 1) := by decide +kernel
theorem dX4_readOrder_177 : decode cX4_readOrder 177 = .ok (.iadd, 1) := by decide +kernel
theorem dX4_readOrder_178 : decode cX4_readOrder 178 = .ok (.putfield 23, 3) := by decide +kernel
theorem dX4_readOrder_181 : decode cX4_readOrder 181 = .ok (.aload_n 0, 1) := by decide +kernel
theorem dX4_readOrder_182 : decode cX4_readOrder 182 = .ok (.iconst 0, 1) := by decide +kernel
theorem dX4_readOrder_183 : decode cX4_readOrder 183 = .ok (.iconst 4, 1) := by decide +kernel
theorem dX4_readOrder_184 : decode cX4_readOrder 184 = .ok (.invokevirtual 44, 3) := by decide +kernel
theorem dX4_readOrder_187 : decode cX4_readOrder 187 = .ok (.ifCond .eq 17, 3) := by decide +kernel
theorem dX4_readOrder_190 : decode cX4_readOrder 190 = .ok (.aload_n 0, 1) := by decide +kernel
theorem dX4_readOrder_191 : decode cX4_readOrder 191 = .ok (.iconst 1, 1) := by decide +kernel
theorem dX4_readOrder_192 : decode cX4_readOrder 192 = .ok (.bipush 8, 2) := by decide +kernel
theorem dX4_readOrder_194 : decode cX4_readOrder 194 = .ok (.invokevirtual 48, 3) := by decide +kernel
theorem dX4_readOrder_197 : decode cX4_readOrder 197 = .ok (.ifCond .eq 7, 3) := by decide +kernel
theorem dX4_readOrder_200 : decode cX4_readOrder 200 = .ok (.iconst 1, 1) := by decide +kernel
theorem dX4_readOrder_201 : decode cX4_readOrder 201 = .ok (.goto 4, 3) := by decide +kernel
theorem dX4_readOrder_204 : decode cX4_readOrder 204 = .ok (.iconst 0, 1) := by decide +kernel
theorem dX4_readOrder_205 : decode cX4_readOrder 205 = .ok (.ireturn, 1) := by decide +kernel
theorem dX4_readOrder_206 : decode cX4_readOrder 206 = .ok (.aload_n 0, 1) := by decide +kernel
theorem dX4_readOrder_207 : decode cX4_readOrder 207 = .ok (.dup, 1) := by decide +kernel
theorem dX4_readOrder_208 : decode cX4_readOrder 208 = .ok (.getfield 23, 3) := by decide +kernel
theorem dX4_readOrder_211 : decode cX4_readOrder 211 = .ok (.iconst 1, 1) := by decide +kernel
theorem dX4_readOrder_212 : decode cX4_readOrder 212 = .ok (.iadd, 1) := by decide +kernel
theorem dX4_readOrder_213 : decode cX4_readOrder 213 = .ok (.putfield 23, 3) := by decide +kernel
theorem dX4_readOrder_216 : decode cX4_readOrder 216 = .ok (.aload_n 0, 1) := by decide +kernel
theorem dX4_readOrder_217 : decode cX4_readOrder 217 = .ok (.iconst 1, 1) := by decide +kernel
theorem dX4_readOrder_218 : decode cX4_readOrder 218 = .ok (.bipush 99, 2) := by decide +kernel
theorem dX4_readOrder_220 : decode cX4_readOrder 220 = .ok (.invokevirtual 44, 3) := by decide +kernel
theorem dX4_readOrder_223 : decode cX4_readOrder 223 = .ok (.ifCond .ne 8, 3) := by decide +kernel
theorem dX4_readOrder_226 : decode cX4_readOrder 226 = .ok (.aload_n 0, 1) := by decide +kernel
theorem dX4_readOrder_227 : decode cX4_readOrder 227 = .ok (.iconst 1, 1) := by decide +kernel
theorem dX4_readOrder_228 : decode cX4_readOrder 228 = .ok (.putfield 51, 3) := by decide +kernel
theorem dX4_readOrder_231 : decode cX4_readOrder 231 = .ok (.iconst 1, 1) := by decide +kernel
theorem dX4_readOrder_232 : decode cX4_readOrder 232 = .ok (.ireturn, 1) := by decide +kernel
theorem dX4_readOrder_233 : decode cX4_readOrder 233 = .ok (.aload_n 0, 1) := by decide +kernel
theorem dX4_readOrder_234 : decode cX4_readOrder 234 = .ok (.dup, 1) := by decide +kernel
theorem dX4_readOrder_235 : decode cX4_readOrder 235 = .ok (.getfield 23, 3) := by decide +kernel
theorem dX4_readOrder_238 : decode cX4_readOrder 238 = .ok (.iconst 1, 1) := by decide +kernel
theorem dX4_readOrder_239 : decode cX4_readOrder 239 = .ok (.iadd, 1) := by decide +kernel
theorem dX4_readOrder_240 : decode cX4_readOrder 240 = .ok (.putfield 23, 3) := by decide +kernel
theorem dX4_readOrder_243 : decode cX4_readOrder 243 = .ok (.iconst 1, 1) := by decide +kernel
theorem dX4_readOrder_244 : decode cX4_readOrder 244 = .ok (.ireturn, 1) := by decide +kernel
theorem dX4_readOrder_245 : decode cX4_readOrder 245 = .ok (.iconst 0, 1) := by decide +kernel
theorem dX4_readOrder_246 : decode cX4_readOrder 246 = .ok (.ireturn, 1) := by decide +kernel
set_option maxRecDepth 20000 in
theorem ggX4_skip_X4_here : GoodIn wsX4_skip wsX4_here := goodIn_r _ [6, 1, 7, 8, 9, 10, 11, 12, 13, 14, 15] (by rfl) (by decide +kernel)
set_option maxRecDepth 20000 in
theorem gX4_skip_X4_here : GoodIn wsX4_skip (wsV RX4 37 RX4 yX4_here wsX4_here) := goodIn_app (goodIn_r _ [2, 3, 4, 5] (by rfl) (by decide +kernel)) ggX4_skip_X4_here
theorem dX4_skip_0 : decode cX4_skip 0 = .ok (.aload_n 0, 1) := by decide +kernel
theorem dX4_skip_1 : decode cX4_skip 1 = .ok (.invokevirtual 37, 3) := by decide +kernel
theorem dX4_skip_4 : decode cX4_skip 4 = .ok (.iload_n 1, 1) := by decide +kernel
theorem dX4_skip_5 : decode cX4_skip 5 = .ok (.if_icmp .eq 5, 3) := by decide +kernel
theorem dX4_skip_8 : decode cX4_skip 8 = .ok (.iconst 0, 1) := by decide +kernel
theorem dX4_skip_9 : decode cX4_skip 9 = .ok (.ireturn, 1) := by decide +kernel
theorem dX4_skip_10 : decode cX4_skip 10 = .ok (.aload_n 0, 1) := by decide +kernel
theorem dX4_skip_11 : decode cX4_skip 11 = .ok (.dup, 1) := by decide +kernel
theorem dX4_skip_12 : decode cX4_skip 12 = .ok (.getfield 23, 3) := by decide +kernel
theorem dX4_skip_15 : decode cX4_skip 15 = .ok (.iconst 1, 1) := by decide +kernel
theorem dX4_skip_16 : decode cX4_skip 16 = .ok (.iadd, 1) := by decide +kernel
theorem dX4_skip_17 : decode cX4_skip 17 = .ok (.putfield 23, 3) := by decide +kernel
theorem dX4_skip_20 : decode cX4_skip 20 = .ok (.iconst 1, 1) := by decide +kernel
theorem dX4_skip_21 : decode cX4_skip 21 = .ok (.ireturn, 1) := by decide +kernel
set_option maxRecDepth 20000 in
theorem ggX4_readFirst_X4_readNumber : GoodIn wsX4_readFirst wsX4_readNumber := goodIn_r _ [7, 1, 8, 9, 10, 11, 6, 12, 13, 14, 15, 16, 17, 18, 19, 20, 21, 22, 23, 24, 25, 26, 27, 28] (by rfl) (by decide +kernel)
set_option maxRecDepth 20000 in
theorem gX4_readFirst_X4_readNumber : GoodIn wsX4_readFirst (wsV RX4 54 RX4 yX4_readNumber wsX4_readNumber) := goodIn_app (goodIn_r _ [3, 4, 5, 6] (by rfl) (by decide +kernel)) ggX4_readFirst_X4_readNumber
theorem dX4_readFirst_0 : decode cX4_readFirst 0 = .ok (.aload_n 0, 1) := by decide +kernel
theorem dX4_readFirst_1 : decode cX4_readFirst 1 = .ok (.iload_n 1, 1) := by decide +kernel
theorem dX4_readFirst_2 : decode cX4_readFirst 2 = .ok (.iload_n 2, 1) := by decide +kernel
theorem dX4_readFirst_3 : decode cX4_readFirst 3 = .ok (.invokevirtual 54, 3) := by decide +kernel
theorem dX4_readFirst_6 : decode cX4_readFirst 6 = .ok (.istore_n 3, 1) := by decide +kernel
theorem dX4_readFirst_7 : decode cX4_readFirst 7 = .ok (.aload_n 0, 1) := by decide +kernel
theorem dX4_readFirst_8 : decode cX4_readFirst 8 = .ok (.aload_n 0, 1) := by decide +kernel
theorem dX4_readFirst_9 : decode cX4_readFirst 9 = .ok (.getfield 57, 3) := by decide +kernel
theorem dX4_readFirst_12 : decode cX4_readFirst 12 = .ok (.putfield 51, 3) := by decide +kernel
theorem dX4_readFirst_15 : decode cX4_readFirst 15 = .ok (.iload_n 3, 1) := by decide +kernel
theorem dX4_readFirst_16 : decode cX4_readFirst 16 = .ok (.ireturn, 1) := by decide +kernel
set_option maxRecDepth 20000 in
theorem ggX4_readSecond_X4_readNumber : GoodIn wsX4_readSecond wsX4_readNumber := goodIn_r _ [7, 1, 8, 9, 10, 11, 6, 12, 13, 14, 15, 16, 17, 18, 19, 20, 21, 22, 23, 24, 25, 26, 27, 28] (by rfl) (by decide +kernel)
set_option maxRecDepth 20000 in
theorem gX4_readSecond_X4_readNumber : GoodIn wsX4_readSecond (wsV RX4 54 RX4 yX4_readNumber wsX4_readNumber) := goodIn_app (goodIn_r _ [3, 4, 5, 6] (by rfl) (by decide +kernel)) ggX4_readSecond_X4_readNumber
theorem dX4_readSecond_0 : decode cX4_readSecond 0 = .ok (.aload_n 0, 1) := by decide +kernel
theorem dX4_readSecond_1 : decode cX4_readSecond 1 = .ok (.iload_n 1, 1) := by decide +kernel
theorem dX4_readSecond_2 : decode cX4_readSecond 2 = .ok (.iload_n 2, 1) := by decide +kernel
theorem dX4_readSecond_3 : decode cX4_readSecond 3 = .ok (.invokevirtual 54, 3) := by decide +kernel
theorem dX4_readSecond_6 : decode cX4_readSecond 6 = .ok (.istore_n 3, 1) := by decide +kernel
theorem dX4_readSecond_7 : decode cX4_readSecond 7 = .ok (.aload_n 0, 1) := by decide +kernel
theorem dX4_readSecond_8 : decode cX4_readSecond 8 = .ok (.aload_n 0, 1) := by decide +kernel
theorem dX4_readSecond_9 : decode cX4_readSecond 9 = .ok (.getfield 57, 3) := by decide +kernel
theorem dX4_readSecond_12 : decode cX4_readSecond 12 = .ok (.putfield 60, 3) := by decide +kernel
theorem dX4_readSecond_15 : decode cX4_readSecond 15 = .ok (.iload_n 3, 1) := by decide +kernel
theorem dX4_readSecond_16 : decode cX4_readSecond 16 = .ok (.ireturn, 1) := by decide +kernel
set_option maxRecDepth 20000 in
theorem ggX4_readNumber_X4_digitHere : GoodIn wsX4_readNumber wsX4_digitHere := goodIn_r _ [7, 8, 9, 10, 6, 11, 2, 12, 13, 14, 15, 16, 17, 18, 19, 20, 21, 22, 23] (by rfl) (by decide +kernel)
set_option maxRecDepth 20000 in
theorem gX4_readNumber_X4_digitHere : GoodIn wsX4_readNumber (wsV RX4 63 RX4 yX4_digitHere wsX4_digitHere) := goodIn_app (goodIn_r _ [3, 4, 5, 6] (by rfl) (by decide +kernel)) ggX4_readNumber_X4_digitHere
theorem dX4_readNumber_0 : decode cX4_readNumber 0 = .ok (.aload_n 0, 1) := by decide +kernel
theorem dX4_readNumber_1 : decode cX4_readNumber 1 = .ok (.aload_n 0, 1) := by decide +kernel
theorem dX4_readNumber_2 : decode cX4_readNumber 2 = .ok (.invokevirtual 63, 3) := by decide +kernel
theorem dX4_readNumber_5 : decode cX4_readNumber 5 = .ok (.putfield 57, 3) := by decide +kernel
theorem dX4_readNumber_8 : decode cX4_readNumber 8 = .ok (.aload_n 0, 1) := by decide +kernel
theorem dX4_readNumber_9 : decode cX4_readNumber 9 = .ok (.getfield 57, 3) := by decide +kernel
theorem dX4_readNumber_12 : decode cX4_readNumber 12 = .ok (.iload_n 1, 1) := by decide +kernel
theorem dX4_readNumber_13 : decode cX4_readNumber 13 = .ok (.if_icmp .lt 11, 3) := by decide +kernel
theorem dX4_readNumber_16 : decode cX4_readNumber 16 = .ok (.aload_n 0, 1) := by decide +kernel
theorem dX4_readNumber_17 : decode cX4_readNumber 17 = .ok (.getfield 57, 3) := by decide +kernel
theorem dX4_readNumber_20 : decode cX4_readNumber 20 = .ok (.iload_n 2, 1) := by decide +kernel
theorem dX4_readNumber_21 : decode cX4_readNumber 21 = .ok (.if_icmp .le 5, 3) := by decide +kernel
theorem dX4_readNumber_24 : decode cX4_readNumber 24 = .ok (.iconst 0, 1) := by decide +kernel
theorem dX4_readNumber_25 : decode cX4_readNumber 25 = .ok (.ireturn, 1) := by decide +kernel
theorem dX4_readNumber_26 : decode cX4_readNumber 26 = .ok (.aload_n 0, 1) := by decide +kernel
theorem dX4_readNumber_27 : decode cX4_readNumber 27 = .ok (.dup, 1) := by decide +kernel
theorem dX4_readNumber_28 : decode cX4_readNumber 28 = .ok (.getfield 23, 3) := by decide +kernel
theorem dX4_readNumber_31 : decode cX4_readNumber 31 = .ok (.iconst 1, 1) := by decide +kernel
theorem dX4_readNumber_32 : decode cX4_readNumber 32 = .ok (.iadd, 1) := by decide +kernel
theorem dX4_readNumber_33 : decode cX4_readNumber 33 = .ok (.putfield 23, 3) := by decide +kernel
theorem dX4_readNumber_36 : decode cX4_readNumber 36 = .ok (.aload_n 0, 1) := by decide +kernel
theorem dX4_readNumber_37 : decode cX4_readNumber 37 = .ok (.invokevirtual 63, 3) := by decide +kernel
theorem dX4_readNumber_40 : decode cX4_readNumber 40 = .ok (.istore_n 3, 1) := by decide +kernel
theorem dX4_readNumber_41 : decode cX4_readNumber 41 = .ok (.iload_n 3, 1) := by decide +kernel
theorem dX4_readNumber_42 : decode cX4_readNumber 42 = .ok (.bipush (-5), 2) := by decide +kernel
theorem dX4_readNumber_44 : decode cX4_readNumber 44 = .ok (.if_icmp .eq 46, 3) := by decide +kernel
theorem dX4_readNumber_47 : decode cX4_readNumber 47 = .ok (.aload_n 0, 1) := by decide +kernel
theorem dX4_readNumber_48 : decode cX4_readNumber 48 = .ok (.getfield 57, 3) := by decide +kernel
theorem dX4_readNumber_51 : decode cX4_readNumber 51 = .ok (.ifCond .eq 39, 3) := by decide +kernel
theorem dX4_readNumber_54 : decode cX4_readNumber 54 = .ok (.bipush 10, 2) := by decide +kernel
theorem dX4_readNumber_56 : decode cX4_readNumber 56 = .ok (.aload_n 0, 1) := by decide +kernel
theorem dX4_readNumber_57 : decode cX4_readNumber 57 = .ok (.getfield 57, 3) := by decide +kernel
theorem dX4_readNumber_60 : decode cX4_readNumber 60 = .ok (.imul, 1) := by decide +kernel
theorem dX4_readNumber_61 : decode cX4_readNumber 61 = .ok (.iload_n 3, 1) := by decide +kernel
theorem dX4_readNumber_62 : decode cX4_readNumber 62 = .ok (.iadd, 1) := by decide +kernel
theorem dX4_readNumber_63 : decode cX4_readNumber 63 = .ok (.iload_n 2, 1) := by decide +kernel
theorem dX4_readNumber_64 : decode cX4_readNumber 64 = .ok (.if_icmp .gt 26, 3) := by decide +kernel
theorem dX4_readNumber_67 : decode cX4_readNumber 67 = .ok (.aload_n 0, 1) := by decide +kernel
theorem dX4_readNumber_68 : decode cX4_readNumber 68 = .ok (.bipush 10, 2) := by decide +kernel
theorem dX4_readNumber_70 : decode cX4_readNumber 70 = .ok (.aload_n 0, 1) := by decide +kernel
theorem dX4_readNumber_71 : decode cX4_readNumber 71 = .ok (.getfield 57, 3) := by decide +kernel
theorem dX4_readNumber_74 : decode cX4_readNumber 74 = .ok (.imul, 1) := by decide +kernel
theorem dX4_readNumber_75 : decode cX4_readNumber 75 = .ok (.iload_n 3, 1) := by decide +kernel
theorem dX4_readNumber_76 : decode cX4_readNumber 76 = .ok (.iadd, 1) := by decide +kernel
theorem dX4_readNumber_77 : decode cX4_readNumber 77 = .ok (.putfield 57, 3) := by decide +kernel
theorem dX4_readNumber_80 : decode cX4_readNumber 80 = .ok (.aload_n 0, 1) := by decide +kernel
theorem dX4_readNumber_81 : decode cX4_readNumber 81 = .ok (.dup, 1) := by decide +kernel
theorem dX4_readNumber_82 : decode cX4_readNumber 82 = .ok (.getfield 23, 3) := by decide +kernel
theorem dX4_readNumber_85 : decode cX4_readNumber 85 = .ok (.iconst 1, 1) := by decide +kernel
theorem dX4_readNumber_86 : decode cX4_readNumber 86 = .ok (.iadd, 1) := by decide +kernel
theorem dX4_readNumber_87 : decode cX4_readNumber 87 = .ok (.putfield 23, 3) := by decide +kernel
theorem dX4_readNumber_90 : decode cX4_readNumber 90 = .ok (.iconst 1, 1) := by decide +kernel
theorem dX4_readNumber_91 : decode cX4_readNumber 91 = .ok (.ireturn, 1) := by decide +kernel
set_option maxRecDepth 20000 in
theorem ggX4_digitHere_X4_here : GoodIn wsX4_digitHere wsX4_here := goodIn_r _ [5, 6, 7, 8, 12, 13, 14, 15, 16, 17, 18] (by rfl) (by decide +kernel)
set_option maxRecDepth 20000 in
theorem gX4_digitHere_X4_here : GoodIn wsX4_digitHere (wsV RX4 37 RX4 yX4_here wsX4_here) := goodIn_app (goodIn_r _ [1, 2, 3, 4] (by rfl) (by decide +kernel)) ggX4_digitHere_X4_here
set_option maxRecDepth 20000 in
theorem ggX4_digitHere_X6_isIn : GoodIn wsX4_digitHere wsX6_isIn := goodIn_r _ [11] (by rfl) (by decide +kernel)
set_option maxRecDepth 20000 in
theorem gX4_digitHere_X6_isIn_n15 : GoodIn wsX4_digitHere (wsX6_isIn) := ggX4_digitHere_X6_isIn
theorem dX4_digitHere_0 : decode cX4_digitHere 0 = .ok (.aload_n 0, 1) := by decide +kernel
theorem dX4_digitHere_1 : decode cX4_digitHere 1 = .ok (.invokevirtual 37, 3) := by decide +kernel
theorem dX4_digitHere_4 : decode cX4_digitHere 4 = .ok (.istore_n 1, 1) := by decide +kernel
theorem dX4_digitHere_5 : decode cX4_digitHere 5 = .ok (.iload_n 1, 1) := by decide +kernel
theorem dX4_digitHere_6 : decode cX4_digitHere 6 = .ok (.bipush 48, 2) := by decide +kernel
theorem dX4_digitHere_8 : decode cX4_digitHere 8 = .ok (.bipush 57, 2) := by decide +kernel
theorem dX4_digitHere_10 : decode cX4_digitHere 10 = .ok (.invokestatic 15, 3) := by decide +kernel
theorem dX4_digitHere_13 : decode cX4_digitHere 13 = .ok (.ifCond .eq 10, 3) := by decide +kernel
theorem dX4_digitHere_16 : decode cX4_digitHere 16 = .ok (.iload_n 1, 1) := by decide +kernel
theorem dX4_digitHere_17 : decode cX4_digitHere 17 = .ok (.bipush 48, 2) := by decide +kernel
theorem dX4_digitHere_19 : decode cX4_digitHere 19 = .ok (.isub, 1) := by decide +kernel
theorem dX4_digitHere_20 : decode cX4_digitHere 20 = .ok (.goto 5, 3) := by decide +kernel
theorem dX4_digitHere_23 : decode cX4_digitHere 23 = .ok (.bipush (-5), 2) := by decide +kernel
theorem dX4_digitHere_25 : decode cX4_digitHere 25 = .ok (.ireturn, 1) := by decide +kernel
theorem dX4_here_0 : decode cX4_here 0 = .ok (.aload_n 0, 1) := by decide +kernel
theorem dX4_here_1 : decode cX4_here 1 = .ok (.getfield 23, 3) := by decide +kernel
theorem dX4_here_4 : decode cX4_here 4 = .ok (.ifCond .lt 26, 3) := by decide +kernel
theorem dX4_here_7 : decode cX4_here 7 = .ok (.aload_n 0, 1) := by decide +kernel
theorem dX4_here_8 : decode cX4_here 8 = .ok (.getfield 23, 3) := by decide +kernel
theorem dX4_here_11 : decode cX4_here 11 = .ok (.aload_n 0, 1) := by decide +kernel
theorem dX4_here_12 : decode cX4_here 12 = .ok (.getfield 19, 3) := by decide +kernel
theorem dX4_here_15 : decode cX4_here 15 = .ok (.if_icmp .ge 15, 3) := by decide +kernel
theorem dX4_here_18 : decode cX4_here 18 = .ok (.aload_n 0, 1) := by decide +kernel
theorem dX4_here_19 : decode cX4_here 19 = .ok (.getfield 9, 3) := by decide +kernel
theorem dX4_here_22 : decode cX4_here 22 = .ok (.aload_n 0, 1) := by decide +kernel
theorem dX4_here_23 : decode cX4_here 23 = .ok (.getfield 23, 3) := by decide +kernel
theorem dX4_here_26 : decode cX4_here 26 = .ok (.iaload, 1) := by decide +kernel
theorem dX4_here_27 : decode cX4_here 27 = .ok (.goto 5, 3) := by decide +kernel
theorem dX4_here_30 : decode cX4_here 30 = .ok (.bipush (-5), 2) := by decide +kernel
theorem dX4_here_32 : decode cX4_here 32 = .ok (.ireturn, 1) := by decide +kernel
set_option maxRecDepth 20000 in
theorem ggX5_init_X3_init : GoodIn wsX5_init wsX3_init := goodIn_r _ [18, 19, 2, 3, 13, 20, 21, 22, 23, 24, 41] (by rfl) (by decide +kernel)
set_option maxRecDepth 20000 in
theorem gX5_init_X3_init : GoodIn wsX5_init (wsX3_init) := ggX5_init_X3_init
set_option maxRecDepth 20000 in
theorem ggX5_init_X0_init : GoodIn wsX5_init wsX0_init := goodIn_r _ [26, 27, 2, 3, 28, 5, 6, 29, 30, 31, 32, 33, 34, 35, 17, 18, 19, 13, 20, 21, 22, 23, 24, 36, 37, 38, 39, 40, 41, 48, 49, 50, 51, 52, 53, 54, 55, 56, 57, 58] (by rfl) (by decide +kernel)
set_option maxRecDepth 20000 in
theorem gX5_init_X0_init_n23 : GoodIn wsX5_init (wsX0_init) := ggX5_init_X0_init
theorem dX5_init_0 : decode cX5_init 0 = .ok (.aload_n 0, 1) := by decide +kernel
theorem dX5_init_1 : decode cX5_init 1 = .ok (.invokespecial 3, 3) := by decide +kernel
theorem dX5_init_4 : decode cX5_init 4 = .ok (.aload_n 0, 1) := by decide +kernel
theorem dX5_init_5 : decode cX5_init 5 = .ok (.new 9, 3) := by decide +kernel
theorem dX5_init_8 : decode cX5_init 8 = .ok (.dup, 1) := by decide +kernel
theorem dX5_init_9 : decode cX5_init 9 = .ok (.invokespecial 11, 3) := by decide +kernel
theorem dX5_init_12 : decode cX5_init 12 = .ok (.putfield 12, 3) := by decide +kernel
theorem dX5_init_15 : decode cX5_init 15 = .ok (.aload_n 0, 1) := by decide +kernel
theorem dX5_init_16 : decode cX5_init 16 = .ok (.new 9, 3) := by decide +kernel
theorem dX5_init_19 : decode cX5_init 19 = .ok (.dup, 1) := by decide +kernel
theorem dX5_init_20 : decode cX5_init 20 = .ok (.invokespecial 11, 3) := by decide +kernel
theorem dX5_init_23 : decode cX5_init 23 = .ok (.putfield 18, 3) := by decide +kernel
theorem dX5_init_26 : decode cX5_init 26 = .ok (.aload_n 0, 1) := by decide +kernel
theorem dX5_init_27 : decode cX5_init 27 = .ok (.new 21, 3) := by decide +kernel
theorem dX5_init_30 : decode cX5_init 30 = .ok (.dup, 1) := by decide +kernel
theorem dX5_init_31 : decode cX5_init 31 = .ok (.invokespecial 23, 3) := by decide +kernel
theorem dX5_init_34 : decode cX5_init 34 = .ok (.putfield 24, 3) := by decide +kernel
theorem dX5_init_37 : decode cX5_init 37 = .ok (.aload_n 0, 1) := by decide +kernel
theorem dX5_init_38 : decode cX5_init 38 = .ok (.iconst 4, 1) := by decide +kernel
theorem dX5_init_39 : decode cX5_init 39 = .ok (.newarray .int, 2) := by decide +kernel
theorem dX5_init_41 : decode cX5_init 41 = .ok (.dup, 1) := by decide +kernel
theorem dX5_init_42 : decode cX5_init 42 = .ok (.iconst 0, 1) := by decide +kernel
theorem dX5_init_43 : decode cX5_init 43 = .ok (.iconst 3, 1) := by decide +kernel
theorem dX5_init_44 : decode cX5_init 44 = .ok (.iastore, 1) := by decide +kernel
theorem dX5_init_45 : decode cX5_init 45 = .ok (.dup, 1) := by decide +kernel
theorem dX5_init_46 : decode cX5_init 46 = .ok (.iconst 1, 1) := by decide +kernel
theorem dX5_init_47 : decode cX5_init 47 = .ok (.bipush 6, 2) := by decide +kernel
theorem dX5_init_49 : decode cX5_init 49 = .ok (.iastore, 1) := by decide +kernel
theorem dX5_init_50 : decode cX5_init 50 = .ok (.dup, 1) := by decide +kernel
theorem dX5_init_51 : decode cX5_init 51 = .ok (.iconst 2, 1) := by decide +kernel
theorem dX5_init_52 : decode cX5_init 52 = .ok (.iconst 5, 1) := by decide +kernel
theorem dX5_init_53 : decode cX5_init 53 = .ok (.iastore, 1) := by decide +kernel
theorem dX5_init_54 : decode cX5_init 54 = .ok (.dup, 1) := by decide +kernel
theorem dX5_init_55 : decode cX5_init 55 = .ok (.iconst 3, 1) := by decide +kernel
theorem dX5_init_56 : decode cX5_init 56 = .ok (.iconst 0, 1) := by decide +kernel
theorem dX5_init_57 : decode cX5_init 57 = .ok (.iastore, 1) := by decide +kernel
theorem dX5_init_58 : decode cX5_init 58 = .ok (.putfield 28, 3) := by decide +kernel
theorem dX5_init_61 : decode cX5_init 61 = .ok (.aload_n 0, 1) := by decide +kernel
theorem dX5_init_62 : decode cX5_init 62 = .ok (.bipush 8, 2) := by decide +kernel
theorem dX5_init_64 : decode cX5_init 64 = .ok (.newarray .int, 2) := by decide +kernel
theorem dX5_init_66 : decode cX5_init 66 = .ok (.putfield 32, 3) := by decide +kernel
theorem dX5_init_69 : decode cX5_init 69 = .ok (.return_, 1) := by decide +kernel
set_option maxRecDepth 20000 in
theorem ggX5_take_X3_take : GoodIn wsX5_take wsX3_take := goodIn_r _ [15, 16, 17, 7, 8, 9, 47] (by rfl) (by decide +kernel)
set_option maxRecDepth 20000 in
theorem gX5_take_X3_take : GoodIn wsX5_take (wsV RX5 35 RX3 yX3_take wsX3_take) := goodIn_app (goodIn_r _ [11, 12, 13, 14] (by rfl) (by decide +kernel)) ggX5_take_X3_take
set_option maxRecDepth 20000 in
theorem ggX5_take_X0_take : GoodIn wsX5_take wsX0_take := goodIn_r _ [22, 23, 24, 25, 26, 27, 28, 29, 30, 12, 13, 14, 15, 16, 17, 7, 8, 9, 31, 32, 33, 34, 35, 36, 37, 38, 39, 40, 48, 49, 50, 51, 52, 53, 54, 47, 55, 56, 57, 58] (by rfl) (by decide +kernel)
set_option maxRecDepth 20000 in
theorem gX5_take_X0_take : GoodIn wsX5_take (wsV RX5 43 RX0 yX0_take wsX0_take) := goodIn_app (goodIn_r _ [18, 19, 20, 21] (by rfl) (by decide +kernel)) ggX5_take_X0_take
theorem dX5_take_0 : decode cX5_take 0 = .ok (.aload_n 0, 1) := by decide +kernel
theorem dX5_take_1 : decode cX5_take 1 = .ok (.getfield 12, 3) := by decide +kernel
theorem dX5_take_4 : decode cX5_take 4 = .ok (.aload_n 1, 1) := by decide +kernel
theorem dX5_take_5 : decode cX5_take 5 = .ok (.getfield 12, 3) := by decide +kernel
theorem dX5_take_8 : decode cX5_take 8 = .ok (.invokevirtual 35, 3) := by decide +kernel
theorem dX5_take_11 : decode cX5_take 11 = .ok (.aload_n 0, 1) := by decide +kernel
theorem dX5_take_12 : decode cX5_take 12 = .ok (.getfield 18, 3) := by decide +kernel
theorem dX5_take_15 : decode cX5_take 15 = .ok (.aload_n 1, 1) := by decide +kernel
theorem dX5_take_16 : decode cX5_take 16 = .ok (.getfield 18, 3) := by decide +kernel
theorem dX5_take_19 : decode cX5_take 19 = .ok (.invokevirtual 35, 3) := by decide +kernel
theorem dX5_take_22 : decode cX5_take 22 = .ok (.aload_n 0, 1) := by decide +kernel
theorem dX5_take_23 : decode cX5_take 23 = .ok (.aload_n 1, 1) := by decide +kernel
theorem dX5_take_24 : decode cX5_take 24 = .ok (.getfield 39, 3) := by decide +kernel
theorem dX5_take_27 : decode cX5_take 27 = .ok (.putfield 39, 3) := by decide +kernel
theorem dX5_take_30 : decode cX5_take 30 = .ok (.aload_n 0, 1) := by decide +kernel
theorem dX5_take_31 : decode cX5_take 31 = .ok (.getfield 24, 3) := by decide +kernel
theorem dX5_take_34 : decode cX5_take 34 = .ok (.aload_n 1, 1) := by decide +kernel
theorem dX5_take_35 : decode cX5_take 35 = .ok (.getfield 24, 3) := by decide +kernel
theorem dX5_take_38 : decode cX5_take 38 = .ok (.invokevirtual 43, 3) := by decide +kernel
theorem dX5_take_41 : decode cX5_take 41 = .ok (.aload_n 1, 1) := by decide +kernel
theorem dX5_take_42 : decode cX5_take 42 = .ok (.getfield 28, 3) := by decide +kernel
theorem dX5_take_45 : decode cX5_take 45 = .ok (.iconst 0, 1) := by decide +kernel
theorem dX5_take_46 : decode cX5_take 46 = .ok (.aload_n 0, 1) := by decide +kernel
theorem dX5_take_47 : decode cX5_take 47 = .ok (.getfield 28, 3) := by decide +kernel
theorem dX5_take_50 : decode cX5_take 50 = .ok (.iconst 0, 1) := by decide +kernel
theorem dX5_take_51 : decode cX5_take 51 = .ok (.iconst 4, 1) := by decide +kernel
theorem dX5_take_52 : decode cX5_take 52 = .ok (.invokestatic 46, 3) := by decide +kernel
theorem dX5_take_55 : decode cX5_take 55 = .ok (.aload_n 1, 1) := by decide +kernel
theorem dX5_take_56 : decode cX5_take 56 = .ok (.getfield 32, 3) := by decide +kernel
theorem dX5_take_59 : decode cX5_take 59 = .ok (.iconst 0, 1) := by decide +kernel
theorem dX5_take_60 : decode cX5_take 60 = .ok (.aload_n 0, 1) := by decide +kernel
theorem dX5_take_61 : decode cX5_take 61 = .ok (.getfield 32, 3) := by decide +kernel
theorem dX5_take_64 : decode cX5_take 64 = .ok (.iconst 0, 1) := by decide +kernel
theorem dX5_take_65 : decode cX5_take 65 = .ok (.bipush 8, 2) := by decide +kernel
theorem dX5_take_67 : decode cX5_take 67 = .ok (.invokestatic 46, 3) := by decide +kernel
theorem dX5_take_70 : decode cX5_take 70 = .ok (.return_, 1) := by decide +kernel
set_option maxRecDepth 20000 in
theorem ggX5_putRow_X6_isKey : GoodIn wsX5_putRow wsX6_isKey := goodIn_r _ [4, 5, 6, 3, 7] (by rfl) (by decide +kernel)
set_option maxRecDepth 20000 in
theorem gX5_putRow_X6_isKey_n52 : GoodIn wsX5_putRow (wsX6_isKey) := ggX5_putRow_X6_isKey
set_option maxRecDepth 20000 in
theorem ggX5_putRow_X6_isValue : GoodIn wsX5_putRow wsX6_isValue := goodIn_r _ [9, 5, 6, 3, 7] (by rfl) (by decide +kernel)
set_option maxRecDepth 20000 in
theorem gX5_putRow_X6_isValue_n56 : GoodIn wsX5_putRow (wsX6_isValue) := ggX5_putRow_X6_isValue
set_option maxRecDepth 20000 in
theorem ggX5_putRow_X5_changeRow : GoodIn wsX5_putRow wsX5_changeRow := goodIn_r _ [14, 1, 15, 16, 17, 18, 19, 13, 20, 21, 22, 23, 24, 25, 26, 27, 28, 29, 30, 31, 32, 33, 34, 35, 36, 37, 38, 39, 40, 41, 42, 43, 44, 45, 46, 47, 48, 49, 50, 51, 52, 53, 54, 55, 56, 57, 58, 59, 60, 61, 62, 63, 64, 65, 66] (by rfl) (by decide +kernel)
set_option maxRecDepth 20000 in
theorem gX5_putRow_X5_changeRow : GoodIn wsX5_putRow (wsV RX5 63 RX5 yX5_changeRow wsX5_changeRow) := goodIn_app (goodIn_r _ [10, 11, 12, 13] (by rfl) (by decide +kernel)) ggX5_putRow_X5_changeRow
theorem dX5_putRow_0 : decode cX5_putRow 0 = .ok (.iload_n 1, 1) := by decide +kernel
theorem dX5_putRow_1 : decode cX5_putRow 1 = .ok (.invokestatic 52, 3) := by decide +kernel
theorem dX5_putRow_4 : decode cX5_putRow 4 = .ok (.ifCond .ne 5, 3) := by decide +kernel
theorem dX5_putRow_7 : decode cX5_putRow 7 = .ok (.iconst (-1), 1) := by decide +kernel
theorem dX5_putRow_8 : decode cX5_putRow 8 = .ok (.ireturn, 1) := by decide +kernel
theorem dX5_putRow_9 : decode cX5_putRow 9 = .ok (.iload_n 2, 1) := by decide +kernel
theorem dX5_putRow_10 : decode cX5_putRow 10 = .ok (.invokestatic 56, 3) := by decide +kernel
theorem dX5_putRow_13 : decode cX5_putRow 13 = .ok (.ifCond .ne 6, 3) := by decide +kernel
theorem dX5_putRow_16 : decode cX5_putRow 16 = .ok (.bipush (-2), 2) := by decide +kernel
theorem dX5_putRow_18 : decode cX5_putRow 18 = .ok (.ireturn, 1) := by decide +kernel
theorem dX5_putRow_19 : decode cX5_putRow 19 = .ok (.aload_n 0, 1) := by decide +kernel
theorem dX5_putRow_20 : decode cX5_putRow 20 = .ok (.getfield 24, 3) := by decide +kernel
theorem dX5_putRow_23 : decode cX5_putRow 23 = .ok (.getfield 59, 3) := by decide +kernel
theorem dX5_putRow_26 : decode cX5_putRow 26 = .ok (.iconst 3, 1) := by decide +kernel
theorem dX5_putRow_27 : decode cX5_putRow 27 = .ok (.if_icmp .ne 6, 3) := by decide +kernel
theorem dX5_putRow_30 : decode cX5_putRow 30 = .ok (.bipush (-4), 2) := by decide +kernel
theorem dX5_putRow_32 : decode cX5_putRow 32 = .ok (.ireturn, 1) := by decide +kernel
theorem dX5_putRow_33 : decode cX5_putRow 33 = .ok (.aload_n 0, 1) := by decide +kernel
theorem dX5_putRow_34 : decode cX5_putRow 34 = .ok (.iload_n 1, 1) := by decide +kernel
theorem dX5_putRow_35 : decode cX5_putRow 35 = .ok (.iload_n 2, 1) := by decide +kernel
theorem dX5_putRow_36 : decode cX5_putRow 36 = .ok (.invokevirtual 63, 3) := by decide +kernel
theorem dX5_putRow_39 : decode cX5_putRow 39 = .ok (.ireturn, 1) := by decide +kernel
set_option maxRecDepth 20000 in
theorem ggX5_eraseRow_X6_isKey : GoodIn wsX5_eraseRow wsX6_isKey := goodIn_r _ [5, 6, 7, 4, 8] (by rfl) (by decide +kernel)
set_option maxRecDepth 20000 in
theorem gX5_eraseRow_X6_isKey_n52 : GoodIn wsX5_eraseRow (wsX6_isKey) := ggX5_eraseRow_X6_isKey
set_option maxRecDepth 20000 in
theorem ggX5_eraseRow_X3_at : GoodIn wsX5_eraseRow wsX3_at := goodIn_r _ [13, 14, 60] (by rfl) (by decide +kernel)
set_option maxRecDepth 20000 in
theorem gX5_eraseRow_X3_at : GoodIn wsX5_eraseRow (wsV RX5 67 RX3 yX3_at wsX3_at) := goodIn_app (goodIn_r _ [9, 10, 11, 12] (by rfl) (by decide +kernel)) ggX5_eraseRow_X3_at
set_option maxRecDepth 20000 in
theorem ggX5_eraseRow_X5_changeRow : GoodIn wsX5_eraseRow wsX5_changeRow := goodIn_r _ [19, 1, 20, 2, 21, 22, 23, 18, 24, 25, 26, 27, 28, 29, 30, 31, 32, 33, 34, 35, 36, 37, 38, 39, 40, 41, 42, 9, 10, 11, 12, 13, 14, 43, 44, 45, 46, 47, 48, 49, 50, 51, 52, 53, 54, 55, 56, 57, 58, 59, 61, 62, 63, 64, 60] (by rfl) (by decide +kernel)
set_option maxRecDepth 20000 in
theorem gX5_eraseRow_X5_changeRow : GoodIn wsX5_eraseRow (wsV RX5 63 RX5 yX5_changeRow wsX5_changeRow) := goodIn_app (goodIn_r _ [15, 16, 17, 18] (by rfl) (by decide +kernel)) ggX5_eraseRow_X5_changeRow
theorem dX5_eraseRow_0 : decode cX5_eraseRow 0 = .ok (.iload_n 1, 1) := by decide +kernel
theorem dX5_eraseRow_1 : decode cX5_eraseRow 1 = .ok (.invokestatic 52, 3) := by decide +kernel
theorem dX5_eraseRow_4 : decode cX5_eraseRow 4 = .ok (.ifCond .ne 5, 3) := by decide +kernel
theorem dX5_eraseRow_7 : decode cX5_eraseRow 7 = .ok (.iconst (-1), 1) := by decide +kernel
theorem dX5_eraseRow_8 : decode cX5_eraseRow 8 = .ok (.ireturn, 1) := by decide +kernel
theorem dX5_eraseRow_9 : decode cX5_eraseRow 9 = .ok (.aload_n 0, 1) := by decide +kernel
theorem dX5_eraseRow_10 : decode cX5_eraseRow 10 = .ok (.getfield 24, 3) := by decide +kernel
theorem dX5_eraseRow_13 : decode cX5_eraseRow 13 = .ok (.getfield 59, 3) := by decide +kernel
theorem dX5_eraseRow_16 : decode cX5_eraseRow 16 = .ok (.iconst 3, 1) := by decide +kernel
theorem dX5_eraseRow_17 : decode cX5_eraseRow 17 = .ok (.if_icmp .ne 6, 3) := by decide +kernel
theorem dX5_eraseRow_20 : decode cX5_eraseRow 20 = .ok (.bipush (-4), 2) := by decide +kernel
theorem dX5_eraseRow_22 : decode cX5_eraseRow 22 = .ok (.ireturn, 1) := by decide +kernel
theorem dX5_eraseRow_23 : decode cX5_eraseRow 23 = .ok (.aload_n 0, 1) := by decide +kernel
theorem dX5_eraseRow_24 : decode cX5_eraseRow 24 = .ok (.getfield 12, 3) := by decide +kernel
theorem dX5_eraseRow_27 : decode cX5_eraseRow 27 = .ok (.iload_n 1, 1) := by decide +kernel
theorem dX5_eraseRow_28 : decode cX5_eraseRow 28 = .ok (.invokevirtual 67, 3) := by decide +kernel
theorem dX5_eraseRow_31 : decode cX5_eraseRow 31 = .ok (.bipush (-5), 2) := by decide +kernel
theorem dX5_eraseRow_33 : decode cX5_eraseRow 33 = .ok (.if_icmp .ne 8, 3) := by decide +kernel
theorem dX5_eraseRow_36 : decode cX5_eraseRow 36 = .ok (.bipush (-5), 2) := by decide +kernel
theorem dX5_eraseRow_38 : decode cX5_eraseRow 38 = .ok (.goto 10, 3) := by decide +kernel
theorem dX5_eraseRow_41 : decode cX5_eraseRow 41 = .ok (.aload_n 0, 1) := by decide +kernel
theorem dX5_eraseRow_42 : decode cX5_eraseRow 42 = .ok (.iload_n 1, 1) := by decide +kernel
theorem dX5_eraseRow_43 : decode cX5_eraseRow 43 = .ok (.bipush (-5), 2) := by decide +kernel
theorem dX5_eraseRow_45 : decode cX5_eraseRow 45 = .ok (.invokevirtual 63, 3) := by decide +kernel
theorem dX5_eraseRow_48 : decode cX5_eraseRow 48 = .ok (.ireturn, 1) := by decide +kernel
set_option maxRecDepth 20000 in
theorem ggX5_changeRow_X5_hasCopy : GoodIn wsX5_changeRow wsX5_hasCopy := goodIn_r _ [8, 1, 37, 38, 39, 40, 41, 42, 43, 44, 45, 46, 47, 48, 49] (by rfl) (by decide +kernel)
set_option maxRecDepth 20000 in
theorem gX5_changeRow_X5_hasCopy : GoodIn wsX5_changeRow (wsV RX5 71 RX5 yX5_hasCopy wsX5_hasCopy) := goodIn_app (goodIn_r _ [4, 5, 6, 7] (by rfl) (by decide +kernel)) ggX5_changeRow_X5_hasCopy
set_option maxRecDepth 20000 in
theorem ggX5_changeRow_X2_add : GoodIn wsX5_changeRow wsX2_add := goodIn_r _ [13, 14, 15, 16, 17, 18, 19, 12, 20, 21, 50, 51, 52, 53] (by rfl) (by decide +kernel)
set_option maxRecDepth 20000 in
theorem gX5_changeRow_X2_add : GoodIn wsX5_changeRow (wsV RX5 79 RX2 yX2_add wsX2_add) := goodIn_app (goodIn_r _ [9, 10, 11, 12] (by rfl) (by decide +kernel)) ggX5_changeRow_X2_add
set_option maxRecDepth 20000 in
theorem ggX5_changeRow_X5_endGivenUp : GoodIn wsX5_changeRow wsX5_endGivenUp := goodIn_r _ [25, 1, 26, 37, 38, 39, 40, 41, 42, 43, 44, 45, 46, 47, 48, 49] (by rfl) (by decide +kernel)
set_option maxRecDepth 20000 in
theorem gX5_changeRow_X5_endGivenUp : GoodIn wsX5_changeRow (wsV RX5 85 RX5 yX5_endGivenUp wsX5_endGivenUp) := goodIn_app (goodIn_r _ [22, 23, 24, 7] (by rfl) (by decide +kernel)) ggX5_changeRow_X5_endGivenUp
set_option maxRecDepth 20000 in
theorem ggX5_changeRow_X3_at : GoodIn wsX5_changeRow wsX3_at := goodIn_r _ [31, 32, 54] (by rfl) (by decide +kernel)
set_option maxRecDepth 20000 in
theorem gX5_changeRow_X3_at : GoodIn wsX5_changeRow (wsV RX5 67 RX3 yX3_at wsX3_at) := goodIn_app (goodIn_r _ [27, 28, 29, 30] (by rfl) (by decide +kernel)) ggX5_changeRow_X3_at
set_option maxRecDepth 20000 in
theorem ggX5_changeRow_X3_place : GoodIn wsX5_changeRow wsX3_place := goodIn_r _ [36, 32, 54] (by rfl) (by decide +kernel)
set_option maxRecDepth 20000 in
theorem gX5_changeRow_X3_place : GoodIn wsX5_changeRow (wsV RX5 88 RX3 yX3_place wsX3_place) := goodIn_app (goodIn_r _ [33, 34, 35, 30] (by rfl) (by decide +kernel)) ggX5_changeRow_X3_place
theorem dX5_changeRow_0 : decode cX5_changeRow 0 = .ok (.aload_n 0, 1) := by decide +kernel
theorem dX5_changeRow_1 : decode cX5_changeRow 1 = .ok (.invokevirtual 71, 3) := by decide +kernel
theorem dX5_changeRow_4 : decode cX5_changeRow 4 = .ok (.ifCond .eq 35, 3) := by decide +kernel
theorem dX5_changeRow_7 : decode cX5_changeRow 7 = .ok (.aload_n 0, 1) := by decide +kernel
theorem dX5_changeRow_8 : decode cX5_changeRow 8 = .ok (.getfield 24, 3) := by decide +kernel
theorem dX5_changeRow_11 : decode cX5_changeRow 11 = .ok (.getfield 75, 3) := by decide +kernel
theorem dX5_changeRow_14 : decode cX5_changeRow 14 = .ok (.iload_n 1, 1) := by decide +kernel
theorem dX5_changeRow_15 : decode cX5_changeRow 15 = .ok (.iload_n 2, 1) := by decide +kernel
theorem dX5_changeRow_16 : decode cX5_changeRow 16 = .ok (.invokevirtual 79, 3) := by decide +kernel
theorem dX5_changeRow_19 : decode cX5_changeRow 19 = .ok (.ifCond .ne 20, 3) := by decide +kernel
theorem dX5_changeRow_22 : decode cX5_changeRow 22 = .ok (.aload_n 0, 1) := by decide +kernel
theorem dX5_changeRow_23 : decode cX5_changeRow 23 = .ok (.getfield 28, 3) := by decide +kernel
theorem dX5_changeRow_26 : decode cX5_changeRow 26 = .ok (.iconst 3, 1) := by decide +kernel
theorem dX5_changeRow_27 : decode cX5_changeRow 27 = .ok (.iaload, 1) := by decide +kernel
theorem dX5_changeRow_28 : decode cX5_changeRow 28 = .ok (.iconst 1, 1) := by decide +kernel
theorem dX5_changeRow_29 : decode cX5_changeRow 29 = .ok (.if_icmp .ne 6, 3) := by decide +kernel
theorem dX5_changeRow_32 : decode cX5_changeRow 32 = .ok (.bipush (-3), 2) := by decide +kernel
theorem dX5_changeRow_34 : decode cX5_changeRow 34 = .ok (.ireturn, 1) := by decide +kernel
theorem dX5_changeRow_35 : decode cX5_changeRow 35 = .ok (.aload_n 0, 1) := by decide +kernel
theorem dX5_changeRow_36 : decode cX5_changeRow 36 = .ok (.invokevirtual 85, 3) := by decide +kernel
theorem dX5_changeRow_39 : decode cX5_changeRow 39 = .ok (.aload_n 0, 1) := by decide +kernel
theorem dX5_changeRow_40 : decode cX5_changeRow 40 = .ok (.getfield 12, 3) := by decide +kernel
theorem dX5_changeRow_43 : decode cX5_changeRow 43 = .ok (.iload_n 1, 1) := by decide +kernel
theorem dX5_changeRow_44 : decode cX5_changeRow 44 = .ok (.invokevirtual 67, 3) := by decide +kernel
theorem dX5_changeRow_47 : decode cX5_changeRow 47 = .ok (.istore_n 3, 1) := by decide +kernel
theorem dX5_changeRow_48 : decode cX5_changeRow 48 = .ok (.aload_n 0, 1) := by decide +kernel
theorem dX5_changeRow_49 : decode cX5_changeRow 49 = .ok (.getfield 12, 3) := by decide +kernel
theorem dX5_changeRow_52 : decode cX5_changeRow 52 = .ok (.iload_n 1, 1) := by decide +kernel
theorem dX5_changeRow_53 : decode cX5_changeRow 53 = .ok (.iload_n 2, 1) := by decide +kernel
theorem dX5_changeRow_54 : decode cX5_changeRow 54 = .ok (.invokevirtual 88, 3) := by decide +kernel
theorem dX5_changeRow_57 : decode cX5_changeRow 57 = .ok (.iload_n 3, 1) := by decide +kernel
theorem dX5_changeRow_58 : decode cX5_changeRow 58 = .ok (.ireturn, 1) := by decide +kernel
set_option maxRecDepth 20000 in
theorem ggX5_beginCopy_X6_isKind : GoodIn wsX5_beginCopy wsX6_isKind := goodIn_r _ [6, 7, 8, 5, 9] (by rfl) (by decide +kernel)
set_option maxRecDepth 20000 in
theorem gX5_beginCopy_X6_isKind_n92 : GoodIn wsX5_beginCopy (wsX6_isKind) := ggX5_beginCopy_X6_isKind
set_option maxRecDepth 20000 in
theorem ggX5_beginCopy_X6_isLot : GoodIn wsX5_beginCopy wsX6_isLot := goodIn_r _ [11, 7, 8, 5, 9] (by rfl) (by decide +kernel)
set_option maxRecDepth 20000 in
theorem gX5_beginCopy_X6_isLot_n95 : GoodIn wsX5_beginCopy (wsX6_isLot) := ggX5_beginCopy_X6_isLot
set_option maxRecDepth 20000 in
theorem ggX5_beginCopy_X5_hasCopy : GoodIn wsX5_beginCopy wsX5_hasCopy := goodIn_r _ [16, 1, 49, 50, 51, 52, 53, 54, 55, 56, 57, 58, 59, 60, 61] (by rfl) (by decide +kernel)
set_option maxRecDepth 20000 in
theorem gX5_beginCopy_X5_hasCopy : GoodIn wsX5_beginCopy (wsV RX5 71 RX5 yX5_hasCopy wsX5_hasCopy) := goodIn_app (goodIn_r _ [12, 13, 14, 15] (by rfl) (by decide +kernel)) ggX5_beginCopy_X5_hasCopy
set_option maxRecDepth 20000 in
theorem ggX5_beginCopy_X0_start : GoodIn wsX5_beginCopy wsX0_start := goodIn_r _ [21, 22, 23, 24, 25, 26, 27, 28, 29, 30, 31, 32, 33, 34, 35, 36, 37, 38, 39, 40, 41, 42, 43, 44, 55, 56, 57, 58, 59, 60, 61, 62, 63, 64, 65, 66] (by rfl) (by decide +kernel)
set_option maxRecDepth 20000 in
theorem gX5_beginCopy_X0_start : GoodIn wsX5_beginCopy (wsV RX5 98 RX0 yX0_start wsX0_start) := goodIn_app (goodIn_r _ [17, 18, 19, 20] (by rfl) (by decide +kernel)) ggX5_beginCopy_X0_start
set_option maxRecDepth 20000 in
theorem ggX5_beginCopy_X3_count : GoodIn wsX5_beginCopy wsX3_count := goodIn_r _ [48, 33, 62] (by rfl) (by decide +kernel)
set_option maxRecDepth 20000 in
theorem gX5_beginCopy_X3_count : GoodIn wsX5_beginCopy (wsV RX5 101 RX3 yX3_count wsX3_count) := goodIn_app (goodIn_r _ [45, 46, 47, 31] (by rfl) (by decide +kernel)) ggX5_beginCopy_X3_count
theorem dX5_beginCopy_0 : decode cX5_beginCopy 0 = .ok (.iload_n 1, 1) := by decide +kernel
theorem dX5_beginCopy_1 : decode cX5_beginCopy 1 = .ok (.invokestatic 92, 3) := by decide +kernel
theorem dX5_beginCopy_4 : decode cX5_beginCopy 4 = .ok (.ifCond .eq 10, 3) := by decide +kernel
theorem dX5_beginCopy_7 : decode cX5_beginCopy 7 = .ok (.iload_n 2, 1) := by decide +kernel
theorem dX5_beginCopy_8 : decode cX5_beginCopy 8 = .ok (.invokestatic 95, 3) := by decide +kernel
theorem dX5_beginCopy_11 : decode cX5_beginCopy 11 = .ok (.ifCond .ne 6, 3) := by decide +kernel
theorem dX5_beginCopy_14 : decode cX5_beginCopy 14 = .ok (.bipush (-2), 2) := by decide +kernel
theorem dX5_beginCopy_16 : decode cX5_beginCopy 16 = .ok (.ireturn, 1) := by decide +kernel
theorem dX5_beginCopy_17 : decode cX5_beginCopy 17 = .ok (.aload_n 0, 1) := by decide +kernel
theorem dX5_beginCopy_18 : decode cX5_beginCopy 18 = .ok (.invokevirtual 71, 3) := by decide +kernel
theorem dX5_beginCopy_21 : decode cX5_beginCopy 21 = .ok (.ifCond .eq 6, 3) := by decide +kernel
theorem dX5_beginCopy_24 : decode cX5_beginCopy 24 = .ok (.bipush (-4), 2) := by decide +kernel
theorem dX5_beginCopy_26 : decode cX5_beginCopy 26 = .ok (.ireturn, 1) := by decide +kernel
theorem dX5_beginCopy_27 : decode cX5_beginCopy 27 = .ok (.aload_n 0, 1) := by decide +kernel
theorem dX5_beginCopy_28 : decode cX5_beginCopy 28 = .ok (.getfield 24, 3) := by decide +kernel
theorem dX5_beginCopy_31 : decode cX5_beginCopy 31 = .ok (.iload_n 1, 1) := by decide +kernel
theorem dX5_beginCopy_32 : decode cX5_beginCopy 32 = .ok (.iload_n 2, 1) := by decide +kernel
theorem dX5_beginCopy_33 : decode cX5_beginCopy 33 = .ok (.invokevirtual 98, 3) := by decide +kernel
theorem dX5_beginCopy_36 : decode cX5_beginCopy 36 = .ok (.aload_n 0, 1) := by decide +kernel
theorem dX5_beginCopy_37 : decode cX5_beginCopy 37 = .ok (.getfield 32, 3) := by decide +kernel
theorem dX5_beginCopy_40 : decode cX5_beginCopy 40 = .ok (.iconst 0, 1) := by decide +kernel
theorem dX5_beginCopy_41 : decode cX5_beginCopy 41 = .ok (.dup2, 1) := by decide +kernel
theorem dX5_beginCopy_42 : decode cX5_beginCopy 42 = .ok (.iaload, 1) := by decide +kernel
theorem dX5_beginCopy_43 : decode cX5_beginCopy 43 = .ok (.iconst 1, 1) := by decide +kernel
theorem dX5_beginCopy_44 : decode cX5_beginCopy 44 = .ok (.iadd, 1) := by decide +kernel
theorem dX5_beginCopy_45 : decode cX5_beginCopy 45 = .ok (.iastore, 1) := by decide +kernel
theorem dX5_beginCopy_46 : decode cX5_beginCopy 46 = .ok (.aload_n 0, 1) := by decide +kernel
theorem dX5_beginCopy_47 : decode cX5_beginCopy 47 = .ok (.getfield 12, 3) := by decide +kernel
theorem dX5_beginCopy_50 : decode cX5_beginCopy 50 = .ok (.invokevirtual 101, 3) := by decide +kernel
theorem dX5_beginCopy_53 : decode cX5_beginCopy 53 = .ok (.ireturn, 1) := by decide +kernel
set_option maxRecDepth 20000 in
theorem ggX5_makeTicks_X6_isTicks : GoodIn wsX5_makeTicks wsX6_isTicks := goodIn_r _ [4, 5, 6, 3, 7] (by rfl) (by decide +kernel)
set_option maxRecDepth 20000 in
theorem gX5_makeTicks_X6_isTicks_n105 : GoodIn wsX5_makeTicks (wsX6_isTicks) := ggX5_makeTicks_X6_isTicks
set_option maxRecDepth 20000 in
theorem ggX5_makeTicks_X5_makeTick : GoodIn wsX5_makeTicks wsX5_makeTick := goodIn_r _ [12, 13, 1, 14, 15, 16, 11, 17, 18, 19, 20, 21, 22, 23, 24, 25, 26, 27, 28, 29, 30, 31, 32, 33, 34, 35, 36, 37, 38, 39, 40, 41, 42, 43, 44, 3, 45, 46, 47, 48, 49, 50, 51, 52, 53, 54, 55, 56, 57, 58, 59, 60, 61, 62, 63, 64, 65, 66, 67, 68, 69, 70, 71, 72, 73, 74, 75, 76, 77, 78, 79, 80, 81, 82, 83, 84, 85, 86, 87, 88, 89, 90, 91, 92] (by rfl) (by decide +kernel)
set_option maxRecDepth 20000 in
theorem gX5_makeTicks_X5_makeTick : GoodIn wsX5_makeTicks (wsV RX5 108 RX5 yX5_makeTick wsX5_makeTick) := goodIn_app (goodIn_r _ [8, 9, 10, 11] (by rfl) (by decide +kernel)) ggX5_makeTicks_X5_makeTick
theorem dX5_makeTicks_0 : decode cX5_makeTicks 0 = .ok (.iload_n 1, 1) := by decide +kernel
theorem dX5_makeTicks_1 : decode cX5_makeTicks 1 = .ok (.invokestatic 105, 3) := by decide +kernel
theorem dX5_makeTicks_4 : decode cX5_makeTicks 4 = .ok (.ifCond .ne 6, 3) := by decide +kernel
theorem dX5_makeTicks_7 : decode cX5_makeTicks 7 = .ok (.bipush (-2), 2) := by decide +kernel
theorem dX5_makeTicks_9 : decode cX5_makeTicks 9 = .ok (.ireturn, 1) := by decide +kernel
theorem dX5_makeTicks_10 : decode cX5_makeTicks 10 = .ok (.iconst 0, 1) := by decide +kernel
theorem dX5_makeTicks_11 : decode cX5_makeTicks 11 = .ok (.istore_n 2, 1) := by decide +kernel
theorem dX5_makeTicks_12 : decode cX5_makeTicks 12 = .ok (.iload_n 2, 1) := by decide +kernel
theorem dX5_makeTicks_13 : decode cX5_makeTicks 13 = .ok (.iload_n 1, 1) := by decide +kernel
theorem dX5_makeTicks_14 : decode cX5_makeTicks 14 = .ok (.if_icmp .ge 13, 3) := by decide +kernel
theorem dX5_makeTicks_17 : decode cX5_makeTicks 17 = .ok (.aload_n 0, 1) := by decide +kernel
theorem dX5_makeTicks_18 : decode cX5_makeTicks 18 = .ok (.invokevirtual 108, 3) := by decide +kernel
theorem dX5_makeTicks_21 : decode cX5_makeTicks 21 = .ok (.iinc 2 1, 3) := by decide +kernel
theorem dX5_makeTicks_24 : decode cX5_makeTicks 24 = .ok (.goto (-12), 3) := by decide +kernel
theorem dX5_makeTicks_27 : decode cX5_makeTicks 27 = .ok (.aload_n 0, 1) := by decide +kernel
theorem dX5_makeTicks_28 : decode cX5_makeTicks 28 = .ok (.getfield 24, 3) := by decide +kernel
theorem dX5_makeTicks_31 : decode cX5_makeTicks 31 = .ok (.getfield 59, 3) := by decide +kernel
theorem dX5_makeTicks_34 : decode cX5_makeTicks 34 = .ok (.ireturn, 1) := by decide +kernel
set_option maxRecDepth 20000 in
theorem ggX5_makeTick_X5_hasCopy : GoodIn wsX5_makeTick wsX5_hasCopy := goodIn_r _ [7, 2, 66, 67, 68, 69, 70, 71, 72, 73, 74, 75, 76, 77, 78] (by rfl) (by decide +kernel)
set_option maxRecDepth 20000 in
theorem gX5_makeTick_X5_hasCopy : GoodIn wsX5_makeTick (wsV RX5 71 RX5 yX5_hasCopy wsX5_hasCopy) := goodIn_app (goodIn_r _ [3, 4, 5, 6] (by rfl) (by decide +kernel)) ggX5_makeTick_X5_hasCopy
set_option maxRecDepth 20000 in
theorem ggX5_makeTick_X5_lockRunsOut : GoodIn wsX5_makeTick wsX5_lockRunsOut := goodIn_r _ [11, 2, 12, 1, 66, 67, 68, 69, 70, 71, 72, 73, 74, 75, 76, 77, 78] (by rfl) (by decide +kernel)
set_option maxRecDepth 20000 in
theorem gX5_makeTick_X5_lockRunsOut : GoodIn wsX5_makeTick (wsV RX5 111 RX5 yX5_lockRunsOut wsX5_lockRunsOut) := goodIn_app (goodIn_r _ [8, 9, 10, 6] (by rfl) (by decide +kernel)) ggX5_makeTick_X5_lockRunsOut
set_option maxRecDepth 20000 in
theorem ggX5_makeTick_X5_applyEntries : GoodIn wsX5_makeTick wsX5_applyEntries := goodIn_r _ [16, 2, 12, 1, 17, 18, 19, 20, 21, 22, 23, 24, 25, 26, 27, 28, 29, 30, 31, 32, 33, 34, 35, 36, 37, 38, 39, 40, 41, 42, 43, 44, 45, 46, 66, 67, 68, 69, 70, 71, 72, 73, 74, 75, 76, 77, 78, 79, 80, 81, 82, 83] (by rfl) (by decide +kernel)
set_option maxRecDepth 20000 in
theorem gX5_makeTick_X5_applyEntries : GoodIn wsX5_makeTick (wsV RX5 114 RX5 yX5_applyEntries wsX5_applyEntries) := goodIn_app (goodIn_r _ [13, 14, 15, 6] (by rfl) (by decide +kernel)) ggX5_makeTick_X5_applyEntries
set_option maxRecDepth 20000 in
theorem ggX5_makeTick_X5_copyLot : GoodIn wsX5_makeTick wsX5_copyLot := goodIn_r _ [50, 2, 12, 1, 51, 52, 53, 54, 40, 55, 42, 56, 57, 58, 59, 60, 61, 62, 63, 34, 35, 36, 64, 65, 38, 39, 41, 66, 67, 68, 69, 70, 71, 72, 73, 74, 75, 76, 77, 78, 79, 80, 81, 82, 83] (by rfl) (by decide +kernel)
set_option maxRecDepth 20000 in
theorem gX5_makeTick_X5_copyLot : GoodIn wsX5_makeTick (wsV RX5 117 RX5 yX5_copyLot wsX5_copyLot) := goodIn_app (goodIn_r _ [47, 48, 49, 6] (by rfl) (by decide +kernel)) ggX5_makeTick_X5_copyLot
theorem dX5_makeTick_0 : decode cX5_makeTick 0 = .ok (.aload_n 0, 1) := by decide +kernel
theorem dX5_makeTick_1 : decode cX5_makeTick 1 = .ok (.getfield 32, 3) := by decide +kernel
theorem dX5_makeTick_4 : decode cX5_makeTick 4 = .ok (.bipush 7, 2) := by decide +kernel
theorem dX5_makeTick_6 : decode cX5_makeTick 6 = .ok (.dup2, 1) := by decide +kernel
theorem dX5_makeTick_7 : decode cX5_makeTick 7 = .ok (.iaload, 1) := by decide +kernel
theorem dX5_makeTick_8 : decode cX5_makeTick 8 = .ok (.iconst 1, 1) := by decide +kernel
theorem dX5_makeTick_9 : decode cX5_makeTick 9 = .ok (.iadd, 1) := by decide +kernel
theorem dX5_makeTick_10 : decode cX5_makeTick 10 = .ok (.iastore, 1) := by decide +kernel
theorem dX5_makeTick_11 : decode cX5_makeTick 11 = .ok (.aload_n 0, 1) := by decide +kernel
theorem dX5_makeTick_12 : decode cX5_makeTick 12 = .ok (.invokevirtual 71, 3) := by decide +kernel
theorem dX5_makeTick_15 : decode cX5_makeTick 15 = .ok (.ifCond .eq 10, 3) := by decide +kernel
theorem dX5_makeTick_18 : decode cX5_makeTick 18 = .ok (.aload_n 0, 1) := by decide +kernel
theorem dX5_makeTick_19 : decode cX5_makeTick 19 = .ok (.invokevirtual 111, 3) := by decide +kernel
theorem dX5_makeTick_22 : decode cX5_makeTick 22 = .ok (.ifCond .eq 4, 3) := by decide +kernel
theorem dX5_makeTick_25 : decode cX5_makeTick 25 = .ok (.return_, 1) := by decide +kernel
theorem dX5_makeTick_26 : decode cX5_makeTick 26 = .ok (.aload_n 0, 1) := by decide +kernel
theorem dX5_makeTick_27 : decode cX5_makeTick 27 = .ok (.invokevirtual 114, 3) := by decide +kernel
theorem dX5_makeTick_30 : decode cX5_makeTick 30 = .ok (.aload_n 0, 1) := by decide +kernel
theorem dX5_makeTick_31 : decode cX5_makeTick 31 = .ok (.getfield 24, 3) := by decide +kernel
theorem dX5_makeTick_34 : decode cX5_makeTick 34 = .ok (.getfield 59, 3) := by decide +kernel
theorem dX5_makeTick_37 : decode cX5_makeTick 37 = .ok (.iconst 1, 1) := by decide +kernel
theorem dX5_makeTick_38 : decode cX5_makeTick 38 = .ok (.if_icmp .ne 7, 3) := by decide +kernel
theorem dX5_makeTick_41 : decode cX5_makeTick 41 = .ok (.aload_n 0, 1) := by decide +kernel
theorem dX5_makeTick_42 : decode cX5_makeTick 42 = .ok (.invokevirtual 117, 3) := by decide +kernel
theorem dX5_makeTick_45 : decode cX5_makeTick 45 = .ok (.return_, 1) := by decide +kernel
theorem dX5_lockRunsOut_0 : decode cX5_lockRunsOut 0 = .ok (.aload_n 0, 1) := by decide +kernel
theorem dX5_lockRunsOut_1 : decode cX5_lockRunsOut 1 = .ok (.getfield 24, 3) := by decide +kernel
theorem dX5_lockRunsOut_4 : decode cX5_lockRunsOut 4 = .ok (.getfield 59, 3) := by decide +kernel
theorem dX5_lockRunsOut_7 : decode cX5_lockRunsOut 7 = .ok (.iconst 3, 1) := by decide +kernel
theorem dX5_lockRunsOut_8 : decode cX5_lockRunsOut 8 = .ok (.if_icmp .eq 5, 3) := by decide +kernel
theorem dX5_lockRunsOut_11 : decode cX5_lockRunsOut 11 = .ok (.iconst 0, 1) := by decide +kernel
theorem dX5_lockRunsOut_12 : decode cX5_lockRunsOut 12 = .ok (.ireturn, 1) := by decide +kernel
theorem dX5_lockRunsOut_13 : decode cX5_lockRunsOut 13 = .ok (.aload_n 0, 1) := by decide +kernel
theorem dX5_lockRunsOut_14 : decode cX5_lockRunsOut 14 = .ok (.getfield 24, 3) := by decide +kernel
theorem dX5_lockRunsOut_17 : decode cX5_lockRunsOut 17 = .ok (.dup, 1) := by decide +kernel
theorem dX5_lockRunsOut_18 : decode cX5_lockRunsOut 18 = .ok (.getfield 120, 3) := by decide +kernel
theorem dX5_lockRunsOut_21 : decode cX5_lockRunsOut 21 = .ok (.iconst 1, 1) := by decide +kernel
theorem dX5_lockRunsOut_22 : decode cX5_lockRunsOut 22 = .ok (.iadd, 1) := by decide +kernel
theorem dX5_lockRunsOut_23 : decode cX5_lockRunsOut 23 = .ok (.putfield 120, 3) := by decide +kernel
theorem dX5_lockRunsOut_26 : decode cX5_lockRunsOut 26 = .ok (.aload_n 0, 1) := by decide +kernel
theorem dX5_lockRunsOut_27 : decode cX5_lockRunsOut 27 = .ok (.getfield 24, 3) := by decide +kernel
theorem dX5_lockRunsOut_30 : decode cX5_lockRunsOut 30 = .ok (.getfield 120, 3) := by decide +kernel
theorem dX5_lockRunsOut_33 : decode cX5_lockRunsOut 33 = .ok (.aload_n 0, 1) := by decide +kernel
theorem dX5_lockRunsOut_34 : decode cX5_lockRunsOut 34 = .ok (.getfield 28, 3) := by decide +kernel
theorem dX5_lockRunsOut_37 : decode cX5_lockRunsOut 37 = .ok (.iconst 2, 1) := by decide +kernel
theorem dX5_lockRunsOut_38 : decode cX5_lockRunsOut 38 = .ok (.iaload, 1) := by decide +kernel
theorem dX5_lockRunsOut_39 : decode cX5_lockRunsOut 39 = .ok (.if_icmp .gt 5, 3) := by decide +kernel
theorem dX5_lockRunsOut_42 : decode cX5_lockRunsOut 42 = .ok (.iconst 0, 1) := by decide +kernel
theorem dX5_lockRunsOut_43 : decode cX5_lockRunsOut 43 = .ok (.ireturn, 1) := by decide +kernel
theorem dX5_lockRunsOut_44 : decode cX5_lockRunsOut 44 = .ok (.aload_n 0, 1) := by decide +kernel
theorem dX5_lockRunsOut_45 : decode cX5_lockRunsOut 45 = .ok (.getfield 24, 3) := by decide +kernel
theorem dX5_lockRunsOut_48 : decode cX5_lockRunsOut 48 = .ok (.iconst 2, 1) := by decide +kernel
theorem dX5_lockRunsOut_49 : decode cX5_lockRunsOut 49 = .ok (.putfield 59, 3) := by decide +kernel
theorem dX5_lockRunsOut_52 : decode cX5_lockRunsOut 52 = .ok (.aload_n 0, 1) := by decide +kernel
theorem dX5_lockRunsOut_53 : decode cX5_lockRunsOut 53 = .ok (.getfield 32, 3) := by decide +kernel
theorem dX5_lockRunsOut_56 : decode cX5_lockRunsOut 56 = .ok (.iconst 3, 1) := by decide +kernel
theorem dX5_lockRunsOut_57 : decode cX5_lockRunsOut 57 = .ok (.dup2, 1) := by decide +kernel
theorem dX5_lockRunsOut_58 : decode cX5_lockRunsOut 58 = .ok (.iaload, 1) := by decide +kernel
theorem dX5_lockRunsOut_59 : decode cX5_lockRunsOut 59 = .ok (.iconst 1, 1) := by decide +kernel
theorem dX5_lockRunsOut_60 : decode cX5_lockRunsOut 60 = .ok (.iadd, 1) := by decide +kernel
theorem dX5_lockRunsOut_61 : decode cX5_lockRunsOut 61 = .ok (.iastore, 1) := by decide +kernel
theorem dX5_lockRunsOut_62 : decode cX5_lockRunsOut 62 = .ok (.iconst 1, 1) := by decide +kernel
theorem dX5_lockRunsOut_63 : decode cX5_lockRunsOut 63 = .ok (.ireturn, 1) := by decide +kernel
set_option maxRecDepth 20000 in
theorem ggX5_applyEntries_X2_keyAt : GoodIn wsX5_applyEntries wsX2_keyAt := goodIn_r _ [8, 9, 10, 11, 12, 13, 7, 14, 15, 47, 48, 49, 50] (by rfl) (by decide +kernel)
set_option maxRecDepth 20000 in
theorem gX5_applyEntries_X2_keyAt : GoodIn wsX5_applyEntries (wsV RX5 126 RX2 yX2_keyAt wsX2_keyAt) := goodIn_app (goodIn_r _ [4, 5, 6, 7] (by rfl) (by decide +kernel)) ggX5_applyEntries_X2_keyAt
set_option maxRecDepth 20000 in
theorem ggX5_applyEntries_X2_valueAt : GoodIn wsX5_applyEntries wsX2_valueAt := goodIn_r _ [19, 9, 20, 11, 12, 13, 7, 14, 15, 47, 48, 49, 50] (by rfl) (by decide +kernel)
set_option maxRecDepth 20000 in
theorem gX5_applyEntries_X2_valueAt : GoodIn wsX5_applyEntries (wsV RX5 135 RX2 yX2_valueAt wsX2_valueAt) := goodIn_app (goodIn_r _ [16, 17, 18, 7] (by rfl) (by decide +kernel)) ggX5_applyEntries_X2_valueAt
set_option maxRecDepth 20000 in
theorem ggX5_applyEntries_X6_changedValue : GoodIn wsX5_applyEntries wsX6_changedValue := goodIn_r _ [23] (by rfl) (by decide +kernel)
set_option maxRecDepth 20000 in
theorem gX5_applyEntries_X6_changedValue_n138 : GoodIn wsX5_applyEntries (wsX6_changedValue) := ggX5_applyEntries_X6_changedValue
set_option maxRecDepth 20000 in
theorem ggX5_applyEntries_X3_place : GoodIn wsX5_applyEntries wsX3_place := goodIn_r _ [28, 29, 51] (by rfl) (by decide +kernel)
set_option maxRecDepth 20000 in
theorem gX5_applyEntries_X3_place : GoodIn wsX5_applyEntries (wsV RX5 88 RX3 yX3_place wsX3_place) := goodIn_app (goodIn_r _ [24, 25, 26, 27] (by rfl) (by decide +kernel)) ggX5_applyEntries_X3_place
set_option maxRecDepth 20000 in
theorem ggX5_applyEntries_X2_removeFirst : GoodIn wsX5_applyEntries wsX2_removeFirst := goodIn_r _ [33, 9, 15, 11, 12, 13, 7, 14, 47, 48, 49, 50] (by rfl) (by decide +kernel)
set_option maxRecDepth 20000 in
theorem gX5_applyEntries_X2_removeFirst : GoodIn wsX5_applyEntries (wsV RX5 142 RX2 yX2_removeFirst wsX2_removeFirst) := goodIn_app (goodIn_r _ [30, 31, 32, 7] (by rfl) (by decide +kernel)) ggX5_applyEntries_X2_removeFirst
theorem dX5_applyEntries_0 : decode cX5_applyEntries 0 = .ok (.aload_n 0, 1) := by decide +kernel
theorem dX5_applyEntries_1 : decode cX5_applyEntries 1 = .ok (.getfield 24, 3) := by decide +kernel
theorem dX5_applyEntries_4 : decode cX5_applyEntries 4 = .ok (.getfield 75, 3) := by decide +kernel
theorem dX5_applyEntries_7 : decode cX5_applyEntries 7 = .ok (.astore_n 1, 1) := by decide +kernel
theorem dX5_applyEntries_8 : decode cX5_applyEntries 8 = .ok (.iconst 0, 1) := by decide +kernel
theorem dX5_applyEntries_9 : decode cX5_applyEntries 9 = .ok (.istore_n 2, 1) := by decide +kernel
theorem dX5_applyEntries_10 : decode cX5_applyEntries 10 = .ok (.iload_n 2, 1) := by decide +kernel
theorem dX5_applyEntries_11 : decode cX5_applyEntries 11 = .ok (.aload_n 0, 1) := by decide +kernel
theorem dX5_applyEntries_12 : decode cX5_applyEntries 12 = .ok (.getfield 28, 3) := by decide +kernel
theorem dX5_applyEntries_15 : decode cX5_applyEntries 15 = .ok (.iconst 0, 1) := by decide +kernel
theorem dX5_applyEntries_16 : decode cX5_applyEntries 16 = .ok (.iaload, 1) := by decide +kernel
theorem dX5_applyEntries_17 : decode cX5_applyEntries 17 = .ok (.if_icmp .ge 63, 3) := by decide +kernel
theorem dX5_applyEntries_20 : decode cX5_applyEntries 20 = .ok (.aload_n 1, 1) := by decide +kernel
theorem dX5_applyEntries_21 : decode cX5_applyEntries 21 = .ok (.getfield 123, 3) := by decide +kernel
theorem dX5_applyEntries_24 : decode cX5_applyEntries 24 = .ok (.ifCond .le 56, 3) := by decide +kernel
theorem dX5_applyEntries_27 : decode cX5_applyEntries 27 = .ok (.aload_n 1, 1) := by decide +kernel
theorem dX5_applyEntries_28 : decode cX5_applyEntries 28 = .ok (.iconst 0, 1) := by decide +kernel
theorem dX5_applyEntries_29 : decode cX5_applyEntries 29 = .ok (.invokevirtual 126, 3) := by decide +kernel
theorem dX5_applyEntries_32 : decode cX5_applyEntries 32 = .ok (.istore_n 3, 1) := by decide +kernel
theorem dX5_applyEntries_33 : decode cX5_applyEntries 33 = .ok (.aload_n 0, 1) := by decide +kernel
theorem dX5_applyEntries_34 : decode cX5_applyEntries 34 = .ok (.getfield 24, 3) := by decide +kernel
theorem dX5_applyEntries_37 : decode cX5_applyEntries 37 = .ok (.getfield 129, 3) := by decide +kernel
theorem dX5_applyEntries_40 : decode cX5_applyEntries 40 = .ok (.iload_n 3, 1) := by decide +kernel
theorem dX5_applyEntries_41 : decode cX5_applyEntries 41 = .ok (.aload_n 0, 1) := by decide +kernel
theorem dX5_applyEntries_42 : decode cX5_applyEntries 42 = .ok (.getfield 24, 3) := by decide +kernel
theorem dX5_applyEntries_45 : decode cX5_applyEntries 45 = .ok (.getfield 132, 3) := by decide +kernel
theorem dX5_applyEntries_48 : decode cX5_applyEntries 48 = .ok (.iload_n 3, 1) := by decide +kernel
theorem dX5_applyEntries_49 : decode cX5_applyEntries 49 = .ok (.aload_n 1, 1) := by decide +kernel
theorem dX5_applyEntries_50 : decode cX5_applyEntries 50 = .ok (.iconst 0, 1) := by decide +kernel
theorem dX5_applyEntries_51 : decode cX5_applyEntries 51 = .ok (.invokevirtual 135, 3) := by decide +kernel
theorem dX5_applyEntries_54 : decode cX5_applyEntries 54 = .ok (.invokestatic 138, 3) := by decide +kernel
theorem dX5_applyEntries_57 : decode cX5_applyEntries 57 = .ok (.invokevirtual 88, 3) := by decide +kernel
theorem dX5_applyEntries_60 : decode cX5_applyEntries 60 = .ok (.aload_n 1, 1) := by decide +kernel
theorem dX5_applyEntries_61 : decode cX5_applyEntries 61 = .ok (.invokevirtual 142, 3) := by decide +kernel
theorem dX5_applyEntries_64 : decode cX5_applyEntries 64 = .ok (.aload_n 0, 1) := by decide +kernel
theorem dX5_applyEntries_65 : decode cX5_applyEntries 65 = .ok (.getfield 32, 3) := by decide +kernel
theorem dX5_applyEntries_68 : decode cX5_applyEntries 68 = .ok (.iconst 5, 1) := by decide +kernel
theorem dX5_applyEntries_69 : decode cX5_applyEntries 69 = .ok (.dup2, 1) := by decide +kernel
theorem dX5_applyEntries_70 : decode cX5_applyEntries 70 = .ok (.iaload, 1) := by decide +kernel
theorem dX5_applyEntries_71 : decode cX5_applyEntries 71 = .ok (.iconst 1, 1) := by decide +kernel
theorem dX5_applyEntries_72 : decode cX5_applyEntries 72 = .ok (.iadd, 1) := by decide +kernel
theorem dX5_applyEntries_73 : decode cX5_applyEntries 73 = .ok (.iastore, 1) := by decide +kernel
theorem dX5_applyEntries_74 : decode cX5_applyEntries 74 = .ok (.iinc 2 1, 3) := by decide +kernel
theorem dX5_applyEntries_77 : decode cX5_applyEntries 77 = .ok (.goto (-67), 3) := by decide +kernel
theorem dX5_applyEntries_80 : decode cX5_applyEntries 80 = .ok (.return_, 1) := by decide +kernel
set_option maxRecDepth 20000 in
theorem ggX5_copyLot_X3_at : GoodIn wsX5_copyLot wsX3_at := goodIn_r _ [9, 10, 44] (by rfl) (by decide +kernel)
set_option maxRecDepth 20000 in
theorem gX5_copyLot_X3_at : GoodIn wsX5_copyLot (wsV RX5 67 RX3 yX3_at wsX3_at) := goodIn_app (goodIn_r _ [5, 6, 7, 8] (by rfl) (by decide +kernel)) ggX5_copyLot_X3_at
set_option maxRecDepth 20000 in
theorem ggX5_copyLot_X0_copyKey : GoodIn wsX5_copyLot wsX0_copyKey := goodIn_r _ [15, 16, 17, 18, 19, 20, 21, 22, 6, 7, 8, 9, 10, 23, 24, 25, 26, 33, 34, 35, 36, 37, 38, 39, 44] (by rfl) (by decide +kernel)
set_option maxRecDepth 20000 in
theorem gX5_copyLot_X0_copyKey : GoodIn wsX5_copyLot (wsV RX5 151 RX0 yX0_copyKey wsX0_copyKey) := goodIn_app (goodIn_r _ [11, 12, 13, 14] (by rfl) (by decide +kernel)) ggX5_copyLot_X0_copyKey
theorem dX5_copyLot_0 : decode cX5_copyLot 0 = .ok (.aload_n 0, 1) := by decide +kernel
theorem dX5_copyLot_1 : decode cX5_copyLot 1 = .ok (.getfield 24, 3) := by decide +kernel
theorem dX5_copyLot_4 : decode cX5_copyLot 4 = .ok (.getfield 75, 3) := by decide +kernel
theorem dX5_copyLot_7 : decode cX5_copyLot 7 = .ok (.getfield 123, 3) := by decide +kernel
theorem dX5_copyLot_10 : decode cX5_copyLot 10 = .ok (.aload_n 0, 1) := by decide +kernel
theorem dX5_copyLot_11 : decode cX5_copyLot 11 = .ok (.getfield 28, 3) := by decide +kernel
theorem dX5_copyLot_14 : decode cX5_copyLot 14 = .ok (.iconst 1, 1) := by decide +kernel
theorem dX5_copyLot_15 : decode cX5_copyLot 15 = .ok (.iaload, 1) := by decide +kernel
theorem dX5_copyLot_16 : decode cX5_copyLot 16 = .ok (.if_icmp .le 14, 3) := by decide +kernel
theorem dX5_copyLot_19 : decode cX5_copyLot 19 = .ok (.aload_n 0, 1) := by decide +kernel
theorem dX5_copyLot_20 : decode cX5_copyLot 20 = .ok (.getfield 32, 3) := by decide +kernel
theorem dX5_copyLot_23 : decode cX5_copyLot 23 = .ok (.iconst 4, 1) := by decide +kernel
theorem dX5_copyLot_24 : decode cX5_copyLot 24 = .ok (.dup2, 1) := by decide +kernel
theorem dX5_copyLot_25 : decode cX5_copyLot 25 = .ok (.iaload, 1) := by decide +kernel
theorem dX5_copyLot_26 : decode cX5_copyLot 26 = .ok (.iconst 1, 1) := by decide +kernel
theorem dX5_copyLot_27 : decode cX5_copyLot 27 = .ok (.iadd, 1) := by decide +kernel
theorem dX5_copyLot_28 : decode cX5_copyLot 28 = .ok (.iastore, 1) := by decide +kernel
theorem dX5_copyLot_29 : decode cX5_copyLot 29 = .ok (.return_, 1) := by decide +kernel
theorem dX5_copyLot_30 : decode cX5_copyLot 30 = .ok (.iconst 0, 1) := by decide +kernel
theorem dX5_copyLot_31 : decode cX5_copyLot 31 = .ok (.istore_n 1, 1) := by decide +kernel
theorem dX5_copyLot_32 : decode cX5_copyLot 32 = .ok (.aload_n 0, 1) := by decide +kernel
theorem dX5_copyLot_33 : decode cX5_copyLot 33 = .ok (.getfield 24, 3) := by decide +kernel
theorem dX5_copyLot_36 : decode cX5_copyLot 36 = .ok (.getfield 145, 3) := by decide +kernel
theorem dX5_copyLot_39 : decode cX5_copyLot 39 = .ok (.istore_n 2, 1) := by decide +kernel
theorem dX5_copyLot_40 : decode cX5_copyLot 40 = .ok (.iload_n 2, 1) := by decide +kernel
theorem dX5_copyLot_41 : decode cX5_copyLot 41 = .ok (.bipush 32, 2) := by decide +kernel
theorem dX5_copyLot_43 : decode cX5_copyLot 43 = .ok (.if_icmp .ge 66, 3) := by decide +kernel
theorem dX5_copyLot_46 : decode cX5_copyLot 46 = .ok (.iload_n 1, 1) := by decide +kernel
theorem dX5_copyLot_47 : decode cX5_copyLot 47 = .ok (.aload_n 0, 1) := by decide +kernel
theorem dX5_copyLot_48 : decode cX5_copyLot 48 = .ok (.getfield 24, 3) := by decide +kernel
theorem dX5_copyLot_51 : decode cX5_copyLot 51 = .ok (.getfield 148, 3) := by decide +kernel
theorem dX5_copyLot_54 : decode cX5_copyLot 54 = .ok (.if_icmp .ge 55, 3) := by decide +kernel
theorem dX5_copyLot_57 : decode cX5_copyLot 57 = .ok (.aload_n 0, 1) := by decide +kernel
theorem dX5_copyLot_58 : decode cX5_copyLot 58 = .ok (.getfield 12, 3) := by decide +kernel
theorem dX5_copyLot_61 : decode cX5_copyLot 61 = .ok (.iload_n 2, 1) := by decide +kernel
theorem dX5_copyLot_62 : decode cX5_copyLot 62 = .ok (.invokevirtual 67, 3) := by decide +kernel
theorem dX5_copyLot_65 : decode cX5_copyLot 65 = .ok (.bipush (-5), 2) := by decide +kernel
theorem dX5_copyLot_67 : decode cX5_copyLot 67 = .ok (.if_icmp .eq 6, 3) := by decide +kernel
theorem dX5_copyLot_70 : decode cX5_copyLot 70 = .ok (.iinc 1 1, 3) := by decide +kernel
theorem dX5_copyLot_73 : decode cX5_copyLot 73 = .ok (.aload_n 0, 1) := by decide +kernel
theorem dX5_copyLot_74 : decode cX5_copyLot 74 = .ok (.getfield 24, 3) := by decide +kernel
theorem dX5_copyLot_77 : decode cX5_copyLot 77 = .ok (.iload_n 2, 1) := by decide +kernel
theorem dX5_copyLot_78 : decode cX5_copyLot 78 = .ok (.aload_n 0, 1) := by decide +kernel
theorem dX5_copyLot_79 : decode cX5_copyLot 79 = .ok (.getfield 12, 3) := by decide +kernel
theorem dX5_copyLot_82 : decode cX5_copyLot 82 = .ok (.iload_n 2, 1) := by decide +kernel
theorem dX5_copyLot_83 : decode cX5_copyLot 83 = .ok (.invokevirtual 67, 3) := by decide +kernel
theorem dX5_copyLot_86 : decode cX5_copyLot 86 = .ok (.invokevirtual 151, 3) := by decide +kernel
theorem dX5_copyLot_89 : decode cX5_copyLot 89 = .ok (.ifCond .eq 14, 3) := by decide +kernel
theorem dX5_copyLot_92 : decode cX5_copyLot 92 = .ok (.aload_n 0, 1) := by decide +kernel
theorem dX5_copyLot_93 : decode cX5_copyLot 93 = .ok (.getfield 32, 3) := by decide +kernel
theorem dX5_copyLot_96 : decode cX5_copyLot 96 = .ok (.bipush 6, 2) := by decide +kernel
theorem dX5_copyLot_98 : decode cX5_copyLot 98 = .ok (.dup2, 1) := by decide +kernel
theorem dX5_copyLot_99 : decode cX5_copyLot 99 = .ok (.iaload, 1) := by decide +kernel
theorem dX5_copyLot_100 : decode cX5_copyLot 100 = .ok (.iconst 1, 1) := by decide +kernel
theorem dX5_copyLot_101 : decode cX5_copyLot 101 = .ok (.iadd, 1) := by decide +kernel
theorem dX5_copyLot_102 : decode cX5_copyLot 102 = .ok (.iastore, 1) := by decide +kernel
theorem dX5_copyLot_103 : decode cX5_copyLot 103 = .ok (.iinc 2 1, 3) := by decide +kernel
theorem dX5_copyLot_106 : decode cX5_copyLot 106 = .ok (.goto (-66), 3) := by decide +kernel
theorem dX5_copyLot_109 : decode cX5_copyLot 109 = .ok (.aload_n 0, 1) := by decide +kernel
theorem dX5_copyLot_110 : decode cX5_copyLot 110 = .ok (.getfield 24, 3) := by decide +kernel
theorem dX5_copyLot_113 : decode cX5_copyLot 113 = .ok (.getfield 145, 3) := by decide +kernel
theorem dX5_copyLot_116 : decode cX5_copyLot 116 = .ok (.bipush 32, 2) := by decide +kernel
theorem dX5_copyLot_118 : decode cX5_copyLot 118 = .ok (.if_icmp .lt 11, 3) := by decide +kernel
theorem dX5_copyLot_121 : decode cX5_copyLot 121 = .ok (.aload_n 0, 1) := by decide +kernel
theorem dX5_copyLot_122 : decode cX5_copyLot 122 = .ok (.getfield 24, 3) := by decide +kernel
theorem dX5_copyLot_125 : decode cX5_copyLot 125 = .ok (.iconst 2, 1) := by decide +kernel
theorem dX5_copyLot_126 : decode cX5_copyLot 126 = .ok (.putfield 59, 3) := by decide +kernel
theorem dX5_copyLot_129 : decode cX5_copyLot 129 = .ok (.return_, 1) := by decide +kernel
theorem dX5_lockLive_0 : decode cX5_lockLive 0 = .ok (.aload_n 0, 1) := by decide +kernel
theorem dX5_lockLive_1 : decode cX5_lockLive 1 = .ok (.getfield 24, 3) := by decide +kernel
theorem dX5_lockLive_4 : decode cX5_lockLive 4 = .ok (.getfield 59, 3) := by decide +kernel
theorem dX5_lockLive_7 : decode cX5_lockLive 7 = .ok (.iconst 2, 1) := by decide +kernel
theorem dX5_lockLive_8 : decode cX5_lockLive 8 = .ok (.if_icmp .eq 6, 3) := by decide +kernel
theorem dX5_lockLive_11 : decode cX5_lockLive 11 = .ok (.bipush (-4), 2) := by decide +kernel
theorem dX5_lockLive_13 : decode cX5_lockLive 13 = .ok (.ireturn, 1) := by decide +kernel
theorem dX5_lockLive_14 : decode cX5_lockLive 14 = .ok (.aload_n 0, 1) := by decide +kernel
theorem dX5_lockLive_15 : decode cX5_lockLive 15 = .ok (.getfield 24, 3) := by decide +kernel
theorem dX5_lockLive_18 : decode cX5_lockLive 18 = .ok (.iconst 3, 1) := by decide +kernel
theorem dX5_lockLive_19 : decode cX5_lockLive 19 = .ok (.putfield 59, 3) := by decide +kernel
theorem dX5_lockLive_22 : decode cX5_lockLive 22 = .ok (.aload_n 0, 1) := by decide +kernel
theorem dX5_lockLive_23 : decode cX5_lockLive 23 = .ok (.getfield 24, 3) := by decide +kernel
theorem dX5_lockLive_26 : decode cX5_lockLive 26 = .ok (.iconst 0, 1) := by decide +kernel
theorem dX5_lockLive_27 : decode cX5_lockLive 27 = .ok (.putfield 120, 3) := by decide +kernel
theorem dX5_lockLive_30 : decode cX5_lockLive 30 = .ok (.aload_n 0, 1) := by decide +kernel
theorem dX5_lockLive_31 : decode cX5_lockLive 31 = .ok (.getfield 24, 3) := by decide +kernel
theorem dX5_lockLive_34 : decode cX5_lockLive 34 = .ok (.getfield 75, 3) := by decide +kernel
theorem dX5_lockLive_37 : decode cX5_lockLive 37 = .ok (.getfield 123, 3) := by decide +kernel
theorem dX5_lockLive_40 : decode cX5_lockLive 40 = .ok (.ireturn, 1) := by decide +kernel
theorem dX5_unlockLive_0 : decode cX5_unlockLive 0 = .ok (.aload_n 0, 1) := by decide +kernel
theorem dX5_unlockLive_1 : decode cX5_unlockLive 1 = .ok (.getfield 24, 3) := by decide +kernel
theorem dX5_unlockLive_4 : decode cX5_unlockLive 4 = .ok (.getfield 59, 3) := by decide +kernel
theorem dX5_unlockLive_7 : decode cX5_unlockLive 7 = .ok (.iconst 3, 1) := by decide +kernel
theorem dX5_unlockLive_8 : decode cX5_unlockLive 8 = .ok (.if_icmp .eq 6, 3) := by decide +kernel
theorem dX5_unlockLive_11 : decode cX5_unlockLive 11 = .ok (.bipush (-4), 2) := by decide +kernel
theorem dX5_unlockLive_13 : decode cX5_unlockLive 13 = .ok (.ireturn, 1) := by decide +kernel
theorem dX5_unlockLive_14 : decode cX5_unlockLive 14 = .ok (.aload_n 0, 1) := by decide +kernel
theorem dX5_unlockLive_15 : decode cX5_unlockLive 15 = .ok (.getfield 24, 3) := by decide +kernel
theorem dX5_unlockLive_18 : decode cX5_unlockLive 18 = .ok (.iconst 2, 1) := by decide +kernel
theorem dX5_unlockLive_19 : decode cX5_unlockLive 19 = .ok (.putfield 59, 3) := by decide +kernel
theorem dX5_unlockLive_22 : decode cX5_unlockLive 22 = .ok (.aload_n 0, 1) := by decide +kernel
theorem dX5_unlockLive_23 : decode cX5_unlockLive 23 = .ok (.getfield 24, 3) := by decide +kernel
theorem dX5_unlockLive_26 : decode cX5_unlockLive 26 = .ok (.getfield 120, 3) := by decide +kernel
theorem dX5_unlockLive_29 : decode cX5_unlockLive 29 = .ok (.ireturn, 1) := by decide +kernel
set_option maxRecDepth 20000 in
theorem ggX5_swapTables_X3_take : GoodIn wsX5_swapTables wsX3_take := goodIn_r _ [10, 11, 12, 13, 14, 15, 37] (by rfl) (by decide +kernel)
set_option maxRecDepth 20000 in
theorem gX5_swapTables_X3_take : GoodIn wsX5_swapTables (wsV RX5 35 RX3 yX3_take wsX3_take) := goodIn_app (goodIn_r _ [6, 7, 8, 9] (by rfl) (by decide +kernel)) ggX5_swapTables_X3_take
set_option maxRecDepth 20000 in
theorem ggX5_swapTables_X3_count : GoodIn wsX5_swapTables wsX3_count := goodIn_r _ [19, 11, 37] (by rfl) (by decide +kernel)
set_option maxRecDepth 20000 in
theorem gX5_swapTables_X3_count : GoodIn wsX5_swapTables (wsV RX5 101 RX3 yX3_count wsX3_count) := goodIn_app (goodIn_r _ [16, 17, 18, 9] (by rfl) (by decide +kernel)) ggX5_swapTables_X3_count
theorem dX5_swapTables_0 : decode cX5_swapTables 0 = .ok (.aload_n 0, 1) := by decide +kernel
theorem dX5_swapTables_1 : decode cX5_swapTables 1 = .ok (.getfield 24, 3) := by decide +kernel
theorem dX5_swapTables_4 : decode cX5_swapTables 4 = .ok (.getfield 59, 3) := by decide +kernel
theorem dX5_swapTables_7 : decode cX5_swapTables 7 = .ok (.iconst 3, 1) := by decide +kernel
theorem dX5_swapTables_8 : decode cX5_swapTables 8 = .ok (.if_icmp .ne 16, 3) := by decide +kernel
theorem dX5_swapTables_11 : decode cX5_swapTables 11 = .ok (.aload_n 0, 1) := by decide +kernel
theorem dX5_swapTables_12 : decode cX5_swapTables 12 = .ok (.getfield 24, 3) := by decide +kernel
theorem dX5_swapTables_15 : decode cX5_swapTables 15 = .ok (.getfield 75, 3) := by decide +kernel
theorem dX5_swapTables_18 : decode cX5_swapTables 18 = .ok (.getfield 123, 3) := by decide +kernel
theorem dX5_swapTables_21 : decode cX5_swapTables 21 = .ok (.ifCond .le 6, 3) := by decide +kernel
theorem dX5_swapTables_24 : decode cX5_swapTables 24 = .ok (.bipush (-4), 2) := by decide +kernel
theorem dX5_swapTables_26 : decode cX5_swapTables 26 = .ok (.ireturn, 1) := by decide +kernel
theorem dX5_swapTables_27 : decode cX5_swapTables 27 = .ok (.aload_n 0, 1) := by decide +kernel
theorem dX5_swapTables_28 : decode cX5_swapTables 28 = .ok (.getfield 18, 3) := by decide +kernel
theorem dX5_swapTables_31 : decode cX5_swapTables 31 = .ok (.aload_n 0, 1) := by decide +kernel
theorem dX5_swapTables_32 : decode cX5_swapTables 32 = .ok (.getfield 12, 3) := by decide +kernel
theorem dX5_swapTables_35 : decode cX5_swapTables 35 = .ok (.invokevirtual 35, 3) := by decide +kernel
theorem dX5_swapTables_38 : decode cX5_swapTables 38 = .ok (.aload_n 0, 1) := by decide +kernel
theorem dX5_swapTables_39 : decode cX5_swapTables 39 = .ok (.iconst 1, 1) := by decide +kernel
theorem dX5_swapTables_40 : decode cX5_swapTables 40 = .ok (.putfield 39, 3) := by decide +kernel
theorem dX5_swapTables_43 : decode cX5_swapTables 43 = .ok (.aload_n 0, 1) := by decide +kernel
theorem dX5_swapTables_44 : decode cX5_swapTables 44 = .ok (.getfield 12, 3) := by decide +kernel
theorem dX5_swapTables_47 : decode cX5_swapTables 47 = .ok (.aload_n 0, 1) := by decide +kernel
theorem dX5_swapTables_48 : decode cX5_swapTables 48 = .ok (.getfield 24, 3) := by decide +kernel
theorem dX5_swapTables_51 : decode cX5_swapTables 51 = .ok (.getfield 129, 3) := by decide +kernel
theorem dX5_swapTables_54 : decode cX5_swapTables 54 = .ok (.invokevirtual 35, 3) := by decide +kernel
theorem dX5_swapTables_57 : decode cX5_swapTables 57 = .ok (.aload_n 0, 1) := by decide +kernel
theorem dX5_swapTables_58 : decode cX5_swapTables 58 = .ok (.getfield 24, 3) := by decide +kernel
theorem dX5_swapTables_61 : decode cX5_swapTables 61 = .ok (.iconst 0, 1) := by decide +kernel
theorem dX5_swapTables_62 : decode cX5_swapTables 62 = .ok (.putfield 59, 3) := by decide +kernel
theorem dX5_swapTables_65 : decode cX5_swapTables 65 = .ok (.aload_n 0, 1) := by decide +kernel
theorem dX5_swapTables_66 : decode cX5_swapTables 66 = .ok (.getfield 32, 3) := by decide +kernel
theorem dX5_swapTables_69 : decode cX5_swapTables 69 = .ok (.iconst 1, 1) := by decide +kernel
theorem dX5_swapTables_70 : decode cX5_swapTables 70 = .ok (.dup2, 1) := by decide +kernel
theorem dX5_swapTables_71 : decode cX5_swapTables 71 = .ok (.iaload, 1) := by decide +kernel
theorem dX5_swapTables_72 : decode cX5_swapTables 72 = .ok (.iconst 1, 1) := by decide +kernel
theorem dX5_swapTables_73 : decode cX5_swapTables 73 = .ok (.iadd, 1) := by decide +kernel
theorem dX5_swapTables_74 : decode cX5_swapTables 74 = .ok (.iastore, 1) := by decide +kernel
theorem dX5_swapTables_75 : decode cX5_swapTables 75 = .ok (.aload_n 0, 1) := by decide +kernel
theorem dX5_swapTables_76 : decode cX5_swapTables 76 = .ok (.getfield 12, 3) := by decide +kernel
theorem dX5_swapTables_79 : decode cX5_swapTables 79 = .ok (.invokevirtual 101, 3) := by decide +kernel
theorem dX5_swapTables_82 : decode cX5_swapTables 82 = .ok (.ireturn, 1) := by decide +kernel
set_option maxRecDepth 20000 in
theorem ggX5_giveCopyUp_X5_hasCopy : GoodIn wsX5_giveCopyUp wsX5_hasCopy := goodIn_r _ [6, 1, 18, 19, 20, 21, 22, 23, 24, 25, 26, 27, 28, 29, 30] (by rfl) (by decide +kernel)
set_option maxRecDepth 20000 in
theorem gX5_giveCopyUp_X5_hasCopy : GoodIn wsX5_giveCopyUp (wsV RX5 71 RX5 yX5_hasCopy wsX5_hasCopy) := goodIn_app (goodIn_r _ [2, 3, 4, 5] (by rfl) (by decide +kernel)) ggX5_giveCopyUp_X5_hasCopy
set_option maxRecDepth 20000 in
theorem ggX5_giveCopyUp_X5_endGivenUp : GoodIn wsX5_giveCopyUp wsX5_endGivenUp := goodIn_r _ [10, 1, 11, 18, 19, 20, 21, 22, 23, 24, 25, 26, 27, 28, 29, 30] (by rfl) (by decide +kernel)
set_option maxRecDepth 20000 in
theorem gX5_giveCopyUp_X5_endGivenUp : GoodIn wsX5_giveCopyUp (wsV RX5 85 RX5 yX5_endGivenUp wsX5_endGivenUp) := goodIn_app (goodIn_r _ [7, 8, 9, 5] (by rfl) (by decide +kernel)) ggX5_giveCopyUp_X5_endGivenUp
set_option maxRecDepth 20000 in
theorem ggX5_giveCopyUp_X3_count : GoodIn wsX5_giveCopyUp wsX3_count := goodIn_r _ [16, 17, 31] (by rfl) (by decide +kernel)
set_option maxRecDepth 20000 in
theorem gX5_giveCopyUp_X3_count : GoodIn wsX5_giveCopyUp (wsV RX5 101 RX3 yX3_count wsX3_count) := goodIn_app (goodIn_r _ [12, 13, 14, 15] (by rfl) (by decide +kernel)) ggX5_giveCopyUp_X3_count
theorem dX5_giveCopyUp_0 : decode cX5_giveCopyUp 0 = .ok (.aload_n 0, 1) := by decide +kernel
theorem dX5_giveCopyUp_1 : decode cX5_giveCopyUp 1 = .ok (.invokevirtual 71, 3) := by decide +kernel
theorem dX5_giveCopyUp_4 : decode cX5_giveCopyUp 4 = .ok (.ifCond .ne 6, 3) := by decide +kernel
theorem dX5_giveCopyUp_7 : decode cX5_giveCopyUp 7 = .ok (.bipush (-4), 2) := by decide +kernel
theorem dX5_giveCopyUp_9 : decode cX5_giveCopyUp 9 = .ok (.ireturn, 1) := by decide +kernel
theorem dX5_giveCopyUp_10 : decode cX5_giveCopyUp 10 = .ok (.aload_n 0, 1) := by decide +kernel
theorem dX5_giveCopyUp_11 : decode cX5_giveCopyUp 11 = .ok (.invokevirtual 85, 3) := by decide +kernel
theorem dX5_giveCopyUp_14 : decode cX5_giveCopyUp 14 = .ok (.aload_n 0, 1) := by decide +kernel
theorem dX5_giveCopyUp_15 : decode cX5_giveCopyUp 15 = .ok (.getfield 24, 3) := by decide +kernel
theorem dX5_giveCopyUp_18 : decode cX5_giveCopyUp 18 = .ok (.getfield 129, 3) := by decide +kernel
theorem dX5_giveCopyUp_21 : decode cX5_giveCopyUp 21 = .ok (.invokevirtual 101, 3) := by decide +kernel
theorem dX5_giveCopyUp_24 : decode cX5_giveCopyUp 24 = .ok (.ireturn, 1) := by decide +kernel
theorem dX5_endGivenUp_0 : decode cX5_endGivenUp 0 = .ok (.aload_n 0, 1) := by decide +kernel
theorem dX5_endGivenUp_1 : decode cX5_endGivenUp 1 = .ok (.getfield 24, 3) := by decide +kernel
theorem dX5_endGivenUp_4 : decode cX5_endGivenUp 4 = .ok (.iconst 0, 1) := by decide +kernel
theorem dX5_endGivenUp_5 : decode cX5_endGivenUp 5 = .ok (.putfield 59, 3) := by decide +kernel
theorem dX5_endGivenUp_8 : decode cX5_endGivenUp 8 = .ok (.aload_n 0, 1) := by decide +kernel
theorem dX5_endGivenUp_9 : decode cX5_endGivenUp 9 = .ok (.getfield 32, 3) := by decide +kernel
theorem dX5_endGivenUp_12 : decode cX5_endGivenUp 12 = .ok (.iconst 2, 1) := by decide +kernel
theorem dX5_endGivenUp_13 : decode cX5_endGivenUp 13 = .ok (.dup2, 1) := by decide +kernel
theorem dX5_endGivenUp_14 : decode cX5_endGivenUp 14 = .ok (.iaload, 1) := by decide +kernel
theorem dX5_endGivenUp_15 : decode cX5_endGivenUp 15 = .ok (.iconst 1, 1) := by decide +kernel
theorem dX5_endGivenUp_16 : decode cX5_endGivenUp 16 = .ok (.iadd, 1) := by decide +kernel
theorem dX5_endGivenUp_17 : decode cX5_endGivenUp 17 = .ok (.iastore, 1) := by decide +kernel
theorem dX5_endGivenUp_18 : decode cX5_endGivenUp 18 = .ok (.return_, 1) := by decide +kernel
set_option maxRecDepth 20000 in
theorem ggX5_changeSetting_X6_isSetting : GoodIn wsX5_changeSetting wsX6_isSetting := goodIn_r _ [4, 5, 6, 3, 7] (by rfl) (by decide +kernel)
set_option maxRecDepth 20000 in
theorem gX5_changeSetting_X6_isSetting_n154 : GoodIn wsX5_changeSetting (wsX6_isSetting) := ggX5_changeSetting_X6_isSetting
set_option maxRecDepth 20000 in
theorem ggX5_changeSetting_X6_isIn : GoodIn wsX5_changeSetting wsX6_isIn := goodIn_r _ [7] (by rfl) (by decide +kernel)
set_option maxRecDepth 20000 in
theorem gX5_changeSetting_X6_isIn_n163 : GoodIn wsX5_changeSetting (wsX6_isIn) := ggX5_changeSetting_X6_isIn
theorem dX5_changeSetting_0 : decode cX5_changeSetting 0 = .ok (.iload_n 1, 1) := by decide +kernel
theorem dX5_changeSetting_1 : decode cX5_changeSetting 1 = .ok (.invokestatic 154, 3) := by decide +kernel
theorem dX5_changeSetting_4 : decode cX5_changeSetting 4 = .ok (.ifCond .ne 5, 3) := by decide +kernel
theorem dX5_changeSetting_7 : decode cX5_changeSetting 7 = .ok (.iconst (-1), 1) := by decide +kernel
theorem dX5_changeSetting_8 : decode cX5_changeSetting 8 = .ok (.ireturn, 1) := by decide +kernel
theorem dX5_changeSetting_9 : decode cX5_changeSetting 9 = .ok (.iload_n 2, 1) := by decide +kernel
theorem dX5_changeSetting_10 : decode cX5_changeSetting 10 = .ok (.getstatic 157, 3) := by decide +kernel
theorem dX5_changeSetting_13 : decode cX5_changeSetting 13 = .ok (.iload_n 1, 1) := by decide +kernel
theorem dX5_changeSetting_14 : decode cX5_changeSetting 14 = .ok (.iaload, 1) := by decide +kernel
theorem dX5_changeSetting_15 : decode cX5_changeSetting 15 = .ok (.getstatic 160, 3) := by decide +kernel
theorem dX5_changeSetting_18 : decode cX5_changeSetting 18 = .ok (.iload_n 1, 1) := by decide +kernel
theorem dX5_changeSetting_19 : decode cX5_changeSetting 19 = .ok (.iaload, 1) := by decide +kernel
theorem dX5_changeSetting_20 : decode cX5_changeSetting 20 = .ok (.invokestatic 163, 3) := by decide +kernel
theorem dX5_changeSetting_23 : decode cX5_changeSetting 23 = .ok (.ifCond .ne 6, 3) := by decide +kernel
theorem dX5_changeSetting_26 : decode cX5_changeSetting 26 = .ok (.bipush (-2), 2) := by decide +kernel
theorem dX5_changeSetting_28 : decode cX5_changeSetting 28 = .ok (.ireturn, 1) := by decide +kernel
theorem dX5_changeSetting_29 : decode cX5_changeSetting 29 = .ok (.aload_n 0, 1) := by decide +kernel
theorem dX5_changeSetting_30 : decode cX5_changeSetting 30 = .ok (.getfield 28, 3) := by decide +kernel
theorem dX5_changeSetting_33 : decode cX5_changeSetting 33 = .ok (.iload_n 1, 1) := by decide +kernel
theorem dX5_changeSetting_34 : decode cX5_changeSetting 34 = .ok (.iaload, 1) := by decide +kernel
theorem dX5_changeSetting_35 : decode cX5_changeSetting 35 = .ok (.istore_n 3, 1) := by decide +kernel
theorem dX5_changeSetting_36 : decode cX5_changeSetting 36 = .ok (.aload_n 0, 1) := by decide +kernel
theorem dX5_changeSetting_37 : decode cX5_changeSetting 37 = .ok (.getfield 28, 3) := by decide +kernel
theorem dX5_changeSetting_40 : decode cX5_changeSetting 40 = .ok (.iload_n 1, 1) := by decide +kernel
theorem dX5_changeSetting_41 : decode cX5_changeSetting 41 = .ok (.iload_n 2, 1) := by decide +kernel
theorem dX5_changeSetting_42 : decode cX5_changeSetting 42 = .ok (.iastore, 1) := by decide +kernel
theorem dX5_changeSetting_43 : decode cX5_changeSetting 43 = .ok (.iload_n 3, 1) := by decide +kernel
theorem dX5_changeSetting_44 : decode cX5_changeSetting 44 = .ok (.ireturn, 1) := by decide +kernel
theorem dX5_hasCopy_0 : decode cX5_hasCopy 0 = .ok (.aload_n 0, 1) := by decide +kernel
theorem dX5_hasCopy_1 : decode cX5_hasCopy 1 = .ok (.getfield 24, 3) := by decide +kernel
theorem dX5_hasCopy_4 : decode cX5_hasCopy 4 = .ok (.getfield 59, 3) := by decide +kernel
theorem dX5_hasCopy_7 : decode cX5_hasCopy 7 = .ok (.ifCond .eq 7, 3) := by decide +kernel
theorem dX5_hasCopy_10 : decode cX5_hasCopy 10 = .ok (.iconst 1, 1) := by decide +kernel
theorem dX5_hasCopy_11 : decode cX5_hasCopy 11 = .ok (.goto 4, 3) := by decide +kernel
theorem dX5_hasCopy_14 : decode cX5_hasCopy 14 = .ok (.iconst 0, 1) := by decide +kernel
theorem dX5_hasCopy_15 : decode cX5_hasCopy 15 = .ok (.ireturn, 1) := by decide +kernel
set_option maxRecDepth 20000 in
theorem ggX5_rowsOf_X5_hasCopy : GoodIn wsX5_rowsOf wsX5_hasCopy := goodIn_r _ [9, 2, 10, 11, 12, 13, 14, 15, 16, 17, 18, 19, 20, 21, 22] (by rfl) (by decide +kernel)
set_option maxRecDepth 20000 in
theorem gX5_rowsOf_X5_hasCopy : GoodIn wsX5_rowsOf (wsV RX5 71 RX5 yX5_hasCopy wsX5_hasCopy) := goodIn_app (goodIn_r _ [5, 6, 7, 8] (by rfl) (by decide +kernel)) ggX5_rowsOf_X5_hasCopy
theorem dX5_rowsOf_0 : decode cX5_rowsOf 0 = .ok (.iload_n 1, 1) := by decide +kernel
theorem dX5_rowsOf_1 : decode cX5_rowsOf 1 = .ok (.lookupswitch 51 #[(0, 27), (1, 32)], 27) := by decide +kernel
theorem dX5_rowsOf_28 : decode cX5_rowsOf 28 = .ok (.aload_n 0, 1) := by decide +kernel
theorem dX5_rowsOf_29 : decode cX5_rowsOf 29 = .ok (.getfield 12, 3) := by decide +kernel
theorem dX5_rowsOf_32 : decode cX5_rowsOf 32 = .ok (.areturn, 1) := by decide +kernel
theorem dX5_rowsOf_33 : decode cX5_rowsOf 33 = .ok (.aload_n 0, 1) := by decide +kernel
theorem dX5_rowsOf_34 : decode cX5_rowsOf 34 = .ok (.invokevirtual 71, 3) := by decide +kernel
theorem dX5_rowsOf_37 : decode cX5_rowsOf 37 = .ok (.ifCond .eq 13, 3) := by decide +kernel
theorem dX5_rowsOf_40 : decode cX5_rowsOf 40 = .ok (.aload_n 0, 1) := by decide +kernel
theorem dX5_rowsOf_41 : decode cX5_rowsOf 41 = .ok (.getfield 24, 3) := by decide +kernel
theorem dX5_rowsOf_44 : decode cX5_rowsOf 44 = .ok (.getfield 129, 3) := by decide +kernel
theorem dX5_rowsOf_47 : decode cX5_rowsOf 47 = .ok (.goto 4, 3) := by decide +kernel
theorem dX5_rowsOf_50 : decode cX5_rowsOf 50 = .ok (.aconst_null, 1) := by decide +kernel
theorem dX5_rowsOf_51 : decode cX5_rowsOf 51 = .ok (.areturn, 1) := by decide +kernel
theorem dX5_rowsOf_52 : decode cX5_rowsOf 52 = .ok (.aload_n 0, 1) := by decide +kernel
theorem dX5_rowsOf_53 : decode cX5_rowsOf 53 = .ok (.getfield 39, 3) := by decide +kernel
theorem dX5_rowsOf_56 : decode cX5_rowsOf 56 = .ok (.ifCond .eq 10, 3) := by decide +kernel
theorem dX5_rowsOf_59 : decode cX5_rowsOf 59 = .ok (.aload_n 0, 1) := by decide +kernel
theorem dX5_rowsOf_60 : decode cX5_rowsOf 60 = .ok (.getfield 18, 3) := by decide +kernel
theorem dX5_rowsOf_63 : decode cX5_rowsOf 63 = .ok (.goto 4, 3) := by decide +kernel
theorem dX5_rowsOf_66 : decode cX5_rowsOf 66 = .ok (.aconst_null, 1) := by decide +kernel
theorem dX5_rowsOf_67 : decode cX5_rowsOf 67 = .ok (.areturn, 1) := by decide +kernel
set_option maxRecDepth 20000 in
theorem ggX5_differsAt_X3_at : GoodIn wsX5_differsAt wsX3_at := goodIn_r _ [7, 8, 25] (by rfl) (by decide +kernel)
set_option maxRecDepth 20000 in
theorem gX5_differsAt_X3_at : GoodIn wsX5_differsAt (wsV RX5 67 RX3 yX3_at wsX3_at) := goodIn_app (goodIn_r _ [3, 4, 5, 6] (by rfl) (by decide +kernel)) ggX5_differsAt_X3_at
set_option maxRecDepth 20000 in
theorem ggX5_differsAt_X6_changedValue : GoodIn wsX5_differsAt wsX6_changedValue := goodIn_r _ [11] (by rfl) (by decide +kernel)
set_option maxRecDepth 20000 in
theorem gX5_differsAt_X6_changedValue_n138 : GoodIn wsX5_differsAt (wsX6_changedValue) := ggX5_differsAt_X6_changedValue
theorem dX5_differsAt_0 : decode cX5_differsAt 0 = .ok (.aload_n 0, 1) := by decide +kernel
theorem dX5_differsAt_1 : decode cX5_differsAt 1 = .ok (.getfield 24, 3) := by decide +kernel
theorem dX5_differsAt_4 : decode cX5_differsAt 4 = .ok (.getfield 129, 3) := by decide +kernel
theorem dX5_differsAt_7 : decode cX5_differsAt 7 = .ok (.iload_n 1, 1) := by decide +kernel
theorem dX5_differsAt_8 : decode cX5_differsAt 8 = .ok (.invokevirtual 67, 3) := by decide +kernel
theorem dX5_differsAt_11 : decode cX5_differsAt 11 = .ok (.aload_n 0, 1) := by decide +kernel
theorem dX5_differsAt_12 : decode cX5_differsAt 12 = .ok (.getfield 24, 3) := by decide +kernel
theorem dX5_differsAt_15 : decode cX5_differsAt 15 = .ok (.getfield 132, 3) := by decide +kernel
theorem dX5_differsAt_18 : decode cX5_differsAt 18 = .ok (.iload_n 1, 1) := by decide +kernel
theorem dX5_differsAt_19 : decode cX5_differsAt 19 = .ok (.aload_n 0, 1) := by decide +kernel
theorem dX5_differsAt_20 : decode cX5_differsAt 20 = .ok (.getfield 12, 3) := by decide +kernel
theorem dX5_differsAt_23 : decode cX5_differsAt 23 = .ok (.iload_n 1, 1) := by decide +kernel
theorem dX5_differsAt_24 : decode cX5_differsAt 24 = .ok (.invokevirtual 67, 3) := by decide +kernel
theorem dX5_differsAt_27 : decode cX5_differsAt 27 = .ok (.invokestatic 138, 3) := by decide +kernel
theorem dX5_differsAt_30 : decode cX5_differsAt 30 = .ok (.if_icmp .eq 7, 3) := by decide +kernel
theorem dX5_differsAt_33 : decode cX5_differsAt 33 = .ok (.iconst 1, 1) := by decide +kernel
theorem dX5_differsAt_34 : decode cX5_differsAt 34 = .ok (.goto 4, 3) := by decide +kernel
theorem dX5_differsAt_37 : decode cX5_differsAt 37 = .ok (.iconst 0, 1) := by decide +kernel
theorem dX5_differsAt_38 : decode cX5_differsAt 38 = .ok (.ireturn, 1) := by decide +kernel
theorem dX5_canBecomeReady_0 : decode cX5_canBecomeReady 0 = .ok (.aload_n 0, 1) := by decide +kernel
theorem dX5_canBecomeReady_1 : decode cX5_canBecomeReady 1 = .ok (.getfield 24, 3) := by decide +kernel
theorem dX5_canBecomeReady_4 : decode cX5_canBecomeReady 4 = .ok (.getfield 59, 3) := by decide +kernel
theorem dX5_canBecomeReady_7 : decode cX5_canBecomeReady 7 = .ok (.iconst 1, 1) := by decide +kernel
theorem dX5_canBecomeReady_8 : decode cX5_canBecomeReady 8 = .ok (.if_icmp .eq 14, 3) := by decide +kernel
theorem dX5_canBecomeReady_11 : decode cX5_canBecomeReady 11 = .ok (.aload_n 0, 1) := by decide +kernel
theorem dX5_canBecomeReady_12 : decode cX5_canBecomeReady 12 = .ok (.getfield 24, 3) := by decide +kernel
theorem dX5_canBecomeReady_15 : decode cX5_canBecomeReady 15 = .ok (.getfield 59, 3) := by decide +kernel
theorem dX5_canBecomeReady_18 : decode cX5_canBecomeReady 18 = .ok (.iconst 2, 1) := by decide +kernel
theorem dX5_canBecomeReady_19 : decode cX5_canBecomeReady 19 = .ok (.if_icmp .ne 7, 3) := by decide +kernel
theorem dX5_canBecomeReady_22 : decode cX5_canBecomeReady 22 = .ok (.iconst 1, 1) := by decide +kernel
theorem dX5_canBecomeReady_23 : decode cX5_canBecomeReady 23 = .ok (.goto 4, 3) := by decide +kernel
theorem dX5_canBecomeReady_26 : decode cX5_canBecomeReady 26 = .ok (.iconst 0, 1) := by decide +kernel
theorem dX5_canBecomeReady_27 : decode cX5_canBecomeReady 27 = .ok (.ireturn, 1) := by decide +kernel
set_option maxRecDepth 20000 in
theorem ggX5_ticksUntilReady_X5_makeTick : GoodIn wsX5_ticksUntilReady wsX5_makeTick := goodIn_r _ [6, 7, 1, 8, 9, 10, 5, 11, 12, 13, 14, 15, 16, 17, 18, 19, 20, 21, 22, 23, 24, 25, 26, 27, 28, 29, 30, 31, 32, 33, 34, 35, 36, 37, 38, 39, 40, 41, 42, 43, 44, 45, 46, 47, 48, 49, 50, 51, 52, 53, 54, 55, 56, 57, 58, 59, 60, 61, 62, 63, 64, 65, 66, 67, 68, 69, 70, 71, 72, 73, 74, 75, 76, 77, 78, 79, 80, 81, 82, 83, 84, 85, 86, 87] (by rfl) (by decide +kernel)
set_option maxRecDepth 20000 in
theorem gX5_ticksUntilReady_X5_makeTick : GoodIn wsX5_ticksUntilReady (wsV RX5 108 RX5 yX5_makeTick wsX5_makeTick) := goodIn_app (goodIn_r _ [2, 3, 4, 5] (by rfl) (by decide +kernel)) ggX5_ticksUntilReady_X5_makeTick
theorem dX5_ticksUntilReady_0 : decode cX5_ticksUntilReady 0 = .ok (.iconst 0, 1) := by decide +kernel
theorem dX5_ticksUntilReady_1 : decode cX5_ticksUntilReady 1 = .ok (.istore_n 2, 1) := by decide +kernel
theorem dX5_ticksUntilReady_2 : decode cX5_ticksUntilReady 2 = .ok (.iload_n 2, 1) := by decide +kernel
theorem dX5_ticksUntilReady_3 : decode cX5_ticksUntilReady 3 = .ok (.iload_n 1, 1) := by decide +kernel
theorem dX5_ticksUntilReady_4 : decode cX5_ticksUntilReady 4 = .ok (.if_icmp .gt 39, 3) := by decide +kernel
theorem dX5_ticksUntilReady_7 : decode cX5_ticksUntilReady 7 = .ok (.aload_n 0, 1) := by decide +kernel
theorem dX5_ticksUntilReady_8 : decode cX5_ticksUntilReady 8 = .ok (.getfield 24, 3) := by decide +kernel
theorem dX5_ticksUntilReady_11 : decode cX5_ticksUntilReady 11 = .ok (.getfield 59, 3) := by decide +kernel
theorem dX5_ticksUntilReady_14 : decode cX5_ticksUntilReady 14 = .ok (.iconst 2, 1) := by decide +kernel
theorem dX5_ticksUntilReady_15 : decode cX5_ticksUntilReady 15 = .ok (.if_icmp .ne 18, 3) := by decide +kernel
theorem dX5_ticksUntilReady_18 : decode cX5_ticksUntilReady 18 = .ok (.aload_n 0, 1) := by decide +kernel
theorem dX5_ticksUntilReady_19 : decode cX5_ticksUntilReady 19 = .ok (.getfield 24, 3) := by decide +kernel
theorem dX5_ticksUntilReady_22 : decode cX5_ticksUntilReady 22 = .ok (.getfield 75, 3) := by decide +kernel
theorem dX5_ticksUntilReady_25 : decode cX5_ticksUntilReady 25 = .ok (.getfield 123, 3) := by decide +kernel
theorem dX5_ticksUntilReady_28 : decode cX5_ticksUntilReady 28 = .ok (.ifCond .ne 5, 3) := by decide +kernel
theorem dX5_ticksUntilReady_31 : decode cX5_ticksUntilReady 31 = .ok (.iload_n 2, 1) := by decide +kernel
theorem dX5_ticksUntilReady_32 : decode cX5_ticksUntilReady 32 = .ok (.ireturn, 1) := by decide +kernel
theorem dX5_ticksUntilReady_33 : decode cX5_ticksUntilReady 33 = .ok (.aload_n 0, 1) := by decide +kernel
theorem dX5_ticksUntilReady_34 : decode cX5_ticksUntilReady 34 = .ok (.invokevirtual 108, 3) := by decide +kernel
theorem dX5_ticksUntilReady_37 : decode cX5_ticksUntilReady 37 = .ok (.iinc 2 1, 3) := by decide +kernel
theorem dX5_ticksUntilReady_40 : decode cX5_ticksUntilReady 40 = .ok (.goto (-38), 3) := by decide +kernel
theorem dX5_ticksUntilReady_43 : decode cX5_ticksUntilReady 43 = .ok (.bipush (-5), 2) := by decide +kernel
theorem dX5_ticksUntilReady_45 : decode cX5_ticksUntilReady 45 = .ok (.ireturn, 1) := by decide +kernel
set_option maxRecDepth 20000 in
theorem ggX6_init_X5_init : GoodIn wsX6_init wsX5_init := goodIn_r _ [19, 20, 2, 3, 21, 22, 23, 24, 25, 26, 27, 28, 29, 30, 31, 32, 33, 34, 35, 36, 37, 38, 39, 40, 41, 42, 43, 44, 45, 46, 47, 48, 49, 50, 51, 52, 53, 54, 55, 56, 57, 90, 68, 69, 70, 71, 72, 73, 91, 92, 93, 94, 95, 96, 97, 98, 99, 100, 101] (by rfl) (by decide +kernel)
set_option maxRecDepth 20000 in
theorem gX6_init_X5_init_n9 : GoodIn wsX6_init (wsX5_init) := ggX6_init_X5_init
set_option maxRecDepth 20000 in
theorem ggX6_init_X1_init : GoodIn wsX6_init wsX1_init := goodIn_r _ [60, 61, 2, 3, 62, 63, 5, 6, 18, 19, 20, 21, 22, 23, 24, 25, 26, 27, 28, 29, 30, 31, 32, 33, 34, 35, 36, 37, 38, 39, 40, 41, 42, 43, 44, 45, 46, 47, 48, 49, 50, 51, 52, 53, 54, 55, 56, 57, 80, 81, 82, 68, 69, 70, 71, 72, 73, 90, 91, 92, 93, 94, 95, 96, 97, 98, 99, 100, 101] (by rfl) (by decide +kernel)
set_option maxRecDepth 20000 in
theorem gX6_init_X1_init : GoodIn wsX6_init (wsX1_init) := ggX6_init_X1_init
set_option maxRecDepth 20000 in
theorem ggX6_init_X4_init : GoodIn wsX6_init wsX4_init := goodIn_r _ [65, 66, 2, 3, 30, 67, 83, 84, 85, 86, 87, 88, 89] (by rfl) (by decide +kernel)
set_option maxRecDepth 20000 in
theorem gX6_init_X4_init_n31 : GoodIn wsX6_init (wsX4_init) := ggX6_init_X4_init
theorem dX6_init_0 : decode cX6_init 0 = .ok (.aload_n 0, 1) := by decide +kernel
theorem dX6_init_1 : decode cX6_init 1 = .ok (.invokespecial 1, 3) := by decide +kernel
theorem dX6_init_4 : decode cX6_init 4 = .ok (.aload_n 0, 1) := by decide +kernel
theorem dX6_init_5 : decode cX6_init 5 = .ok (.new 7, 3) := by decide +kernel
theorem dX6_init_8 : decode cX6_init 8 = .ok (.dup, 1) := by decide +kernel
theorem dX6_init_9 : decode cX6_init 9 = .ok (.invokespecial 9, 3) := by decide +kernel
theorem dX6_init_12 : decode cX6_init 12 = .ok (.putfield 10, 3) := by decide +kernel
theorem dX6_init_15 : decode cX6_init 15 = .ok (.aload_n 0, 1) := by decide +kernel
theorem dX6_init_16 : decode cX6_init 16 = .ok (.new 7, 3) := by decide +kernel
theorem dX6_init_19 : decode cX6_init 19 = .ok (.dup, 1) := by decide +kernel
theorem dX6_init_20 : decode cX6_init 20 = .ok (.invokespecial 9, 3) := by decide +kernel
theorem dX6_init_23 : decode cX6_init 23 = .ok (.putfield 16, 3) := by decide +kernel
theorem dX6_init_26 : decode cX6_init 26 = .ok (.aload_n 0, 1) := by decide +kernel
theorem dX6_init_27 : decode cX6_init 27 = .ok (.new 7, 3) := by decide +kernel
theorem dX6_init_30 : decode cX6_init 30 = .ok (.dup, 1) := by decide +kernel
theorem dX6_init_31 : decode cX6_init 31 = .ok (.invokespecial 9, 3) := by decide +kernel
theorem dX6_init_34 : decode cX6_init 34 = .ok (.putfield 19, 3) := by decide +kernel
theorem dX6_init_37 : decode cX6_init 37 = .ok (.aload_n 0, 1) := by decide +kernel
theorem dX6_init_38 : decode cX6_init 38 = .ok (.new 22, 3) := by decide +kernel
theorem dX6_init_41 : decode cX6_init 41 = .ok (.dup, 1) := by decide +kernel
theorem dX6_init_42 : decode cX6_init 42 = .ok (.invokespecial 24, 3) := by decide +kernel
theorem dX6_init_45 : decode cX6_init 45 = .ok (.putfield 25, 3) := by decide +kernel
theorem dX6_init_48 : decode cX6_init 48 = .ok (.aload_n 0, 1) := by decide +kernel
theorem dX6_init_49 : decode cX6_init 49 = .ok (.new 29, 3) := by decide +kernel
theorem dX6_init_52 : decode cX6_init 52 = .ok (.dup, 1) := by decide +kernel
theorem dX6_init_53 : decode cX6_init 53 = .ok (.invokespecial 31, 3) := by decide +kernel
theorem dX6_init_56 : decode cX6_init 56 = .ok (.putfield 32, 3) := by decide +kernel
theorem dX6_init_59 : decode cX6_init 59 = .ok (.return_, 1) := by decide +kernel
set_option maxRecDepth 20000 in
theorem ggX6_put_X1_prepare : GoodIn wsX6_put wsX1_prepare := goodIn_r _ [7, 8, 9, 10, 11, 12, 6, 13, 14, 15, 16, 17, 18, 19, 20, 21, 22, 23, 24, 25, 26, 27, 28, 29, 30, 31, 32, 33, 34, 35, 36, 37, 38, 39, 40, 41, 42, 43, 44, 45, 46, 47, 48, 49, 50, 51, 52, 53, 54, 55, 56, 57, 58, 59, 117, 118, 119, 120, 121, 122, 123, 124, 125, 126, 127, 128, 129, 130, 131, 132, 133, 134, 135, 136, 137] (by rfl) (by decide +kernel)
set_option maxRecDepth 20000 in
theorem gX6_put_X1_prepare : GoodIn wsX6_put (wsV RX6 36 RX1 yX1_prepare wsX1_prepare) := goodIn_app (goodIn_r _ [3, 4, 5, 6] (by rfl) (by decide +kernel)) ggX6_put_X1_prepare
set_option maxRecDepth 20000 in
theorem ggX6_put_X5_putRow : GoodIn wsX6_put wsX5_putRow := goodIn_r _ [63, 23, 64, 65, 66, 67, 68, 69, 70, 71, 72, 73, 74, 18, 75, 24, 20, 76, 77, 78, 79, 80, 81, 82, 53, 83, 59, 55, 57, 84, 85, 86, 87, 58, 88, 89, 90, 91, 29, 92, 93, 94, 33, 95, 35, 96, 97, 98, 99, 120, 121, 122, 123, 124, 125, 127, 128, 129, 130, 131, 132, 133, 134, 135, 136, 137, 126] (by rfl) (by decide +kernel)
set_option maxRecDepth 20000 in
theorem gX6_put_X5_putRow : GoodIn wsX6_put (wsV RX6 40 RX5 yX5_putRow wsX5_putRow) := goodIn_app (goodIn_r _ [60, 61, 62, 18] (by rfl) (by decide +kernel)) ggX6_put_X5_putRow
set_option maxRecDepth 20000 in
theorem ggX6_put_X6_recorded : GoodIn wsX6_put wsX6_recorded := goodIn_r _ [103, 1, 104, 105, 65, 106, 107, 108, 109, 6, 110, 9, 14, 10, 11, 12, 13, 111, 112, 113, 114, 115, 116, 117, 118, 119] (by rfl) (by decide +kernel)
set_option maxRecDepth 20000 in
theorem gX6_put_X6_recorded : GoodIn wsX6_put (wsV RX6 44 RX6 yX6_recorded wsX6_recorded) := goodIn_app (goodIn_r _ [100, 101, 102, 65] (by rfl) (by decide +kernel)) ggX6_put_X6_recorded
theorem dX6_put_0 : decode cX6_put 0 = .ok (.aload_n 0, 1) := by decide +kernel
theorem dX6_put_1 : decode cX6_put 1 = .ok (.getfield 25, 3) := by decide +kernel
theorem dX6_put_4 : decode cX6_put 4 = .ok (.aload_n 0, 1) := by decide +kernel
theorem dX6_put_5 : decode cX6_put 5 = .ok (.getfield 10, 3) := by decide +kernel
theorem dX6_put_8 : decode cX6_put 8 = .ok (.invokevirtual 36, 3) := by decide +kernel
theorem dX6_put_11 : decode cX6_put 11 = .ok (.aload_n 0, 1) := by decide +kernel
theorem dX6_put_12 : decode cX6_put 12 = .ok (.aload_n 0, 1) := by decide +kernel
theorem dX6_put_13 : decode cX6_put 13 = .ok (.getfield 10, 3) := by decide +kernel
theorem dX6_put_16 : decode cX6_put 16 = .ok (.iload_n 1, 1) := by decide +kernel
theorem dX6_put_17 : decode cX6_put 17 = .ok (.iload_n 2, 1) := by decide +kernel
theorem dX6_put_18 : decode cX6_put 18 = .ok (.invokevirtual 40, 3) := by decide +kernel
theorem dX6_put_21 : decode cX6_put 21 = .ok (.invokevirtual 44, 3) := by decide +kernel
theorem dX6_put_24 : decode cX6_put 24 = .ok (.ireturn, 1) := by decide +kernel
set_option maxRecDepth 20000 in
theorem ggX6_erase_X1_prepare : GoodIn wsX6_erase wsX1_prepare := goodIn_r _ [7, 8, 9, 10, 11, 12, 6, 13, 14, 15, 16, 17, 18, 19, 20, 21, 22, 23, 24, 25, 26, 27, 28, 29, 30, 31, 32, 33, 34, 35, 36, 37, 38, 39, 40, 41, 42, 43, 44, 45, 46, 47, 48, 49, 50, 51, 52, 53, 54, 55, 56, 57, 58, 59, 115, 116, 117, 118, 119, 120, 121, 122, 123, 124, 125, 126, 127, 128, 129, 130, 131, 132, 133, 134, 135] (by rfl) (by decide +kernel)
set_option maxRecDepth 20000 in
theorem gX6_erase_X1_prepare : GoodIn wsX6_erase (wsV RX6 36 RX1 yX1_prepare wsX1_prepare) := goodIn_app (goodIn_r _ [3, 4, 5, 6] (by rfl) (by decide +kernel)) ggX6_erase_X1_prepare
set_option maxRecDepth 20000 in
theorem ggX6_erase_X5_eraseRow : GoodIn wsX6_erase wsX5_eraseRow := goodIn_r _ [63, 23, 20, 64, 65, 66, 67, 68, 69, 70, 71, 72, 33, 73, 35, 74, 75, 76, 18, 77, 24, 78, 79, 80, 81, 82, 83, 84, 53, 85, 59, 55, 57, 86, 87, 88, 89, 58, 90, 91, 92, 93, 29, 94, 95, 96, 97, 118, 119, 120, 121, 122, 123, 125, 126, 127, 128, 129, 130, 131, 124, 132, 133, 134, 135] (by rfl) (by decide +kernel)
set_option maxRecDepth 20000 in
theorem gX6_erase_X5_eraseRow : GoodIn wsX6_erase (wsV RX6 48 RX5 yX5_eraseRow wsX5_eraseRow) := goodIn_app (goodIn_r _ [60, 61, 62, 18] (by rfl) (by decide +kernel)) ggX6_erase_X5_eraseRow
set_option maxRecDepth 20000 in
theorem ggX6_erase_X6_recorded : GoodIn wsX6_erase wsX6_recorded := goodIn_r _ [101, 1, 102, 103, 65, 104, 105, 106, 107, 6, 108, 9, 14, 10, 11, 12, 13, 109, 110, 111, 112, 113, 114, 115, 116, 117] (by rfl) (by decide +kernel)
set_option maxRecDepth 20000 in
theorem gX6_erase_X6_recorded : GoodIn wsX6_erase (wsV RX6 44 RX6 yX6_recorded wsX6_recorded) := goodIn_app (goodIn_r _ [98, 99, 100, 65] (by rfl) (by decide +kernel)) ggX6_erase_X6_recorded
theorem dX6_erase_0 : decode cX6_erase 0 = .ok (.aload_n 0, 1) := by decide +kernel
theorem dX6_erase_1 : decode cX6_erase 1 = .ok (.getfield 25, 3) := by decide +kernel
theorem dX6_erase_4 : decode cX6_erase 4 = .ok (.aload_n 0, 1) := by decide +kernel
theorem dX6_erase_5 : decode cX6_erase 5 = .ok (.getfield 10, 3) := by decide +kernel
theorem dX6_erase_8 : decode cX6_erase 8 = .ok (.invokevirtual 36, 3) := by decide +kernel
theorem dX6_erase_11 : decode cX6_erase 11 = .ok (.aload_n 0, 1) := by decide +kernel
theorem dX6_erase_12 : decode cX6_erase 12 = .ok (.aload_n 0, 1) := by decide +kernel
theorem dX6_erase_13 : decode cX6_erase 13 = .ok (.getfield 10, 3) := by decide +kernel
theorem dX6_erase_16 : decode cX6_erase 16 = .ok (.iload_n 1, 1) := by decide +kernel
theorem dX6_erase_17 : decode cX6_erase 17 = .ok (.invokevirtual 48, 3) := by decide +kernel
theorem dX6_erase_20 : decode cX6_erase 20 = .ok (.invokevirtual 44, 3) := by decide +kernel
theorem dX6_erase_23 : decode cX6_erase 23 = .ok (.ireturn, 1) := by decide +kernel
set_option maxRecDepth 20000 in
theorem ggX6_begin_X1_prepare : GoodIn wsX6_begin wsX1_prepare := goodIn_r _ [7, 8, 9, 10, 11, 12, 6, 13, 14, 15, 16, 17, 18, 19, 20, 21, 22, 23, 24, 25, 26, 27, 28, 29, 30, 31, 32, 33, 34, 35, 36, 37, 38, 39, 40, 41, 42, 43, 44, 45, 46, 47, 48, 49, 50, 51, 52, 53, 54, 55, 56, 57, 58, 59, 113, 114, 115, 116, 117, 118, 119, 120, 121, 122, 123, 124, 125, 126, 127, 128, 129, 130, 131, 132, 133] (by rfl) (by decide +kernel)
set_option maxRecDepth 20000 in
theorem gX6_begin_X1_prepare : GoodIn wsX6_begin (wsV RX6 36 RX1 yX1_prepare wsX1_prepare) := goodIn_app (goodIn_r _ [3, 4, 5, 6] (by rfl) (by decide +kernel)) ggX6_begin_X1_prepare
set_option maxRecDepth 20000 in
theorem ggX6_begin_X5_beginCopy : GoodIn wsX6_begin wsX5_beginCopy := goodIn_r _ [63, 23, 29, 20, 64, 65, 66, 67, 68, 69, 70, 71, 72, 73, 74, 18, 75, 76, 77, 78, 40, 79, 42, 43, 44, 45, 46, 47, 80, 81, 82, 33, 83, 35, 84, 85, 86, 87, 88, 89, 90, 53, 91, 58, 59, 92, 93, 94, 95, 116, 117, 118, 119, 120, 121, 123, 124, 125, 126, 127, 128, 129, 122, 130, 131, 132, 133] (by rfl) (by decide +kernel)
set_option maxRecDepth 20000 in
theorem gX6_begin_X5_beginCopy : GoodIn wsX6_begin (wsV RX6 51 RX5 yX5_beginCopy wsX5_beginCopy) := goodIn_app (goodIn_r _ [60, 61, 62, 18] (by rfl) (by decide +kernel)) ggX6_begin_X5_beginCopy
set_option maxRecDepth 20000 in
theorem ggX6_begin_X6_recorded : GoodIn wsX6_begin wsX6_recorded := goodIn_r _ [99, 1, 100, 101, 65, 102, 103, 104, 105, 6, 106, 9, 14, 10, 11, 12, 13, 107, 108, 109, 110, 111, 112, 113, 114, 115] (by rfl) (by decide +kernel)
set_option maxRecDepth 20000 in
theorem gX6_begin_X6_recorded : GoodIn wsX6_begin (wsV RX6 44 RX6 yX6_recorded wsX6_recorded) := goodIn_app (goodIn_r _ [96, 97, 98, 65] (by rfl) (by decide +kernel)) ggX6_begin_X6_recorded
theorem dX6_begin_0 : decode cX6_begin 0 = .ok (.aload_n 0, 1) := by decide +kernel
theorem dX6_begin_1 : decode cX6_begin 1 = .ok (.getfield 25, 3) := by decide +kernel
theorem dX6_begin_4 : decode cX6_begin 4 = .ok (.aload_n 0, 1) := by decide +kernel
theorem dX6_begin_5 : decode cX6_begin 5 = .ok (.getfield 10, 3) := by decide +kernel
theorem dX6_begin_8 : decode cX6_begin 8 = .ok (.invokevirtual 36, 3) := by decide +kernel
theorem dX6_begin_11 : decode cX6_begin 11 = .ok (.aload_n 0, 1) := by decide +kernel
theorem dX6_begin_12 : decode cX6_begin 12 = .ok (.aload_n 0, 1) := by decide +kernel
theorem dX6_begin_13 : decode cX6_begin 13 = .ok (.getfield 10, 3) := by decide +kernel
theorem dX6_begin_16 : decode cX6_begin 16 = .ok (.iload_n 1, 1) := by decide +kernel
theorem dX6_begin_17 : decode cX6_begin 17 = .ok (.iload_n 2, 1) := by decide +kernel
theorem dX6_begin_18 : decode cX6_begin 18 = .ok (.invokevirtual 51, 3) := by decide +kernel
theorem dX6_begin_21 : decode cX6_begin 21 = .ok (.invokevirtual 44, 3) := by decide +kernel
theorem dX6_begin_24 : decode cX6_begin 24 = .ok (.ireturn, 1) := by decide +kernel
set_option maxRecDepth 20000 in
theorem ggX6_tick_X1_prepare : GoodIn wsX6_tick wsX1_prepare := goodIn_r _ [7, 8, 9, 10, 11, 12, 6, 13, 14, 15, 16, 17, 18, 19, 20, 21, 22, 23, 24, 25, 26, 27, 28, 29, 30, 31, 32, 33, 34, 35, 36, 37, 38, 39, 40, 41, 42, 43, 44, 45, 46, 47, 48, 49, 50, 51, 52, 53, 54, 55, 56, 57, 58, 59, 139, 140, 141, 142, 143, 144, 145, 146, 147, 148, 149, 150, 151, 152, 153, 154, 155, 156, 157, 158, 159] (by rfl) (by decide +kernel)
set_option maxRecDepth 20000 in
theorem gX6_tick_X1_prepare : GoodIn wsX6_tick (wsV RX6 36 RX1 yX1_prepare wsX1_prepare) := goodIn_app (goodIn_r _ [3, 4, 5, 6] (by rfl) (by decide +kernel)) ggX6_tick_X1_prepare
set_option maxRecDepth 20000 in
theorem ggX6_tick_X5_makeTicks : GoodIn wsX6_tick wsX5_makeTicks := goodIn_r _ [63, 23, 64, 65, 66, 67, 68, 69, 70, 71, 72, 18, 73, 29, 74, 75, 76, 77, 78, 79, 80, 81, 24, 82, 83, 84, 85, 86, 87, 88, 53, 89, 59, 55, 90, 91, 92, 93, 58, 94, 95, 96, 97, 57, 98, 99, 100, 101, 102, 33, 103, 35, 104, 105, 106, 107, 108, 109, 110, 111, 20, 112, 113, 114, 115, 116, 117, 118, 40, 119, 47, 45, 42, 120, 121, 142, 143, 144, 145, 146, 147, 149, 150, 151, 152, 153, 154, 155, 156, 157, 158, 159, 148] (by rfl) (by decide +kernel)
set_option maxRecDepth 20000 in
theorem gX6_tick_X5_makeTicks : GoodIn wsX6_tick (wsV RX6 54 RX5 yX5_makeTicks wsX5_makeTicks) := goodIn_app (goodIn_r _ [60, 61, 62, 18] (by rfl) (by decide +kernel)) ggX6_tick_X5_makeTicks
set_option maxRecDepth 20000 in
theorem ggX6_tick_X6_recorded : GoodIn wsX6_tick wsX6_recorded := goodIn_r _ [125, 1, 126, 127, 65, 128, 129, 130, 131, 6, 132, 9, 14, 10, 11, 12, 13, 133, 134, 135, 136, 137, 138, 139, 140, 141] (by rfl) (by decide +kernel)
set_option maxRecDepth 20000 in
theorem gX6_tick_X6_recorded : GoodIn wsX6_tick (wsV RX6 44 RX6 yX6_recorded wsX6_recorded) := goodIn_app (goodIn_r _ [122, 123, 124, 65] (by rfl) (by decide +kernel)) ggX6_tick_X6_recorded
theorem dX6_tick_0 : decode cX6_tick 0 = .ok (.aload_n 0, 1) := by decide +kernel
theorem dX6_tick_1 : decode cX6_tick 1 = .ok (.getfield 25, 3) := by decide +kernel
theorem dX6_tick_4 : decode cX6_tick 4 = .ok (.aload_n 0, 1) := by decide +kernel
theorem dX6_tick_5 : decode cX6_tick 5 = .ok (.getfield 10, 3) := by decide +kernel
theorem dX6_tick_8 : decode cX6_tick 8 = .ok (.invokevirtual 36, 3) := by decide +kernel
theorem dX6_tick_11 : decode cX6_tick 11 = .ok (.aload_n 0, 1) := by decide +kernel
theorem dX6_tick_12 : decode cX6_tick 12 = .ok (.aload_n 0, 1) := by decide +kernel
theorem dX6_tick_13 : decode cX6_tick 13 = .ok (.getfield 10, 3) := by decide +kernel
theorem dX6_tick_16 : decode cX6_tick 16 = .ok (.iload_n 1, 1) := by decide +kernel
theorem dX6_tick_17 : decode cX6_tick 17 = .ok (.invokevirtual 54, 3) := by decide +kernel
theorem dX6_tick_20 : decode cX6_tick 20 = .ok (.invokevirtual 44, 3) := by decide +kernel
theorem dX6_tick_23 : decode cX6_tick 23 = .ok (.ireturn, 1) := by decide +kernel
set_option maxRecDepth 20000 in
theorem ggX6_lock_X1_prepare : GoodIn wsX6_lock wsX1_prepare := goodIn_r _ [7, 8, 9, 10, 11, 12, 6, 13, 14, 15, 16, 17, 18, 19, 20, 21, 22, 23, 24, 25, 26, 27, 28, 29, 30, 31, 32, 33, 34, 35, 36, 37, 38, 39, 40, 41, 42, 43, 44, 45, 46, 47, 48, 49, 50, 51, 52, 53, 54, 55, 56, 57, 58, 59, 82, 83, 84, 85, 86, 87, 88, 89, 90, 91, 92, 93, 94, 95, 96, 97, 98, 99, 100, 101, 102] (by rfl) (by decide +kernel)
set_option maxRecDepth 20000 in
theorem gX6_lock_X1_prepare : GoodIn wsX6_lock (wsV RX6 36 RX1 yX1_prepare wsX1_prepare) := goodIn_app (goodIn_r _ [3, 4, 5, 6] (by rfl) (by decide +kernel)) ggX6_lock_X1_prepare
set_option maxRecDepth 20000 in
theorem ggX6_lock_X5_lockLive : GoodIn wsX6_lock wsX5_lockLive := goodIn_r _ [63, 23, 85, 86, 87, 88, 89, 90, 92, 93, 94, 95, 96, 97, 98, 99, 100, 101, 102] (by rfl) (by decide +kernel)
set_option maxRecDepth 20000 in
theorem gX6_lock_X5_lockLive : GoodIn wsX6_lock (wsV RX6 57 RX5 yX5_lockLive wsX5_lockLive) := goodIn_app (goodIn_r _ [60, 61, 62, 18] (by rfl) (by decide +kernel)) ggX6_lock_X5_lockLive
set_option maxRecDepth 20000 in
theorem ggX6_lock_X6_recorded : GoodIn wsX6_lock wsX6_recorded := goodIn_r _ [68, 1, 69, 70, 67, 71, 72, 73, 74, 6, 75, 9, 14, 10, 11, 12, 13, 76, 77, 78, 79, 80, 81, 82, 83, 84] (by rfl) (by decide +kernel)
set_option maxRecDepth 20000 in
theorem gX6_lock_X6_recorded : GoodIn wsX6_lock (wsV RX6 44 RX6 yX6_recorded wsX6_recorded) := goodIn_app (goodIn_r _ [64, 65, 66, 67] (by rfl) (by decide +kernel)) ggX6_lock_X6_recorded
theorem dX6_lock_0 : decode cX6_lock 0 = .ok (.aload_n 0, 1) := by decide +kernel
theorem dX6_lock_1 : decode cX6_lock 1 = .ok (.getfield 25, 3) := by decide +kernel
theorem dX6_lock_4 : decode cX6_lock 4 = .ok (.aload_n 0, 1) := by decide +kernel
theorem dX6_lock_5 : decode cX6_lock 5 = .ok (.getfield 10, 3) := by decide +kernel
theorem dX6_lock_8 : decode cX6_lock 8 = .ok (.invokevirtual 36, 3) := by decide +kernel
theorem dX6_lock_11 : decode cX6_lock 11 = .ok (.aload_n 0, 1) := by decide +kernel
theorem dX6_lock_12 : decode cX6_lock 12 = .ok (.aload_n 0, 1) := by decide +kernel
theorem dX6_lock_13 : decode cX6_lock 13 = .ok (.getfield 10, 3) := by decide +kernel
theorem dX6_lock_16 : decode cX6_lock 16 = .ok (.invokevirtual 57, 3) := by decide +kernel
theorem dX6_lock_19 : decode cX6_lock 19 = .ok (.invokevirtual 44, 3) := by decide +kernel
theorem dX6_lock_22 : decode cX6_lock 22 = .ok (.ireturn, 1) := by decide +kernel
set_option maxRecDepth 20000 in
theorem ggX6_unlock_X1_prepare : GoodIn wsX6_unlock wsX1_prepare := goodIn_r _ [7, 8, 9, 10, 11, 12, 6, 13, 14, 15, 16, 17, 18, 19, 20, 21, 22, 23, 24, 25, 26, 27, 28, 29, 30, 31, 32, 33, 34, 35, 36, 37, 38, 39, 40, 41, 42, 43, 44, 45, 46, 47, 48, 49, 50, 51, 52, 53, 54, 55, 56, 57, 58, 59, 82, 83, 84, 85, 86, 87, 88, 89, 90, 91, 92, 93, 94, 95, 96, 97, 98, 99, 100, 101, 102] (by rfl) (by decide +kernel)
set_option maxRecDepth 20000 in
theorem gX6_unlock_X1_prepare : GoodIn wsX6_unlock (wsV RX6 36 RX1 yX1_prepare wsX1_prepare) := goodIn_app (goodIn_r _ [3, 4, 5, 6] (by rfl) (by decide +kernel)) ggX6_unlock_X1_prepare
set_option maxRecDepth 20000 in
theorem ggX6_unlock_X5_unlockLive : GoodIn wsX6_unlock wsX5_unlockLive := goodIn_r _ [63, 23, 85, 86, 87, 88, 89, 90, 92, 93, 94, 95, 96, 97, 98] (by rfl) (by decide +kernel)
set_option maxRecDepth 20000 in
theorem gX6_unlock_X5_unlockLive : GoodIn wsX6_unlock (wsV RX6 61 RX5 yX5_unlockLive wsX5_unlockLive) := goodIn_app (goodIn_r _ [60, 61, 62, 18] (by rfl) (by decide +kernel)) ggX6_unlock_X5_unlockLive
set_option maxRecDepth 20000 in
theorem ggX6_unlock_X6_recorded : GoodIn wsX6_unlock wsX6_recorded := goodIn_r _ [68, 1, 69, 70, 67, 71, 72, 73, 74, 6, 75, 9, 14, 10, 11, 12, 13, 76, 77, 78, 79, 80, 81, 82, 83, 84] (by rfl) (by decide +kernel)
set_option maxRecDepth 20000 in
theorem gX6_unlock_X6_recorded : GoodIn wsX6_unlock (wsV RX6 44 RX6 yX6_recorded wsX6_recorded) := goodIn_app (goodIn_r _ [64, 65, 66, 67] (by rfl) (by decide +kernel)) ggX6_unlock_X6_recorded
theorem dX6_unlock_0 : decode cX6_unlock 0 = .ok (.aload_n 0, 1) := by decide +kernel
theorem dX6_unlock_1 : decode cX6_unlock 1 = .ok (.getfield 25, 3) := by decide +kernel
theorem dX6_unlock_4 : decode cX6_unlock 4 = .ok (.aload_n 0, 1) := by decide +kernel
theorem dX6_unlock_5 : decode cX6_unlock 5 = .ok (.getfield 10, 3) := by decide +kernel
theorem dX6_unlock_8 : decode cX6_unlock 8 = .ok (.invokevirtual 36, 3) := by decide +kernel
theorem dX6_unlock_11 : decode cX6_unlock 11 = .ok (.aload_n 0, 1) := by decide +kernel
theorem dX6_unlock_12 : decode cX6_unlock 12 = .ok (.aload_n 0, 1) := by decide +kernel
theorem dX6_unlock_13 : decode cX6_unlock 13 = .ok (.getfield 10, 3) := by decide +kernel
theorem dX6_unlock_16 : decode cX6_unlock 16 = .ok (.invokevirtual 61, 3) := by decide +kernel
theorem dX6_unlock_19 : decode cX6_unlock 19 = .ok (.invokevirtual 44, 3) := by decide +kernel
theorem dX6_unlock_22 : decode cX6_unlock 22 = .ok (.ireturn, 1) := by decide +kernel
set_option maxRecDepth 20000 in
theorem ggX6_swap_X1_prepare : GoodIn wsX6_swap wsX1_prepare := goodIn_r _ [7, 8, 9, 10, 11, 12, 6, 13, 14, 15, 16, 17, 18, 19, 20, 21, 22, 23, 24, 25, 26, 27, 28, 29, 30, 31, 32, 33, 34, 35, 36, 37, 38, 39, 40, 41, 42, 43, 44, 45, 46, 47, 48, 49, 50, 51, 52, 53, 54, 55, 56, 57, 58, 59, 86, 87, 88, 89, 90, 91, 92, 93, 94, 95, 96, 97, 98, 99, 100, 101, 102, 103, 104, 105, 106] (by rfl) (by decide +kernel)
set_option maxRecDepth 20000 in
theorem gX6_swap_X1_prepare : GoodIn wsX6_swap (wsV RX6 36 RX1 yX1_prepare wsX1_prepare) := goodIn_app (goodIn_r _ [3, 4, 5, 6] (by rfl) (by decide +kernel)) ggX6_swap_X1_prepare
set_option maxRecDepth 20000 in
theorem ggX6_swap_X5_swapTables : GoodIn wsX6_swap wsX5_swapTables := goodIn_r _ [63, 23, 21, 20, 22, 29, 30, 31, 32, 33, 34, 35, 36, 26, 27, 28, 64, 65, 66, 67, 89, 90, 91, 92, 93, 94, 96, 97, 98, 99, 100, 101, 102, 103, 104, 105, 106, 95] (by rfl) (by decide +kernel)
set_option maxRecDepth 20000 in
theorem gX6_swap_X5_swapTables : GoodIn wsX6_swap (wsV RX6 64 RX5 yX5_swapTables wsX5_swapTables) := goodIn_app (goodIn_r _ [60, 61, 62, 18] (by rfl) (by decide +kernel)) ggX6_swap_X5_swapTables
set_option maxRecDepth 20000 in
theorem ggX6_swap_X6_recorded : GoodIn wsX6_swap wsX6_recorded := goodIn_r _ [72, 1, 73, 74, 71, 75, 76, 77, 78, 6, 79, 9, 14, 10, 11, 12, 13, 80, 81, 82, 83, 84, 85, 86, 87, 88] (by rfl) (by decide +kernel)
set_option maxRecDepth 20000 in
theorem gX6_swap_X6_recorded : GoodIn wsX6_swap (wsV RX6 44 RX6 yX6_recorded wsX6_recorded) := goodIn_app (goodIn_r _ [68, 69, 70, 71] (by rfl) (by decide +kernel)) ggX6_swap_X6_recorded
theorem dX6_swap_0 : decode cX6_swap 0 = .ok (.aload_n 0, 1) := by decide +kernel
theorem dX6_swap_1 : decode cX6_swap 1 = .ok (.getfield 25, 3) := by decide +kernel
theorem dX6_swap_4 : decode cX6_swap 4 = .ok (.aload_n 0, 1) := by decide +kernel
theorem dX6_swap_5 : decode cX6_swap 5 = .ok (.getfield 10, 3) := by decide +kernel
theorem dX6_swap_8 : decode cX6_swap 8 = .ok (.invokevirtual 36, 3) := by decide +kernel
theorem dX6_swap_11 : decode cX6_swap 11 = .ok (.aload_n 0, 1) := by decide +kernel
theorem dX6_swap_12 : decode cX6_swap 12 = .ok (.aload_n 0, 1) := by decide +kernel
theorem dX6_swap_13 : decode cX6_swap 13 = .ok (.getfield 10, 3) := by decide +kernel
theorem dX6_swap_16 : decode cX6_swap 16 = .ok (.invokevirtual 64, 3) := by decide +kernel
theorem dX6_swap_19 : decode cX6_swap 19 = .ok (.invokevirtual 44, 3) := by decide +kernel
theorem dX6_swap_22 : decode cX6_swap 22 = .ok (.ireturn, 1) := by decide +kernel
set_option maxRecDepth 20000 in
theorem ggX6_giveUp_X1_prepare : GoodIn wsX6_giveUp wsX1_prepare := goodIn_r _ [7, 8, 9, 10, 11, 12, 6, 13, 14, 15, 16, 17, 18, 19, 20, 21, 22, 23, 24, 25, 26, 27, 28, 29, 30, 31, 32, 33, 34, 35, 36, 37, 38, 39, 40, 41, 42, 43, 44, 45, 46, 47, 48, 49, 50, 51, 52, 53, 54, 55, 56, 57, 58, 59, 94, 95, 96, 97, 98, 99, 100, 101, 102, 103, 104, 105, 106, 107, 108, 109, 110, 111, 112, 113, 114] (by rfl) (by decide +kernel)
set_option maxRecDepth 20000 in
theorem gX6_giveUp_X1_prepare : GoodIn wsX6_giveUp (wsV RX6 36 RX1 yX1_prepare wsX1_prepare) := goodIn_app (goodIn_r _ [3, 4, 5, 6] (by rfl) (by decide +kernel)) ggX6_giveUp_X1_prepare
set_option maxRecDepth 20000 in
theorem ggX6_giveUp_X5_giveCopyUp : GoodIn wsX6_giveUp wsX5_giveCopyUp := goodIn_r _ [63, 23, 64, 65, 66, 18, 67, 68, 69, 70, 71, 29, 72, 73, 74, 33, 75, 35, 97, 98, 99, 100, 101, 102, 104, 105, 106, 107, 108, 109, 110, 103] (by rfl) (by decide +kernel)
set_option maxRecDepth 20000 in
theorem gX6_giveUp_X5_giveCopyUp : GoodIn wsX6_giveUp (wsV RX6 67 RX5 yX5_giveCopyUp wsX5_giveCopyUp) := goodIn_app (goodIn_r _ [60, 61, 62, 18] (by rfl) (by decide +kernel)) ggX6_giveUp_X5_giveCopyUp
set_option maxRecDepth 20000 in
theorem ggX6_giveUp_X6_recorded : GoodIn wsX6_giveUp wsX6_recorded := goodIn_r _ [80, 1, 81, 82, 79, 83, 84, 85, 86, 6, 87, 9, 14, 10, 11, 12, 13, 88, 89, 90, 91, 92, 93, 94, 95, 96] (by rfl) (by decide +kernel)
set_option maxRecDepth 20000 in
theorem gX6_giveUp_X6_recorded : GoodIn wsX6_giveUp (wsV RX6 44 RX6 yX6_recorded wsX6_recorded) := goodIn_app (goodIn_r _ [76, 77, 78, 79] (by rfl) (by decide +kernel)) ggX6_giveUp_X6_recorded
theorem dX6_giveUp_0 : decode cX6_giveUp 0 = .ok (.aload_n 0, 1) := by decide +kernel
theorem dX6_giveUp_1 : decode cX6_giveUp 1 = .ok (.getfield 25, 3) := by decide +kernel
theorem dX6_giveUp_4 : decode cX6_giveUp 4 = .ok (.aload_n 0, 1) := by decide +kernel
theorem dX6_giveUp_5 : decode cX6_giveUp 5 = .ok (.getfield 10, 3) := by decide +kernel
theorem dX6_giveUp_8 : decode cX6_giveUp 8 = .ok (.invokevirtual 36, 3) := by decide +kernel
theorem dX6_giveUp_11 : decode cX6_giveUp 11 = .ok (.aload_n 0, 1) := by decide +kernel
theorem dX6_giveUp_12 : decode cX6_giveUp 12 = .ok (.aload_n 0, 1) := by decide +kernel
theorem dX6_giveUp_13 : decode cX6_giveUp 13 = .ok (.getfield 10, 3) := by decide +kernel
theorem dX6_giveUp_16 : decode cX6_giveUp 16 = .ok (.invokevirtual 67, 3) := by decide +kernel
theorem dX6_giveUp_19 : decode cX6_giveUp 19 = .ok (.invokevirtual 44, 3) := by decide +kernel
theorem dX6_giveUp_22 : decode cX6_giveUp 22 = .ok (.ireturn, 1) := by decide +kernel
set_option maxRecDepth 20000 in
theorem ggX6_set_X1_prepare : GoodIn wsX6_set wsX1_prepare := goodIn_r _ [7, 8, 9, 10, 11, 12, 6, 13, 14, 15, 16, 17, 18, 19, 20, 21, 22, 23, 24, 25, 26, 27, 28, 29, 30, 31, 32, 33, 34, 35, 36, 37, 38, 39, 40, 41, 42, 43, 44, 45, 46, 47, 48, 49, 50, 51, 52, 53, 54, 55, 56, 57, 58, 59, 87, 88, 89, 90, 91, 92, 93, 94, 95, 96, 97, 98, 99, 100, 101, 102, 103, 104, 105, 106, 107] (by rfl) (by decide +kernel)
set_option maxRecDepth 20000 in
theorem gX6_set_X1_prepare : GoodIn wsX6_set (wsV RX6 36 RX1 yX1_prepare wsX1_prepare) := goodIn_app (goodIn_r _ [3, 4, 5, 6] (by rfl) (by decide +kernel)) ggX6_set_X1_prepare
set_option maxRecDepth 20000 in
theorem ggX6_set_X5_changeSetting : GoodIn wsX6_set wsX5_changeSetting := goodIn_r _ [63, 24, 64, 65, 66, 67, 68, 69, 90, 91, 92, 93, 94, 95] (by rfl) (by decide +kernel)
set_option maxRecDepth 20000 in
theorem gX6_set_X5_changeSetting : GoodIn wsX6_set (wsV RX6 70 RX5 yX5_changeSetting wsX5_changeSetting) := goodIn_app (goodIn_r _ [60, 61, 62, 18] (by rfl) (by decide +kernel)) ggX6_set_X5_changeSetting
set_option maxRecDepth 20000 in
theorem ggX6_set_X6_recorded : GoodIn wsX6_set wsX6_recorded := goodIn_r _ [73, 1, 74, 75, 65, 76, 77, 78, 79, 6, 80, 9, 14, 10, 11, 12, 13, 81, 82, 83, 84, 85, 86, 87, 88, 89] (by rfl) (by decide +kernel)
set_option maxRecDepth 20000 in
theorem gX6_set_X6_recorded : GoodIn wsX6_set (wsV RX6 44 RX6 yX6_recorded wsX6_recorded) := goodIn_app (goodIn_r _ [70, 71, 72, 65] (by rfl) (by decide +kernel)) ggX6_set_X6_recorded
theorem dX6_set_0 : decode cX6_set 0 = .ok (.aload_n 0, 1) := by decide +kernel
theorem dX6_set_1 : decode cX6_set 1 = .ok (.getfield 25, 3) := by decide +kernel
theorem dX6_set_4 : decode cX6_set 4 = .ok (.aload_n 0, 1) := by decide +kernel
theorem dX6_set_5 : decode cX6_set 5 = .ok (.getfield 10, 3) := by decide +kernel
theorem dX6_set_8 : decode cX6_set 8 = .ok (.invokevirtual 36, 3) := by decide +kernel
theorem dX6_set_11 : decode cX6_set 11 = .ok (.aload_n 0, 1) := by decide +kernel
theorem dX6_set_12 : decode cX6_set 12 = .ok (.aload_n 0, 1) := by decide +kernel
theorem dX6_set_13 : decode cX6_set 13 = .ok (.getfield 10, 3) := by decide +kernel
theorem dX6_set_16 : decode cX6_set 16 = .ok (.iload_n 1, 1) := by decide +kernel
theorem dX6_set_17 : decode cX6_set 17 = .ok (.iload_n 2, 1) := by decide +kernel
theorem dX6_set_18 : decode cX6_set 18 = .ok (.invokevirtual 70, 3) := by decide +kernel
theorem dX6_set_21 : decode cX6_set 21 = .ok (.invokevirtual 44, 3) := by decide +kernel
theorem dX6_set_24 : decode cX6_set 24 = .ok (.ireturn, 1) := by decide +kernel
set_option maxRecDepth 20000 in
theorem ggX6_append_X4_appendCharacter : GoodIn wsX6_append wsX4_appendCharacter := goodIn_r _ [6, 7, 8, 9, 10, 11, 18, 19, 20, 21, 22, 23, 24] (by rfl) (by decide +kernel)
set_option maxRecDepth 20000 in
theorem gX6_append_X4_appendCharacter : GoodIn wsX6_append (wsV RX6 73 RX4 yX4_appendCharacter wsX4_appendCharacter) := goodIn_app (goodIn_r _ [2, 3, 4, 5] (by rfl) (by decide +kernel)) ggX6_append_X4_appendCharacter
theorem dX6_append_0 : decode cX6_append 0 = .ok (.aload_n 0, 1) := by decide +kernel
theorem dX6_append_1 : decode cX6_append 1 = .ok (.getfield 32, 3) := by decide +kernel
theorem dX6_append_4 : decode cX6_append 4 = .ok (.iload_n 1, 1) := by decide +kernel
theorem dX6_append_5 : decode cX6_append 5 = .ok (.invokevirtual 73, 3) := by decide +kernel
theorem dX6_append_8 : decode cX6_append 8 = .ok (.ireturn, 1) := by decide +kernel
set_option maxRecDepth 20000 in
theorem ggX6_clearText_X4_empty : GoodIn wsX6_clearText wsX4_empty := goodIn_r _ [6, 7, 14, 15, 16, 17, 18, 19, 20] (by rfl) (by decide +kernel)
set_option maxRecDepth 20000 in
theorem gX6_clearText_X4_empty : GoodIn wsX6_clearText (wsV RX6 76 RX4 yX4_empty wsX4_empty) := goodIn_app (goodIn_r _ [2, 3, 4, 5] (by rfl) (by decide +kernel)) ggX6_clearText_X4_empty
theorem dX6_clearText_0 : decode cX6_clearText 0 = .ok (.aload_n 0, 1) := by decide +kernel
theorem dX6_clearText_1 : decode cX6_clearText 1 = .ok (.getfield 32, 3) := by decide +kernel
theorem dX6_clearText_4 : decode cX6_clearText 4 = .ok (.invokevirtual 76, 3) := by decide +kernel
theorem dX6_clearText_7 : decode cX6_clearText 7 = .ok (.ireturn, 1) := by decide +kernel
set_option maxRecDepth 20000 in
theorem ggX6_fault_X4_findFault : GoodIn wsX6_fault wsX4_findFault := goodIn_r _ [6, 7, 8, 9, 10, 11, 5, 12, 13, 14, 15, 16, 17, 18, 19, 20, 21, 22, 23, 24, 25, 26, 27, 28, 29, 30, 31, 32, 33, 34, 35, 36, 37, 38, 39, 40, 41, 42, 43, 44, 45, 46, 47, 48, 55, 56, 57, 58, 59, 60, 61] (by rfl) (by decide +kernel)
set_option maxRecDepth 20000 in
theorem gX6_fault_X4_findFault : GoodIn wsX6_fault (wsV RX6 79 RX4 yX4_findFault wsX4_findFault) := goodIn_app (goodIn_r _ [2, 3, 4, 5] (by rfl) (by decide +kernel)) ggX6_fault_X4_findFault
theorem dX6_fault_0 : decode cX6_fault 0 = .ok (.aload_n 0, 1) := by decide +kernel
theorem dX6_fault_1 : decode cX6_fault 1 = .ok (.getfield 32, 3) := by decide +kernel
theorem dX6_fault_4 : decode cX6_fault 4 = .ok (.invokevirtual 79, 3) := by decide +kernel
theorem dX6_fault_7 : decode cX6_fault 7 = .ok (.ireturn, 1) := by decide +kernel
set_option maxRecDepth 20000 in
theorem ggX6_run_X4_findFault : GoodIn wsX6_run wsX4_findFault := goodIn_r _ [8, 9, 10, 11, 12, 13, 7, 14, 15, 16, 17, 18, 19, 20, 21, 22, 23, 24, 25, 26, 27, 28, 29, 30, 31, 32, 33, 34, 35, 36, 37, 38, 39, 40, 41, 42, 43, 44, 45, 46, 47, 48, 49, 50, 255, 256, 257, 258, 259, 260, 261] (by rfl) (by decide +kernel)
set_option maxRecDepth 20000 in
theorem gX6_run_X4_findFault : GoodIn wsX6_run (wsV RX6 79 RX4 yX4_findFault wsX4_findFault) := goodIn_app (goodIn_r _ [4, 5, 6, 7] (by rfl) (by decide +kernel)) ggX6_run_X4_findFault
set_option maxRecDepth 20000 in
theorem ggX6_run_X1_prepare : GoodIn wsX6_run wsX1_prepare := goodIn_r _ [55, 56, 57, 58, 59, 60, 54, 61, 62, 63, 64, 65, 66, 67, 68, 69, 70, 71, 72, 73, 74, 75, 76, 77, 78, 79, 80, 81, 82, 83, 84, 85, 86, 87, 88, 89, 90, 91, 92, 93, 94, 95, 96, 97, 98, 99, 100, 101, 102, 103, 104, 105, 106, 107, 262, 263, 264, 265, 266, 267, 268, 269, 270, 271, 272, 273, 274, 275, 276, 277, 278, 279, 280, 281, 282] (by rfl) (by decide +kernel)
set_option maxRecDepth 20000 in
theorem gX6_run_X1_prepare : GoodIn wsX6_run (wsV RX6 36 RX1 yX1_prepare wsX1_prepare) := goodIn_app (goodIn_r _ [51, 52, 53, 54] (by rfl) (by decide +kernel)) ggX6_run_X1_prepare
set_option maxRecDepth 20000 in
theorem ggX6_run_X1_keepPrepared : GoodIn wsX6_run wsX1_keepPrepared := goodIn_r _ [111, 57, 62, 58, 59, 60, 54, 61, 262, 263, 264] (by rfl) (by decide +kernel)
set_option maxRecDepth 20000 in
theorem gX6_run_X1_keepPrepared : GoodIn wsX6_run (wsV RX6 82 RX1 yX1_keepPrepared wsX1_keepPrepared) := goodIn_app (goodIn_r _ [108, 109, 110, 54] (by rfl) (by decide +kernel)) ggX6_run_X1_keepPrepared
set_option maxRecDepth 20000 in
theorem ggX6_run_X4_goToStart : GoodIn wsX6_run wsX4_goToStart := goodIn_r _ [14, 9, 255, 256, 257, 258, 259, 260, 261] (by rfl) (by decide +kernel)
set_option maxRecDepth 20000 in
theorem gX6_run_X4_goToStart : GoodIn wsX6_run (wsV RX6 85 RX4 yX4_goToStart wsX4_goToStart) := goodIn_app (goodIn_r _ [112, 12, 13, 7] (by rfl) (by decide +kernel)) ggX6_run_X4_goToStart
set_option maxRecDepth 20000 in
theorem ggX6_run_X4_readOrder : GoodIn wsX6_run wsX4_readOrder := goodIn_r _ [18, 19, 9, 20, 21, 22, 23, 7, 24, 10, 25, 26, 27, 28, 29, 30, 31, 32, 33, 34, 35, 36, 37, 38, 39, 40, 41, 42, 43, 44, 45, 46, 47, 48, 49, 50, 255, 256, 257, 258, 259, 260, 261] (by rfl) (by decide +kernel)
set_option maxRecDepth 20000 in
theorem gX6_run_X4_readOrder : GoodIn wsX6_run (wsV RX6 88 RX4 yX4_readOrder wsX4_readOrder) := goodIn_app (goodIn_r _ [113, 16, 17, 7] (by rfl) (by decide +kernel)) ggX6_run_X4_readOrder
set_option maxRecDepth 20000 in
theorem ggX6_run_X6_carryOutOrder : GoodIn wsX6_run wsX6_carryOutOrder := goodIn_r _ [117, 1, 3, 118, 119, 120, 66, 121, 71, 122, 40, 123, 124, 39, 41, 125, 126, 127, 128, 129, 130, 72, 68, 131, 132, 133, 134, 135, 136, 137, 101, 138, 107, 103, 105, 139, 140, 141, 142, 106, 143, 144, 145, 146, 77, 147, 148, 149, 81, 150, 83, 151, 152, 153, 154, 155, 156, 157, 158, 159, 160, 161, 162, 163, 164, 165, 166, 167, 168, 169, 88, 170, 90, 91, 92, 93, 94, 95, 171, 172, 173, 174, 175, 176, 177, 178, 179, 180, 181, 182, 183, 184, 185, 186, 187, 188, 189, 190, 191, 192, 193, 194, 195, 196, 197, 198, 199, 200, 201, 202, 203, 204, 205, 206, 207, 208, 209, 210, 211, 212, 213, 214, 215, 216, 217, 218, 219, 220, 221, 222, 223, 224, 225, 226, 227, 228, 229, 230, 231, 232, 233, 234, 235, 236, 237, 238, 239, 240, 69, 70, 78, 79, 80, 82, 84, 74, 75, 76, 241, 242, 243, 244, 249, 250, 251, 252, 253, 254, 255, 256, 257, 258, 259, 260, 261, 265, 266, 267, 268, 269, 270, 272, 273, 274, 275, 276, 277, 278, 279, 280, 281, 282, 271] (by rfl) (by decide +kernel)
set_option maxRecDepth 20000 in
theorem gX6_run_X6_carryOutOrder : GoodIn wsX6_run (wsV RX6 92 RX6 yX6_carryOutOrder wsX6_carryOutOrder) := goodIn_app (goodIn_r _ [114, 115, 116, 40] (by rfl) (by decide +kernel)) ggX6_run_X6_carryOutOrder
set_option maxRecDepth 20000 in
theorem ggX6_run_X6_isError : GoodIn wsX6_run wsX6_isError := goodIn_r _ [247] (by rfl) (by decide +kernel)
set_option maxRecDepth 20000 in
theorem gX6_run_X6_isError : GoodIn wsX6_run (va_wsS RX6 95 yX6_isError wsX6_isError) := goodIn_app (goodIn_r _ [245, 246, 40] (by rfl) (by decide +kernel)) ggX6_run_X6_isError
set_option maxRecDepth 20000 in
theorem ggX6_run_X4_skip : GoodIn wsX6_run wsX4_skip := goodIn_r _ [45, 9, 21, 22, 23, 7, 24, 10, 25, 255, 256, 257, 258, 259, 260, 261] (by rfl) (by decide +kernel)
set_option maxRecDepth 20000 in
theorem gX6_run_X4_skip : GoodIn wsX6_run (wsV RX6 99 RX4 yX4_skip wsX4_skip) := goodIn_app (goodIn_r _ [248, 43, 44, 7] (by rfl) (by decide +kernel)) ggX6_run_X4_skip
theorem dX6_run_0 : decode cX6_run 0 = .ok (.aload_n 0, 1) := by decide +kernel
theorem dX6_run_1 : decode cX6_run 1 = .ok (.getfield 32, 3) := by decide +kernel
theorem dX6_run_4 : decode cX6_run 4 = .ok (.invokevirtual 79, 3) := by decide +kernel
theorem dX6_run_7 : decode cX6_run 7 = .ok (.istore_n 1, 1) := by decide +kernel
theorem dX6_run_8 : decode cX6_run 8 = .ok (.iload_n 1, 1) := by decide +kernel
theorem dX6_run_9 : decode cX6_run 9 = .ok (.bipush (-5), 2) := by decide +kernel
theorem dX6_run_11 : decode cX6_run 11 = .ok (.if_icmp .eq 8, 3) := by decide +kernel
theorem dX6_run_14 : decode cX6_run 14 = .ok (.bipush (-100), 2) := by decide +kernel
theorem dX6_run_16 : decode cX6_run 16 = .ok (.iload_n 1, 1) := by decide +kernel
theorem dX6_run_17 : decode cX6_run 17 = .ok (.isub, 1) := by decide +kernel
theorem dX6_run_18 : decode cX6_run 18 = .ok (.ireturn, 1) := by decide +kernel
theorem dX6_run_19 : decode cX6_run 19 = .ok (.aload_n 0, 1) := by decide +kernel
theorem dX6_run_20 : decode cX6_run 20 = .ok (.getfield 25, 3) := by decide +kernel
theorem dX6_run_23 : decode cX6_run 23 = .ok (.aload_n 0, 1) := by decide +kernel
theorem dX6_run_24 : decode cX6_run 24 = .ok (.getfield 10, 3) := by decide +kernel
theorem dX6_run_27 : decode cX6_run 27 = .ok (.invokevirtual 36, 3) := by decide +kernel
theorem dX6_run_30 : decode cX6_run 30 = .ok (.aload_n 0, 1) := by decide +kernel
theorem dX6_run_31 : decode cX6_run 31 = .ok (.getfield 25, 3) := by decide +kernel
theorem dX6_run_34 : decode cX6_run 34 = .ok (.invokevirtual 82, 3) := by decide +kernel
theorem dX6_run_37 : decode cX6_run 37 = .ok (.aload_n 0, 1) := by decide +kernel
theorem dX6_run_38 : decode cX6_run 38 = .ok (.getfield 32, 3) := by decide +kernel
theorem dX6_run_41 : decode cX6_run 41 = .ok (.invokevirtual 85, 3) := by decide +kernel
theorem dX6_run_44 : decode cX6_run 44 = .ok (.iconst 0, 1) := by decide +kernel
theorem dX6_run_45 : decode cX6_run 45 = .ok (.istore_n 2, 1) := by decide +kernel
theorem dX6_run_46 : decode cX6_run 46 = .ok (.iload_n 2, 1) := by decide +kernel
theorem dX6_run_47 : decode cX6_run 47 = .ok (.bipush 80, 2) := by decide +kernel
theorem dX6_run_49 : decode cX6_run 49 = .ok (.if_icmp .ge 47, 3) := by decide +kernel
theorem dX6_run_52 : decode cX6_run 52 = .ok (.aload_n 0, 1) := by decide +kernel
theorem dX6_run_53 : decode cX6_run 53 = .ok (.getfield 32, 3) := by decide +kernel
theorem dX6_run_56 : decode cX6_run 56 = .ok (.invokevirtual 88, 3) := by decide +kernel
theorem dX6_run_59 : decode cX6_run 59 = .ok (.ifCond .eq 13, 3) := by decide +kernel
theorem dX6_run_62 : decode cX6_run 62 = .ok (.aload_n 0, 1) := by decide +kernel
theorem dX6_run_63 : decode cX6_run 63 = .ok (.invokevirtual 92, 3) := by decide +kernel
theorem dX6_run_66 : decode cX6_run 66 = .ok (.invokestatic 95, 3) := by decide +kernel
theorem dX6_run_69 : decode cX6_run 69 = .ok (.ifCond .eq 5, 3) := by decide +kernel
theorem dX6_run_72 : decode cX6_run 72 = .ok (.iload_n 2, 1) := by decide +kernel
theorem dX6_run_73 : decode cX6_run 73 = .ok (.ireturn, 1) := by decide +kernel
theorem dX6_run_74 : decode cX6_run 74 = .ok (.aload_n 0, 1) := by decide +kernel
theorem dX6_run_75 : decode cX6_run 75 = .ok (.getfield 32, 3) := by decide +kernel
theorem dX6_run_78 : decode cX6_run 78 = .ok (.bipush 44, 2) := by decide +kernel
theorem dX6_run_80 : decode cX6_run 80 = .ok (.invokevirtual 99, 3) := by decide +kernel
theorem dX6_run_83 : decode cX6_run 83 = .ok (.ifCond .ne 7, 3) := by decide +kernel
theorem dX6_run_86 : decode cX6_run 86 = .ok (.iload_n 2, 1) := by decide +kernel
theorem dX6_run_87 : decode cX6_run 87 = .ok (.iconst 1, 1) := by decide +kernel
theorem dX6_run_88 : decode cX6_run 88 = .ok (.iadd, 1) := by decide +kernel
theorem dX6_run_89 : decode cX6_run 89 = .ok (.ireturn, 1) := by decide +kernel
theorem dX6_run_90 : decode cX6_run 90 = .ok (.iinc 2 1, 3) := by decide +kernel
theorem dX6_run_93 : decode cX6_run 93 = .ok (.goto (-47), 3) := by decide +kernel
theorem dX6_run_96 : decode cX6_run 96 = .ok (.bipush 80, 2) := by decide +kernel
theorem dX6_run_98 : decode cX6_run 98 = .ok (.ireturn, 1) := by decide +kernel
set_option maxRecDepth 20000 in
theorem ggX6_undo_X1_takeBack : GoodIn wsX6_undo wsX1_takeBack := goodIn_r _ [7, 8, 9, 10, 11, 12, 6, 13, 14, 15, 16, 17, 18, 19, 20, 21, 22, 23, 24, 25, 26, 27, 28, 29, 30, 31, 32, 33, 34, 35, 36, 37, 38, 39, 40, 41, 42, 43, 44, 45, 46, 47, 48, 49, 50, 51, 52, 53, 54, 55, 56, 57, 58, 59, 66, 67, 68, 69, 70, 71, 72, 73, 74, 75, 76, 77, 78, 79, 80, 81, 82, 83, 84, 85, 86] (by rfl) (by decide +kernel)
set_option maxRecDepth 20000 in
theorem gX6_undo_X1_takeBack : GoodIn wsX6_undo (wsV RX6 102 RX1 yX1_takeBack wsX1_takeBack) := goodIn_app (goodIn_r _ [3, 4, 5, 6] (by rfl) (by decide +kernel)) ggX6_undo_X1_takeBack
theorem dX6_undo_0 : decode cX6_undo 0 = .ok (.aload_n 0, 1) := by decide +kernel
theorem dX6_undo_1 : decode cX6_undo 1 = .ok (.getfield 25, 3) := by decide +kernel
theorem dX6_undo_4 : decode cX6_undo 4 = .ok (.aload_n 0, 1) := by decide +kernel
theorem dX6_undo_5 : decode cX6_undo 5 = .ok (.getfield 10, 3) := by decide +kernel
theorem dX6_undo_8 : decode cX6_undo 8 = .ok (.invokevirtual 102, 3) := by decide +kernel
theorem dX6_undo_11 : decode cX6_undo 11 = .ok (.ireturn, 1) := by decide +kernel
set_option maxRecDepth 20000 in
theorem ggX6_save_X5_take : GoodIn wsX6_save wsX5_take := goodIn_r _ [8, 9, 10, 11, 12, 13, 14, 15, 16, 17, 18, 19, 20, 21, 22, 23, 24, 25, 26, 27, 28, 29, 30, 31, 32, 33, 34, 35, 36, 37, 38, 39, 40, 41, 42, 43, 44, 45, 46, 47, 48, 59, 60, 61, 62, 63, 64, 65, 66, 67, 68, 69, 70, 71, 72, 73, 74, 75, 76] (by rfl) (by decide +kernel)
set_option maxRecDepth 20000 in
theorem gX6_save_X5_take : GoodIn wsX6_save (wsV RX6 106 RX5 yX5_take wsX5_take) := goodIn_app (goodIn_r _ [4, 5, 6, 7] (by rfl) (by decide +kernel)) ggX6_save_X5_take
set_option maxRecDepth 20000 in
theorem ggX6_save_X3_count : GoodIn wsX6_save wsX3_count := goodIn_r _ [52, 24, 65] (by rfl) (by decide +kernel)
set_option maxRecDepth 20000 in
theorem gX6_save_X3_count : GoodIn wsX6_save (wsV RX6 117 RX3 yX3_count wsX3_count) := goodIn_app (goodIn_r _ [49, 50, 51, 22] (by rfl) (by decide +kernel)) ggX6_save_X3_count
theorem dX6_save_0 : decode cX6_save 0 = .ok (.aload_n 0, 1) := by decide +kernel
theorem dX6_save_1 : decode cX6_save 1 = .ok (.getfield 16, 3) := by decide +kernel
theorem dX6_save_4 : decode cX6_save 4 = .ok (.aload_n 0, 1) := by decide +kernel
theorem dX6_save_5 : decode cX6_save 5 = .ok (.getfield 10, 3) := by decide +kernel
theorem dX6_save_8 : decode cX6_save 8 = .ok (.invokevirtual 106, 3) := by decide +kernel
theorem dX6_save_11 : decode cX6_save 11 = .ok (.aload_n 0, 1) := by decide +kernel
theorem dX6_save_12 : decode cX6_save 12 = .ok (.iconst 1, 1) := by decide +kernel
theorem dX6_save_13 : decode cX6_save 13 = .ok (.putfield 109, 3) := by decide +kernel
theorem dX6_save_16 : decode cX6_save 16 = .ok (.aload_n 0, 1) := by decide +kernel
theorem dX6_save_17 : decode cX6_save 17 = .ok (.getfield 10, 3) := by decide +kernel
theorem dX6_save_20 : decode cX6_save 20 = .ok (.getfield 113, 3) := by decide +kernel
theorem dX6_save_23 : decode cX6_save 23 = .ok (.invokevirtual 117, 3) := by decide +kernel
theorem dX6_save_26 : decode cX6_save 26 = .ok (.ireturn, 1) := by decide +kernel
set_option maxRecDepth 20000 in
theorem ggX6_restore_X1_prepare : GoodIn wsX6_restore wsX1_prepare := goodIn_r _ [9, 10, 11, 12, 13, 14, 8, 15, 16, 17, 18, 19, 20, 21, 22, 23, 24, 25, 26, 27, 28, 29, 30, 31, 32, 33, 34, 35, 36, 37, 38, 39, 40, 41, 42, 43, 44, 45, 46, 47, 48, 49, 50, 51, 52, 53, 54, 55, 56, 57, 58, 59, 60, 61, 91, 92, 93, 85, 86, 87, 88, 89, 90, 94, 95, 96, 97, 98, 99, 100, 101, 102, 103, 104, 105] (by rfl) (by decide +kernel)
set_option maxRecDepth 20000 in
theorem gX6_restore_X1_prepare : GoodIn wsX6_restore (wsV RX6 36 RX1 yX1_prepare wsX1_prepare) := goodIn_app (goodIn_r _ [5, 6, 7, 8] (by rfl) (by decide +kernel)) ggX6_restore_X1_prepare
set_option maxRecDepth 20000 in
theorem ggX6_restore_X5_take : GoodIn wsX6_restore wsX5_take := goodIn_r _ [21, 22, 23, 24, 25, 26, 27, 28, 29, 30, 31, 32, 33, 34, 35, 36, 37, 38, 39, 40, 41, 42, 43, 44, 45, 46, 47, 48, 49, 50, 51, 52, 53, 54, 55, 56, 57, 58, 59, 60, 61, 85, 86, 87, 88, 89, 90, 94, 95, 96, 97, 98, 99, 100, 101, 102, 103, 104, 105] (by rfl) (by decide +kernel)
set_option maxRecDepth 20000 in
theorem gX6_restore_X5_take : GoodIn wsX6_restore (wsV RX6 106 RX5 yX5_take wsX5_take) := goodIn_app (goodIn_r _ [62, 18, 19, 20] (by rfl) (by decide +kernel)) ggX6_restore_X5_take
set_option maxRecDepth 20000 in
theorem ggX6_restore_X3_count : GoodIn wsX6_restore wsX3_count := goodIn_r _ [66, 37, 94] (by rfl) (by decide +kernel)
set_option maxRecDepth 20000 in
theorem gX6_restore_X3_count : GoodIn wsX6_restore (wsV RX6 117 RX3 yX3_count wsX3_count) := goodIn_app (goodIn_r _ [63, 64, 65, 35] (by rfl) (by decide +kernel)) ggX6_restore_X3_count
set_option maxRecDepth 20000 in
theorem ggX6_restore_X6_recorded : GoodIn wsX6_restore wsX6_recorded := goodIn_r _ [71, 2, 72, 73, 70, 74, 75, 76, 77, 8, 78, 11, 16, 12, 13, 14, 15, 79, 80, 81, 82, 83, 84, 91, 92, 93] (by rfl) (by decide +kernel)
set_option maxRecDepth 20000 in
theorem gX6_restore_X6_recorded : GoodIn wsX6_restore (wsV RX6 44 RX6 yX6_recorded wsX6_recorded) := goodIn_app (goodIn_r _ [67, 68, 69, 70] (by rfl) (by decide +kernel)) ggX6_restore_X6_recorded
theorem dX6_restore_0 : decode cX6_restore 0 = .ok (.aload_n 0, 1) := by decide +kernel
theorem dX6_restore_1 : decode cX6_restore 1 = .ok (.getfield 109, 3) := by decide +kernel
theorem dX6_restore_4 : decode cX6_restore 4 = .ok (.ifCond .ne 6, 3) := by decide +kernel
theorem dX6_restore_7 : decode cX6_restore 7 = .ok (.bipush (-4), 2) := by decide +kernel
theorem dX6_restore_9 : decode cX6_restore 9 = .ok (.ireturn, 1) := by decide +kernel
theorem dX6_restore_10 : decode cX6_restore 10 = .ok (.aload_n 0, 1) := by decide +kernel
theorem dX6_restore_11 : decode cX6_restore 11 = .ok (.getfield 25, 3) := by decide +kernel
theorem dX6_restore_14 : decode cX6_restore 14 = .ok (.aload_n 0, 1) := by decide +kernel
theorem dX6_restore_15 : decode cX6_restore 15 = .ok (.getfield 10, 3) := by decide +kernel
theorem dX6_restore_18 : decode cX6_restore 18 = .ok (.invokevirtual 36, 3) := by decide +kernel
theorem dX6_restore_21 : decode cX6_restore 21 = .ok (.aload_n 0, 1) := by decide +kernel
theorem dX6_restore_22 : decode cX6_restore 22 = .ok (.getfield 10, 3) := by decide +kernel
theorem dX6_restore_25 : decode cX6_restore 25 = .ok (.aload_n 0, 1) := by decide +kernel
theorem dX6_restore_26 : decode cX6_restore 26 = .ok (.getfield 16, 3) := by decide +kernel
theorem dX6_restore_29 : decode cX6_restore 29 = .ok (.invokevirtual 106, 3) := by decide +kernel
theorem dX6_restore_32 : decode cX6_restore 32 = .ok (.aload_n 0, 1) := by decide +kernel
theorem dX6_restore_33 : decode cX6_restore 33 = .ok (.aload_n 0, 1) := by decide +kernel
theorem dX6_restore_34 : decode cX6_restore 34 = .ok (.getfield 10, 3) := by decide +kernel
theorem dX6_restore_37 : decode cX6_restore 37 = .ok (.getfield 113, 3) := by decide +kernel
theorem dX6_restore_40 : decode cX6_restore 40 = .ok (.invokevirtual 117, 3) := by decide +kernel
theorem dX6_restore_43 : decode cX6_restore 43 = .ok (.invokevirtual 44, 3) := by decide +kernel
theorem dX6_restore_46 : decode cX6_restore 46 = .ok (.ireturn, 1) := by decide +kernel
set_option maxRecDepth 20000 in
theorem ggX6_value_X6_isKey : GoodIn wsX6_value wsX6_isKey := goodIn_r _ [5, 6, 7, 4, 8] (by rfl) (by decide +kernel)
set_option maxRecDepth 20000 in
theorem gX6_value_X6_isKey : GoodIn wsX6_value (va_wsS RX6 122 yX6_isKey wsX6_isKey) := goodIn_app (goodIn_r _ [2, 3, 4] (by rfl) (by decide +kernel)) ggX6_value_X6_isKey
set_option maxRecDepth 20000 in
theorem ggX6_value_X6_isTable : GoodIn wsX6_value wsX6_isTable := goodIn_r _ [11, 6, 7, 4, 8] (by rfl) (by decide +kernel)
set_option maxRecDepth 20000 in
theorem gX6_value_X6_isTable : GoodIn wsX6_value (va_wsS RX6 125 yX6_isTable wsX6_isTable) := goodIn_app (goodIn_r _ [9, 10, 4] (by rfl) (by decide +kernel)) ggX6_value_X6_isTable
set_option maxRecDepth 20000 in
theorem ggX6_value_X5_rowsOf : GoodIn wsX6_value wsX5_rowsOf := goodIn_r _ [16, 17, 18, 19, 20, 21, 22, 23, 15, 24, 37, 38, 39, 40, 41, 42, 43, 44, 45, 46, 47, 48, 49] (by rfl) (by decide +kernel)
set_option maxRecDepth 20000 in
theorem gX6_value_X5_rowsOf : GoodIn wsX6_value (wsV RX6 128 RX5 yX5_rowsOf wsX5_rowsOf) := goodIn_app (goodIn_r _ [12, 13, 14, 15] (by rfl) (by decide +kernel)) ggX6_value_X5_rowsOf
set_option maxRecDepth 20000 in
theorem ggX6_value_X3_at : GoodIn wsX6_value wsX3_at := goodIn_r _ [29, 30, 50] (by rfl) (by decide +kernel)
set_option maxRecDepth 20000 in
theorem gX6_value_X3_at : GoodIn wsX6_value (wsV RX6 132 RX3 yX3_at wsX3_at) := goodIn_app (goodIn_r _ [25, 26, 27, 28] (by rfl) (by decide +kernel)) ggX6_value_X3_at
theorem dX6_value_0 : decode cX6_value 0 = .ok (.iload_n 2, 1) := by decide +kernel
theorem dX6_value_1 : decode cX6_value 1 = .ok (.invokestatic 122, 3) := by decide +kernel
theorem dX6_value_4 : decode cX6_value 4 = .ok (.ifCond .ne 5, 3) := by decide +kernel
theorem dX6_value_7 : decode cX6_value 7 = .ok (.iconst (-1), 1) := by decide +kernel
theorem dX6_value_8 : decode cX6_value 8 = .ok (.ireturn, 1) := by decide +kernel
theorem dX6_value_9 : decode cX6_value 9 = .ok (.iload_n 1, 1) := by decide +kernel
theorem dX6_value_10 : decode cX6_value 10 = .ok (.invokestatic 125, 3) := by decide +kernel
theorem dX6_value_13 : decode cX6_value 13 = .ok (.ifCond .ne 6, 3) := by decide +kernel
theorem dX6_value_16 : decode cX6_value 16 = .ok (.bipush (-2), 2) := by decide +kernel
theorem dX6_value_18 : decode cX6_value 18 = .ok (.ireturn, 1) := by decide +kernel
theorem dX6_value_19 : decode cX6_value 19 = .ok (.aload_n 0, 1) := by decide +kernel
theorem dX6_value_20 : decode cX6_value 20 = .ok (.getfield 10, 3) := by decide +kernel
theorem dX6_value_23 : decode cX6_value 23 = .ok (.iload_n 1, 1) := by decide +kernel
theorem dX6_value_24 : decode cX6_value 24 = .ok (.invokevirtual 128, 3) := by decide +kernel
theorem dX6_value_27 : decode cX6_value 27 = .ok (.astore_n 3, 1) := by decide +kernel
theorem dX6_value_28 : decode cX6_value 28 = .ok (.aload_n 3, 1) := by decide +kernel
theorem dX6_value_29 : decode cX6_value 29 = .ok (.ifnonnull 8, 3) := by decide +kernel
theorem dX6_value_32 : decode cX6_value 32 = .ok (.bipush (-5), 2) := by decide +kernel
theorem dX6_value_34 : decode cX6_value 34 = .ok (.goto 8, 3) := by decide +kernel
theorem dX6_value_37 : decode cX6_value 37 = .ok (.aload_n 3, 1) := by decide +kernel
theorem dX6_value_38 : decode cX6_value 38 = .ok (.iload_n 2, 1) := by decide +kernel
theorem dX6_value_39 : decode cX6_value 39 = .ok (.invokevirtual 132, 3) := by decide +kernel
theorem dX6_value_42 : decode cX6_value 42 = .ok (.ireturn, 1) := by decide +kernel
set_option maxRecDepth 20000 in
theorem ggX6_table_X6_isTable : GoodIn wsX6_table wsX6_isTable := goodIn_r _ [5, 6, 7, 4, 8] (by rfl) (by decide +kernel)
set_option maxRecDepth 20000 in
theorem gX6_table_X6_isTable : GoodIn wsX6_table (va_wsS RX6 125 yX6_isTable wsX6_isTable) := goodIn_app (goodIn_r _ [2, 3, 4] (by rfl) (by decide +kernel)) ggX6_table_X6_isTable
set_option maxRecDepth 20000 in
theorem ggX6_table_X6_isIn : GoodIn wsX6_table wsX6_isIn := goodIn_r _ [8] (by rfl) (by decide +kernel)
set_option maxRecDepth 20000 in
theorem gX6_table_X6_isIn : GoodIn wsX6_table (va_wsS RX6 135 yX6_isIn wsX6_isIn) := goodIn_app (goodIn_r _ [6, 7, 4] (by rfl) (by decide +kernel)) ggX6_table_X6_isIn
set_option maxRecDepth 20000 in
theorem ggX6_table_X5_rowsOf : GoodIn wsX6_table wsX5_rowsOf := goodIn_r _ [13, 14, 15, 16, 17, 18, 19, 20, 12, 21, 50, 51, 52, 53, 54, 55, 56, 57, 58, 59, 60, 61, 62] (by rfl) (by decide +kernel)
set_option maxRecDepth 20000 in
theorem gX6_table_X5_rowsOf : GoodIn wsX6_table (wsV RX6 128 RX5 yX5_rowsOf wsX5_rowsOf) := goodIn_app (goodIn_r _ [9, 10, 11, 12] (by rfl) (by decide +kernel)) ggX6_table_X5_rowsOf
set_option maxRecDepth 20000 in
theorem ggX6_table_X3_tell : GoodIn wsX6_table wsX3_tell := goodIn_r _ [26, 27, 28, 29, 25, 30, 31, 32, 33, 34, 35, 36, 37, 38, 39, 40, 41, 42, 43, 63] (by rfl) (by decide +kernel)
set_option maxRecDepth 20000 in
theorem gX6_table_X3_tell : GoodIn wsX6_table (wsV RX6 139 RX3 yX3_tell wsX3_tell) := goodIn_app (goodIn_r _ [22, 23, 24, 25] (by rfl) (by decide +kernel)) ggX6_table_X3_tell
theorem dX6_table_0 : decode cX6_table 0 = .ok (.iload_n 1, 1) := by decide +kernel
theorem dX6_table_1 : decode cX6_table 1 = .ok (.invokestatic 125, 3) := by decide +kernel
theorem dX6_table_4 : decode cX6_table 4 = .ok (.ifCond .eq 12, 3) := by decide +kernel
theorem dX6_table_7 : decode cX6_table 7 = .ok (.iload_n 2, 1) := by decide +kernel
theorem dX6_table_8 : decode cX6_table 8 = .ok (.iconst 0, 1) := by decide +kernel
theorem dX6_table_9 : decode cX6_table 9 = .ok (.iconst 3, 1) := by decide +kernel
theorem dX6_table_10 : decode cX6_table 10 = .ok (.invokestatic 135, 3) := by decide +kernel
theorem dX6_table_13 : decode cX6_table 13 = .ok (.ifCond .ne 6, 3) := by decide +kernel
theorem dX6_table_16 : decode cX6_table 16 = .ok (.bipush (-2), 2) := by decide +kernel
theorem dX6_table_18 : decode cX6_table 18 = .ok (.ireturn, 1) := by decide +kernel
theorem dX6_table_19 : decode cX6_table 19 = .ok (.aload_n 0, 1) := by decide +kernel
theorem dX6_table_20 : decode cX6_table 20 = .ok (.getfield 10, 3) := by decide +kernel
theorem dX6_table_23 : decode cX6_table 23 = .ok (.iload_n 1, 1) := by decide +kernel
theorem dX6_table_24 : decode cX6_table 24 = .ok (.invokevirtual 128, 3) := by decide +kernel
theorem dX6_table_27 : decode cX6_table 27 = .ok (.astore_n 3, 1) := by decide +kernel
theorem dX6_table_28 : decode cX6_table 28 = .ok (.aload_n 3, 1) := by decide +kernel
theorem dX6_table_29 : decode cX6_table 29 = .ok (.ifnonnull 8, 3) := by decide +kernel
theorem dX6_table_32 : decode cX6_table 32 = .ok (.bipush (-5), 2) := by decide +kernel
theorem dX6_table_34 : decode cX6_table 34 = .ok (.goto 8, 3) := by decide +kernel
theorem dX6_table_37 : decode cX6_table 37 = .ok (.aload_n 3, 1) := by decide +kernel
theorem dX6_table_38 : decode cX6_table 38 = .ok (.iload_n 2, 1) := by decide +kernel
theorem dX6_table_39 : decode cX6_table 39 = .ok (.invokevirtual 139, 3) := by decide +kernel
theorem dX6_table_42 : decode cX6_table 42 = .ok (.ireturn, 1) := by decide +kernel
set_option maxRecDepth 20000 in
theorem ggX6_copy_X6_isIn : GoodIn wsX6_copy wsX6_isIn := goodIn_r _ [5] (by rfl) (by decide +kernel)
set_option maxRecDepth 20000 in
theorem gX6_copy_X6_isIn : GoodIn wsX6_copy (va_wsS RX6 135 yX6_isIn wsX6_isIn) := goodIn_app (goodIn_r _ [2, 3, 4] (by rfl) (by decide +kernel)) ggX6_copy_X6_isIn
set_option maxRecDepth 20000 in
theorem ggX6_copy_X0_tell : GoodIn wsX6_copy wsX0_tell := goodIn_r _ [10, 11, 12, 13, 14, 15, 16, 29, 30, 31, 32, 33, 34, 35, 36, 37, 38, 39] (by rfl) (by decide +kernel)
set_option maxRecDepth 20000 in
theorem gX6_copy_X0_tell : GoodIn wsX6_copy (wsV RX6 146 RX0 yX0_tell wsX0_tell) := goodIn_app (goodIn_r _ [6, 7, 8, 9] (by rfl) (by decide +kernel)) ggX6_copy_X0_tell
theorem dX6_copy_0 : decode cX6_copy 0 = .ok (.iload_n 1, 1) := by decide +kernel
theorem dX6_copy_1 : decode cX6_copy 1 = .ok (.iconst 0, 1) := by decide +kernel
theorem dX6_copy_2 : decode cX6_copy 2 = .ok (.iconst 5, 1) := by decide +kernel
theorem dX6_copy_3 : decode cX6_copy 3 = .ok (.invokestatic 135, 3) := by decide +kernel
theorem dX6_copy_6 : decode cX6_copy 6 = .ok (.ifCond .eq 17, 3) := by decide +kernel
theorem dX6_copy_9 : decode cX6_copy 9 = .ok (.aload_n 0, 1) := by decide +kernel
theorem dX6_copy_10 : decode cX6_copy 10 = .ok (.getfield 10, 3) := by decide +kernel
theorem dX6_copy_13 : decode cX6_copy 13 = .ok (.getfield 142, 3) := by decide +kernel
theorem dX6_copy_16 : decode cX6_copy 16 = .ok (.iload_n 1, 1) := by decide +kernel
theorem dX6_copy_17 : decode cX6_copy 17 = .ok (.invokevirtual 146, 3) := by decide +kernel
theorem dX6_copy_20 : decode cX6_copy 20 = .ok (.goto 5, 3) := by decide +kernel
theorem dX6_copy_23 : decode cX6_copy 23 = .ok (.bipush (-2), 2) := by decide +kernel
theorem dX6_copy_25 : decode cX6_copy 25 = .ok (.ireturn, 1) := by decide +kernel
set_option maxRecDepth 20000 in
theorem ggX6_entry_X6_isIn : GoodIn wsX6_entry wsX6_isIn := goodIn_r _ [5] (by rfl) (by decide +kernel)
set_option maxRecDepth 20000 in
theorem gX6_entry_X6_isIn : GoodIn wsX6_entry (va_wsS RX6 135 yX6_isIn wsX6_isIn) := goodIn_app (goodIn_r _ [2, 3, 4] (by rfl) (by decide +kernel)) ggX6_entry_X6_isIn
set_option maxRecDepth 20000 in
theorem ggX6_entry_X5_hasCopy : GoodIn wsX6_entry wsX5_hasCopy := goodIn_r _ [10, 11, 35, 36, 37, 38, 39, 40, 41, 42, 43, 44, 45, 46, 47] (by rfl) (by decide +kernel)
set_option maxRecDepth 20000 in
theorem gX6_entry_X5_hasCopy : GoodIn wsX6_entry (wsV RX6 149 RX5 yX5_hasCopy wsX5_hasCopy) := goodIn_app (goodIn_r _ [6, 7, 8, 9] (by rfl) (by decide +kernel)) ggX6_entry_X5_hasCopy
set_option maxRecDepth 20000 in
theorem ggX6_entry_X2_keyAt : GoodIn wsX6_entry wsX2_keyAt := goodIn_r _ [16, 17, 18, 19, 20, 21, 15, 22, 23, 48, 49, 50, 51] (by rfl) (by decide +kernel)
set_option maxRecDepth 20000 in
theorem gX6_entry_X2_keyAt : GoodIn wsX6_entry (wsV RX6 156 RX2 yX2_keyAt wsX2_keyAt) := goodIn_app (goodIn_r _ [12, 13, 14, 15] (by rfl) (by decide +kernel)) ggX6_entry_X2_keyAt
set_option maxRecDepth 20000 in
theorem ggX6_entry_X2_valueAt : GoodIn wsX6_entry wsX2_valueAt := goodIn_r _ [27, 17, 28, 19, 20, 21, 15, 22, 23, 48, 49, 50, 51] (by rfl) (by decide +kernel)
set_option maxRecDepth 20000 in
theorem gX6_entry_X2_valueAt : GoodIn wsX6_entry (wsV RX6 161 RX2 yX2_valueAt wsX2_valueAt) := goodIn_app (goodIn_r _ [24, 25, 26, 15] (by rfl) (by decide +kernel)) ggX6_entry_X2_valueAt
theorem dX6_entry_0 : decode cX6_entry 0 = .ok (.iload_n 1, 1) := by decide +kernel
theorem dX6_entry_1 : decode cX6_entry 1 = .ok (.ifCond .lt 12, 3) := by decide +kernel
theorem dX6_entry_4 : decode cX6_entry 4 = .ok (.iload_n 2, 1) := by decide +kernel
theorem dX6_entry_5 : decode cX6_entry 5 = .ok (.iconst 0, 1) := by decide +kernel
theorem dX6_entry_6 : decode cX6_entry 6 = .ok (.iconst 1, 1) := by decide +kernel
theorem dX6_entry_7 : decode cX6_entry 7 = .ok (.invokestatic 135, 3) := by decide +kernel
theorem dX6_entry_10 : decode cX6_entry 10 = .ok (.ifCond .ne 6, 3) := by decide +kernel
theorem dX6_entry_13 : decode cX6_entry 13 = .ok (.bipush (-2), 2) := by decide +kernel
theorem dX6_entry_15 : decode cX6_entry 15 = .ok (.ireturn, 1) := by decide +kernel
theorem dX6_entry_16 : decode cX6_entry 16 = .ok (.aload_n 0, 1) := by decide +kernel
theorem dX6_entry_17 : decode cX6_entry 17 = .ok (.getfield 10, 3) := by decide +kernel
theorem dX6_entry_20 : decode cX6_entry 20 = .ok (.invokevirtual 149, 3) := by decide +kernel
theorem dX6_entry_23 : decode cX6_entry 23 = .ok (.ifCond .ne 6, 3) := by decide +kernel
theorem dX6_entry_26 : decode cX6_entry 26 = .ok (.bipush (-5), 2) := by decide +kernel
theorem dX6_entry_28 : decode cX6_entry 28 = .ok (.ireturn, 1) := by decide +kernel
theorem dX6_entry_29 : decode cX6_entry 29 = .ok (.aload_n 0, 1) := by decide +kernel
theorem dX6_entry_30 : decode cX6_entry 30 = .ok (.getfield 10, 3) := by decide +kernel
theorem dX6_entry_33 : decode cX6_entry 33 = .ok (.getfield 142, 3) := by decide +kernel
theorem dX6_entry_36 : decode cX6_entry 36 = .ok (.getfield 152, 3) := by decide +kernel
theorem dX6_entry_39 : decode cX6_entry 39 = .ok (.astore_n 3, 1) := by decide +kernel
theorem dX6_entry_40 : decode cX6_entry 40 = .ok (.iload_n 2, 1) := by decide +kernel
theorem dX6_entry_41 : decode cX6_entry 41 = .ok (.ifCond .ne 11, 3) := by decide +kernel
theorem dX6_entry_44 : decode cX6_entry 44 = .ok (.aload_n 3, 1) := by decide +kernel
theorem dX6_entry_45 : decode cX6_entry 45 = .ok (.iload_n 1, 1) := by decide +kernel
theorem dX6_entry_46 : decode cX6_entry 46 = .ok (.invokevirtual 156, 3) := by decide +kernel
theorem dX6_entry_49 : decode cX6_entry 49 = .ok (.goto 8, 3) := by decide +kernel
theorem dX6_entry_52 : decode cX6_entry 52 = .ok (.aload_n 3, 1) := by decide +kernel
theorem dX6_entry_53 : decode cX6_entry 53 = .ok (.iload_n 1, 1) := by decide +kernel
theorem dX6_entry_54 : decode cX6_entry 54 = .ok (.invokevirtual 161, 3) := by decide +kernel
theorem dX6_entry_57 : decode cX6_entry 57 = .ok (.ireturn, 1) := by decide +kernel
set_option maxRecDepth 20000 in
theorem ggX6_changed_X6_isKey : GoodIn wsX6_changed wsX6_isKey := goodIn_r _ [4, 5, 6, 3, 7] (by rfl) (by decide +kernel)
set_option maxRecDepth 20000 in
theorem gX6_changed_X6_isKey : GoodIn wsX6_changed (va_wsS RX6 122 yX6_isKey wsX6_isKey) := goodIn_app (goodIn_r _ [1, 2, 3] (by rfl) (by decide +kernel)) ggX6_changed_X6_isKey
set_option maxRecDepth 20000 in
theorem ggX6_changed_X6_isKind : GoodIn wsX6_changed wsX6_isKind := goodIn_r _ [10, 5, 6, 3, 7] (by rfl) (by decide +kernel)
set_option maxRecDepth 20000 in
theorem gX6_changed_X6_isKind : GoodIn wsX6_changed (va_wsS RX6 164 yX6_isKind wsX6_isKind) := goodIn_app (goodIn_r _ [8, 9, 3] (by rfl) (by decide +kernel)) ggX6_changed_X6_isKind
set_option maxRecDepth 20000 in
theorem ggX6_changed_X6_isValue : GoodIn wsX6_changed wsX6_isValue := goodIn_r _ [13, 5, 6, 3, 7] (by rfl) (by decide +kernel)
set_option maxRecDepth 20000 in
theorem gX6_changed_X6_isValue : GoodIn wsX6_changed (va_wsS RX6 167 yX6_isValue wsX6_isValue) := goodIn_app (goodIn_r _ [11, 12, 3] (by rfl) (by decide +kernel)) ggX6_changed_X6_isValue
set_option maxRecDepth 20000 in
theorem ggX6_changed_X6_changedValue : GoodIn wsX6_changed wsX6_changedValue := goodIn_r _ [16] (by rfl) (by decide +kernel)
set_option maxRecDepth 20000 in
theorem gX6_changed_X6_changedValue : GoodIn wsX6_changed (va_wsS RX6 170 yX6_changedValue wsX6_changedValue) := goodIn_app (goodIn_r _ [14, 15, 3] (by rfl) (by decide +kernel)) ggX6_changed_X6_changedValue
theorem dX6_changed_0 : decode cX6_changed 0 = .ok (.iload_n 2, 1) := by decide +kernel
theorem dX6_changed_1 : decode cX6_changed 1 = .ok (.invokestatic 122, 3) := by decide +kernel
theorem dX6_changed_4 : decode cX6_changed 4 = .ok (.ifCond .ne 5, 3) := by decide +kernel
theorem dX6_changed_7 : decode cX6_changed 7 = .ok (.iconst (-1), 1) := by decide +kernel
theorem dX6_changed_8 : decode cX6_changed 8 = .ok (.ireturn, 1) := by decide +kernel
theorem dX6_changed_9 : decode cX6_changed 9 = .ok (.iload_n 1, 1) := by decide +kernel
theorem dX6_changed_10 : decode cX6_changed 10 = .ok (.invokestatic 164, 3) := by decide +kernel
theorem dX6_changed_13 : decode cX6_changed 13 = .ok (.ifCond .eq 10, 3) := by decide +kernel
theorem dX6_changed_16 : decode cX6_changed 16 = .ok (.iload_n 3, 1) := by decide +kernel
theorem dX6_changed_17 : decode cX6_changed 17 = .ok (.invokestatic 167, 3) := by decide +kernel
theorem dX6_changed_20 : decode cX6_changed 20 = .ok (.ifCond .ne 6, 3) := by decide +kernel
theorem dX6_changed_23 : decode cX6_changed 23 = .ok (.bipush (-2), 2) := by decide +kernel
theorem dX6_changed_25 : decode cX6_changed 25 = .ok (.ireturn, 1) := by decide +kernel
theorem dX6_changed_26 : decode cX6_changed 26 = .ok (.iload_n 1, 1) := by decide +kernel
theorem dX6_changed_27 : decode cX6_changed 27 = .ok (.iload_n 2, 1) := by decide +kernel
theorem dX6_changed_28 : decode cX6_changed 28 = .ok (.iload_n 3, 1) := by decide +kernel
theorem dX6_changed_29 : decode cX6_changed 29 = .ok (.invokestatic 170, 3) := by decide +kernel
theorem dX6_changed_32 : decode cX6_changed 32 = .ok (.ireturn, 1) := by decide +kernel
set_option maxRecDepth 20000 in
theorem ggX6_differences_X5_hasCopy : GoodIn wsX6_differences wsX5_hasCopy := goodIn_r _ [6, 7, 28, 29, 30, 31, 32, 33, 34, 35, 36, 37, 38, 39, 40] (by rfl) (by decide +kernel)
set_option maxRecDepth 20000 in
theorem gX6_differences_X5_hasCopy : GoodIn wsX6_differences (wsV RX6 149 RX5 yX5_hasCopy wsX5_hasCopy) := goodIn_app (goodIn_r _ [2, 3, 4, 5] (by rfl) (by decide +kernel)) ggX6_differences_X5_hasCopy
set_option maxRecDepth 20000 in
theorem ggX6_differences_X5_differsAt : GoodIn wsX6_differences wsX5_differsAt := goodIn_r _ [11, 7, 12, 13, 14, 15, 16, 17, 18, 19, 20, 21, 28, 29, 30, 31, 32, 33, 34, 35, 36, 37, 38, 39, 40, 41] (by rfl) (by decide +kernel)
set_option maxRecDepth 20000 in
theorem gX6_differences_X5_differsAt : GoodIn wsX6_differences (wsV RX6 174 RX5 yX5_differsAt wsX5_differsAt) := goodIn_app (goodIn_r _ [8, 9, 10, 5] (by rfl) (by decide +kernel)) ggX6_differences_X5_differsAt
theorem dX6_differences_0 : decode cX6_differences 0 = .ok (.aload_n 0, 1) := by decide +kernel
theorem dX6_differences_1 : decode cX6_differences 1 = .ok (.getfield 10, 3) := by decide +kernel
theorem dX6_differences_4 : decode cX6_differences 4 = .ok (.invokevirtual 149, 3) := by decide +kernel
theorem dX6_differences_7 : decode cX6_differences 7 = .ok (.ifCond .ne 6, 3) := by decide +kernel
theorem dX6_differences_10 : decode cX6_differences 10 = .ok (.bipush (-5), 2) := by decide +kernel
theorem dX6_differences_12 : decode cX6_differences 12 = .ok (.ireturn, 1) := by decide +kernel
theorem dX6_differences_13 : decode cX6_differences 13 = .ok (.iconst 0, 1) := by decide +kernel
theorem dX6_differences_14 : decode cX6_differences 14 = .ok (.istore_n 1, 1) := by decide +kernel
theorem dX6_differences_15 : decode cX6_differences 15 = .ok (.iconst 0, 1) := by decide +kernel
theorem dX6_differences_16 : decode cX6_differences 16 = .ok (.istore_n 2, 1) := by decide +kernel
theorem dX6_differences_17 : decode cX6_differences 17 = .ok (.iload_n 2, 1) := by decide +kernel
theorem dX6_differences_18 : decode cX6_differences 18 = .ok (.bipush 32, 2) := by decide +kernel
theorem dX6_differences_20 : decode cX6_differences 20 = .ok (.if_icmp .ge 23, 3) := by decide +kernel
theorem dX6_differences_23 : decode cX6_differences 23 = .ok (.aload_n 0, 1) := by decide +kernel
theorem dX6_differences_24 : decode cX6_differences 24 = .ok (.getfield 10, 3) := by decide +kernel
theorem dX6_differences_27 : decode cX6_differences 27 = .ok (.iload_n 2, 1) := by decide +kernel
theorem dX6_differences_28 : decode cX6_differences 28 = .ok (.invokevirtual 174, 3) := by decide +kernel
theorem dX6_differences_31 : decode cX6_differences 31 = .ok (.ifCond .eq 6, 3) := by decide +kernel
theorem dX6_differences_34 : decode cX6_differences 34 = .ok (.iinc 1 1, 3) := by decide +kernel
theorem dX6_differences_37 : decode cX6_differences 37 = .ok (.iinc 2 1, 3) := by decide +kernel
theorem dX6_differences_40 : decode cX6_differences 40 = .ok (.goto (-23), 3) := by decide +kernel
theorem dX6_differences_43 : decode cX6_differences 43 = .ok (.iload_n 1, 1) := by decide +kernel
theorem dX6_differences_44 : decode cX6_differences 44 = .ok (.ireturn, 1) := by decide +kernel
set_option maxRecDepth 20000 in
theorem ggX6_firstDifference_X5_hasCopy : GoodIn wsX6_firstDifference wsX5_hasCopy := goodIn_r _ [6, 7, 28, 29, 30, 31, 32, 33, 34, 35, 36, 37, 38, 39, 40] (by rfl) (by decide +kernel)
set_option maxRecDepth 20000 in
theorem gX6_firstDifference_X5_hasCopy : GoodIn wsX6_firstDifference (wsV RX6 149 RX5 yX5_hasCopy wsX5_hasCopy) := goodIn_app (goodIn_r _ [2, 3, 4, 5] (by rfl) (by decide +kernel)) ggX6_firstDifference_X5_hasCopy
set_option maxRecDepth 20000 in
theorem ggX6_firstDifference_X5_differsAt : GoodIn wsX6_firstDifference wsX5_differsAt := goodIn_r _ [11, 7, 12, 13, 14, 15, 16, 17, 18, 19, 20, 21, 28, 29, 30, 31, 32, 33, 34, 35, 36, 37, 38, 39, 40, 41] (by rfl) (by decide +kernel)
set_option maxRecDepth 20000 in
theorem gX6_firstDifference_X5_differsAt : GoodIn wsX6_firstDifference (wsV RX6 174 RX5 yX5_differsAt wsX5_differsAt) := goodIn_app (goodIn_r _ [8, 9, 10, 5] (by rfl) (by decide +kernel)) ggX6_firstDifference_X5_differsAt
theorem dX6_firstDifference_0 : decode cX6_firstDifference 0 = .ok (.aload_n 0, 1) := by decide +kernel
theorem dX6_firstDifference_1 : decode cX6_firstDifference 1 = .ok (.getfield 10, 3) := by decide +kernel
theorem dX6_firstDifference_4 : decode cX6_firstDifference 4 = .ok (.invokevirtual 149, 3) := by decide +kernel
theorem dX6_firstDifference_7 : decode cX6_firstDifference 7 = .ok (.ifCond .ne 6, 3) := by decide +kernel
theorem dX6_firstDifference_10 : decode cX6_firstDifference 10 = .ok (.bipush (-5), 2) := by decide +kernel
theorem dX6_firstDifference_12 : decode cX6_firstDifference 12 = .ok (.ireturn, 1) := by decide +kernel
theorem dX6_firstDifference_13 : decode cX6_firstDifference 13 = .ok (.iconst 0, 1) := by decide +kernel
theorem dX6_firstDifference_14 : decode cX6_firstDifference 14 = .ok (.istore_n 1, 1) := by decide +kernel
theorem dX6_firstDifference_15 : decode cX6_firstDifference 15 = .ok (.iload_n 1, 1) := by decide +kernel
theorem dX6_firstDifference_16 : decode cX6_firstDifference 16 = .ok (.bipush 32, 2) := by decide +kernel
theorem dX6_firstDifference_18 : decode cX6_firstDifference 18 = .ok (.if_icmp .ge 22, 3) := by decide +kernel
theorem dX6_firstDifference_21 : decode cX6_firstDifference 21 = .ok (.aload_n 0, 1) := by decide +kernel
theorem dX6_firstDifference_22 : decode cX6_firstDifference 22 = .ok (.getfield 10, 3) := by decide +kernel
theorem dX6_firstDifference_25 : decode cX6_firstDifference 25 = .ok (.iload_n 1, 1) := by decide +kernel
theorem dX6_firstDifference_26 : decode cX6_firstDifference 26 = .ok (.invokevirtual 174, 3) := by decide +kernel
theorem dX6_firstDifference_29 : decode cX6_firstDifference 29 = .ok (.ifCond .eq 5, 3) := by decide +kernel
theorem dX6_firstDifference_32 : decode cX6_firstDifference 32 = .ok (.iload_n 1, 1) := by decide +kernel
theorem dX6_firstDifference_33 : decode cX6_firstDifference 33 = .ok (.ireturn, 1) := by decide +kernel
theorem dX6_firstDifference_34 : decode cX6_firstDifference 34 = .ok (.iinc 1 1, 3) := by decide +kernel
theorem dX6_firstDifference_37 : decode cX6_firstDifference 37 = .ok (.goto (-22), 3) := by decide +kernel
theorem dX6_firstDifference_40 : decode cX6_firstDifference 40 = .ok (.bipush (-5), 2) := by decide +kernel
theorem dX6_firstDifference_42 : decode cX6_firstDifference 42 = .ok (.ireturn, 1) := by decide +kernel
set_option maxRecDepth 20000 in
theorem ggX6_setting_X6_isSetting : GoodIn wsX6_setting wsX6_isSetting := goodIn_r _ [5, 6, 7, 4, 8] (by rfl) (by decide +kernel)
set_option maxRecDepth 20000 in
theorem gX6_setting_X6_isSetting : GoodIn wsX6_setting (va_wsS RX6 177 yX6_isSetting wsX6_isSetting) := goodIn_app (goodIn_r _ [2, 3, 4] (by rfl) (by decide +kernel)) ggX6_setting_X6_isSetting
theorem dX6_setting_0 : decode cX6_setting 0 = .ok (.iload_n 1, 1) := by decide +kernel
theorem dX6_setting_1 : decode cX6_setting 1 = .ok (.invokestatic 177, 3) := by decide +kernel
theorem dX6_setting_4 : decode cX6_setting 4 = .ok (.ifCond .eq 15, 3) := by decide +kernel
theorem dX6_setting_7 : decode cX6_setting 7 = .ok (.aload_n 0, 1) := by decide +kernel
theorem dX6_setting_8 : decode cX6_setting 8 = .ok (.getfield 10, 3) := by decide +kernel
theorem dX6_setting_11 : decode cX6_setting 11 = .ok (.getfield 180, 3) := by decide +kernel
theorem dX6_setting_14 : decode cX6_setting 14 = .ok (.iload_n 1, 1) := by decide +kernel
theorem dX6_setting_15 : decode cX6_setting 15 = .ok (.iaload, 1) := by decide +kernel
theorem dX6_setting_16 : decode cX6_setting 16 = .ok (.goto 4, 3) := by decide +kernel
theorem dX6_setting_19 : decode cX6_setting 19 = .ok (.iconst (-1), 1) := by decide +kernel
theorem dX6_setting_20 : decode cX6_setting 20 = .ok (.ireturn, 1) := by decide +kernel
set_option maxRecDepth 20000 in
theorem ggX6_total_X6_isIn : GoodIn wsX6_total wsX6_isIn := goodIn_r _ [5] (by rfl) (by decide +kernel)
set_option maxRecDepth 20000 in
theorem gX6_total_X6_isIn : GoodIn wsX6_total (va_wsS RX6 135 yX6_isIn wsX6_isIn) := goodIn_app (goodIn_r _ [2, 3, 4] (by rfl) (by decide +kernel)) ggX6_total_X6_isIn
theorem dX6_total_0 : decode cX6_total 0 = .ok (.iload_n 1, 1) := by decide +kernel
theorem dX6_total_1 : decode cX6_total 1 = .ok (.iconst 0, 1) := by decide +kernel
theorem dX6_total_2 : decode cX6_total 2 = .ok (.bipush 7, 2) := by decide +kernel
theorem dX6_total_4 : decode cX6_total 4 = .ok (.invokestatic 135, 3) := by decide +kernel
theorem dX6_total_7 : decode cX6_total 7 = .ok (.ifCond .eq 15, 3) := by decide +kernel
theorem dX6_total_10 : decode cX6_total 10 = .ok (.aload_n 0, 1) := by decide +kernel
theorem dX6_total_11 : decode cX6_total 11 = .ok (.getfield 10, 3) := by decide +kernel
theorem dX6_total_14 : decode cX6_total 14 = .ok (.getfield 184, 3) := by decide +kernel
theorem dX6_total_17 : decode cX6_total 17 = .ok (.iload_n 1, 1) := by decide +kernel
theorem dX6_total_18 : decode cX6_total 18 = .ok (.iaload, 1) := by decide +kernel
theorem dX6_total_19 : decode cX6_total 19 = .ok (.goto 4, 3) := by decide +kernel
theorem dX6_total_22 : decode cX6_total 22 = .ok (.iconst (-1), 1) := by decide +kernel
theorem dX6_total_23 : decode cX6_total 23 = .ok (.ireturn, 1) := by decide +kernel
theorem dX6_states_0 : decode cX6_states 0 = .ok (.aload_n 0, 1) := by decide +kernel
theorem dX6_states_1 : decode cX6_states 1 = .ok (.getfield 25, 3) := by decide +kernel
theorem dX6_states_4 : decode cX6_states 4 = .ok (.getfield 187, 3) := by decide +kernel
theorem dX6_states_7 : decode cX6_states 7 = .ok (.ireturn, 1) := by decide +kernel
set_option maxRecDepth 20000 in
theorem ggX6_readyIn_X5_canBecomeReady : GoodIn wsX6_readyIn wsX5_canBecomeReady := goodIn_r _ [7, 8, 115, 116, 117, 118, 119, 120, 121, 122, 123, 124, 125, 126, 127] (by rfl) (by decide +kernel)
set_option maxRecDepth 20000 in
theorem gX6_readyIn_X5_canBecomeReady : GoodIn wsX6_readyIn (wsV RX6 190 RX5 yX5_canBecomeReady wsX5_canBecomeReady) := goodIn_app (goodIn_r _ [3, 4, 5, 6] (by rfl) (by decide +kernel)) ggX6_readyIn_X5_canBecomeReady
set_option maxRecDepth 20000 in
theorem ggX6_readyIn_X5_take : GoodIn wsX6_readyIn wsX5_take := goodIn_r _ [12, 13, 14, 15, 8, 16, 17, 18, 19, 20, 21, 22, 23, 24, 25, 26, 27, 28, 29, 30, 31, 32, 33, 34, 35, 36, 37, 38, 39, 40, 41, 42, 43, 44, 45, 46, 47, 48, 49, 50, 51, 115, 116, 117, 118, 119, 120, 128, 121, 122, 123, 124, 125, 126, 127, 129, 130, 131, 132] (by rfl) (by decide +kernel)
set_option maxRecDepth 20000 in
theorem gX6_readyIn_X5_take : GoodIn wsX6_readyIn (wsV RX6 106 RX5 yX5_take wsX5_take) := goodIn_app (goodIn_r _ [9, 10, 11, 6] (by rfl) (by decide +kernel)) ggX6_readyIn_X5_take
set_option maxRecDepth 20000 in
theorem ggX6_readyIn_X5_ticksUntilReady : GoodIn wsX6_readyIn wsX5_ticksUntilReady := goodIn_r _ [55, 8, 56, 57, 58, 6, 59, 21, 60, 61, 62, 63, 64, 65, 66, 67, 16, 68, 69, 70, 71, 72, 73, 74, 45, 75, 51, 47, 76, 77, 78, 79, 50, 80, 81, 82, 83, 49, 84, 85, 86, 87, 88, 89, 25, 90, 27, 91, 92, 93, 94, 95, 96, 97, 98, 13, 99, 100, 101, 102, 103, 104, 105, 32, 106, 39, 37, 34, 107, 108, 115, 116, 117, 118, 119, 120, 121, 122, 123, 124, 125, 126, 127, 129, 130, 131, 132, 128] (by rfl) (by decide +kernel)
set_option maxRecDepth 20000 in
theorem gX6_readyIn_X5_ticksUntilReady : GoodIn wsX6_readyIn (wsV RX6 193 RX5 yX5_ticksUntilReady wsX5_ticksUntilReady) := goodIn_app (goodIn_r _ [52, 53, 54, 6] (by rfl) (by decide +kernel)) ggX6_readyIn_X5_ticksUntilReady
theorem dX6_readyIn_0 : decode cX6_readyIn 0 = .ok (.aload_n 0, 1) := by decide +kernel
theorem dX6_readyIn_1 : decode cX6_readyIn 1 = .ok (.getfield 10, 3) := by decide +kernel
theorem dX6_readyIn_4 : decode cX6_readyIn 4 = .ok (.invokevirtual 190, 3) := by decide +kernel
theorem dX6_readyIn_7 : decode cX6_readyIn 7 = .ok (.ifCond .ne 6, 3) := by decide +kernel
theorem dX6_readyIn_10 : decode cX6_readyIn 10 = .ok (.bipush (-4), 2) := by decide +kernel
theorem dX6_readyIn_12 : decode cX6_readyIn 12 = .ok (.ireturn, 1) := by decide +kernel
theorem dX6_readyIn_13 : decode cX6_readyIn 13 = .ok (.aload_n 0, 1) := by decide +kernel
theorem dX6_readyIn_14 : decode cX6_readyIn 14 = .ok (.getfield 19, 3) := by decide +kernel
theorem dX6_readyIn_17 : decode cX6_readyIn 17 = .ok (.aload_n 0, 1) := by decide +kernel
theorem dX6_readyIn_18 : decode cX6_readyIn 18 = .ok (.getfield 10, 3) := by decide +kernel
theorem dX6_readyIn_21 : decode cX6_readyIn 21 = .ok (.invokevirtual 106, 3) := by decide +kernel
theorem dX6_readyIn_24 : decode cX6_readyIn 24 = .ok (.aload_n 0, 1) := by decide +kernel
theorem dX6_readyIn_25 : decode cX6_readyIn 25 = .ok (.getfield 19, 3) := by decide +kernel
theorem dX6_readyIn_28 : decode cX6_readyIn 28 = .ok (.sipush 200, 3) := by decide +kernel
theorem dX6_readyIn_31 : decode cX6_readyIn 31 = .ok (.invokevirtual 193, 3) := by decide +kernel
theorem dX6_readyIn_34 : decode cX6_readyIn 34 = .ok (.ireturn, 1) := by decide +kernel
set_option maxRecDepth 20000 in
theorem ggX6_leastLot_X6_isTicks : GoodIn wsX6_leastLot wsX6_isTicks := goodIn_r _ [6, 7, 8, 5, 9] (by rfl) (by decide +kernel)
set_option maxRecDepth 20000 in
theorem gX6_leastLot_X6_isTicks : GoodIn wsX6_leastLot (va_wsS RX6 196 yX6_isTicks wsX6_isTicks) := goodIn_app (goodIn_r _ [3, 4, 5] (by rfl) (by decide +kernel)) ggX6_leastLot_X6_isTicks
set_option maxRecDepth 20000 in
theorem ggX6_leastLot_X5_canBecomeReady : GoodIn wsX6_leastLot wsX5_canBecomeReady := goodIn_r _ [14, 15, 121, 122, 123, 124, 125, 126, 127, 128, 129, 130, 131, 132, 133] (by rfl) (by decide +kernel)
set_option maxRecDepth 20000 in
theorem gX6_leastLot_X5_canBecomeReady : GoodIn wsX6_leastLot (wsV RX6 190 RX5 yX5_canBecomeReady wsX5_canBecomeReady) := goodIn_app (goodIn_r _ [10, 11, 12, 13] (by rfl) (by decide +kernel)) ggX6_leastLot_X5_canBecomeReady
set_option maxRecDepth 20000 in
theorem ggX6_leastLot_X5_take : GoodIn wsX6_leastLot wsX5_take := goodIn_r _ [19, 20, 21, 22, 15, 23, 24, 25, 26, 27, 28, 29, 30, 31, 32, 33, 34, 35, 36, 37, 38, 39, 40, 41, 42, 43, 44, 45, 46, 47, 48, 49, 50, 51, 52, 53, 54, 55, 56, 57, 58, 121, 122, 123, 124, 125, 126, 134, 127, 128, 129, 130, 131, 132, 133, 135, 136, 137, 138] (by rfl) (by decide +kernel)
set_option maxRecDepth 20000 in
theorem gX6_leastLot_X5_take : GoodIn wsX6_leastLot (wsV RX6 106 RX5 yX5_take wsX5_take) := goodIn_app (goodIn_r _ [16, 17, 18, 13] (by rfl) (by decide +kernel)) ggX6_leastLot_X5_take
set_option maxRecDepth 20000 in
theorem ggX6_leastLot_X5_ticksUntilReady : GoodIn wsX6_leastLot wsX5_ticksUntilReady := goodIn_r _ [62, 15, 63, 64, 65, 13, 66, 28, 67, 68, 69, 70, 71, 72, 73, 74, 23, 75, 76, 77, 78, 79, 80, 81, 52, 82, 58, 54, 83, 84, 85, 86, 57, 87, 88, 89, 90, 56, 91, 5, 92, 93, 94, 95, 32, 96, 34, 97, 98, 99, 100, 101, 102, 103, 104, 20, 105, 106, 107, 108, 109, 110, 111, 39, 112, 46, 44, 41, 113, 114, 121, 122, 123, 124, 125, 126, 127, 128, 129, 130, 131, 132, 133, 135, 136, 137, 138, 134] (by rfl) (by decide +kernel)
set_option maxRecDepth 20000 in
theorem gX6_leastLot_X5_ticksUntilReady : GoodIn wsX6_leastLot (wsV RX6 193 RX5 yX5_ticksUntilReady wsX5_ticksUntilReady) := goodIn_app (goodIn_r _ [59, 60, 61, 13] (by rfl) (by decide +kernel)) ggX6_leastLot_X5_ticksUntilReady
theorem dX6_leastLot_0 : decode cX6_leastLot 0 = .ok (.iload_n 1, 1) := by decide +kernel
theorem dX6_leastLot_1 : decode cX6_leastLot 1 = .ok (.invokestatic 196, 3) := by decide +kernel
theorem dX6_leastLot_4 : decode cX6_leastLot 4 = .ok (.ifCond .ne 6, 3) := by decide +kernel
theorem dX6_leastLot_7 : decode cX6_leastLot 7 = .ok (.bipush (-2), 2) := by decide +kernel
theorem dX6_leastLot_9 : decode cX6_leastLot 9 = .ok (.ireturn, 1) := by decide +kernel
theorem dX6_leastLot_10 : decode cX6_leastLot 10 = .ok (.aload_n 0, 1) := by decide +kernel
theorem dX6_leastLot_11 : decode cX6_leastLot 11 = .ok (.getfield 10, 3) := by decide +kernel
theorem dX6_leastLot_14 : decode cX6_leastLot 14 = .ok (.invokevirtual 190, 3) := by decide +kernel
theorem dX6_leastLot_17 : decode cX6_leastLot 17 = .ok (.ifCond .ne 6, 3) := by decide +kernel
theorem dX6_leastLot_20 : decode cX6_leastLot 20 = .ok (.bipush (-4), 2) := by decide +kernel
theorem dX6_leastLot_22 : decode cX6_leastLot 22 = .ok (.ireturn, 1) := by decide +kernel
theorem dX6_leastLot_23 : decode cX6_leastLot 23 = .ok (.iconst 1, 1) := by decide +kernel
theorem dX6_leastLot_24 : decode cX6_leastLot 24 = .ok (.istore_n 2, 1) := by decide +kernel
theorem dX6_leastLot_25 : decode cX6_leastLot 25 = .ok (.iload_n 2, 1) := by decide +kernel
theorem dX6_leastLot_26 : decode cX6_leastLot 26 = .ok (.bipush 8, 2) := by decide +kernel
theorem dX6_leastLot_28 : decode cX6_leastLot 28 = .ok (.if_icmp .gt 46, 3) := by decide +kernel
theorem dX6_leastLot_31 : decode cX6_leastLot 31 = .ok (.aload_n 0, 1) := by decide +kernel
theorem dX6_leastLot_32 : decode cX6_leastLot 32 = .ok (.getfield 19, 3) := by decide +kernel
theorem dX6_leastLot_35 : decode cX6_leastLot 35 = .ok (.aload_n 0, 1) := by decide +kernel
theorem dX6_leastLot_36 : decode cX6_leastLot 36 = .ok (.getfield 10, 3) := by decide +kernel
theorem dX6_leastLot_39 : decode cX6_leastLot 39 = .ok (.invokevirtual 106, 3) := by decide +kernel
theorem dX6_leastLot_42 : decode cX6_leastLot 42 = .ok (.aload_n 0, 1) := by decide +kernel
theorem dX6_leastLot_43 : decode cX6_leastLot 43 = .ok (.getfield 19, 3) := by decide +kernel
theorem dX6_leastLot_46 : decode cX6_leastLot 46 = .ok (.getfield 142, 3) := by decide +kernel
theorem dX6_leastLot_49 : decode cX6_leastLot 49 = .ok (.iload_n 2, 1) := by decide +kernel
theorem dX6_leastLot_50 : decode cX6_leastLot 50 = .ok (.putfield 199, 3) := by decide +kernel
theorem dX6_leastLot_53 : decode cX6_leastLot 53 = .ok (.aload_n 0, 1) := by decide +kernel
theorem dX6_leastLot_54 : decode cX6_leastLot 54 = .ok (.getfield 19, 3) := by decide +kernel
theorem dX6_leastLot_57 : decode cX6_leastLot 57 = .ok (.iload_n 1, 1) := by decide +kernel
theorem dX6_leastLot_58 : decode cX6_leastLot 58 = .ok (.invokevirtual 193, 3) := by decide +kernel
theorem dX6_leastLot_61 : decode cX6_leastLot 61 = .ok (.bipush (-5), 2) := by decide +kernel
theorem dX6_leastLot_63 : decode cX6_leastLot 63 = .ok (.if_icmp .eq 5, 3) := by decide +kernel
theorem dX6_leastLot_66 : decode cX6_leastLot 66 = .ok (.iload_n 2, 1) := by decide +kernel
theorem dX6_leastLot_67 : decode cX6_leastLot 67 = .ok (.ireturn, 1) := by decide +kernel
theorem dX6_leastLot_68 : decode cX6_leastLot 68 = .ok (.iinc 2 1, 3) := by decide +kernel
theorem dX6_leastLot_71 : decode cX6_leastLot 71 = .ok (.goto (-46), 3) := by decide +kernel
theorem dX6_leastLot_74 : decode cX6_leastLot 74 = .ok (.bipush (-5), 2) := by decide +kernel
theorem dX6_leastLot_76 : decode cX6_leastLot 76 = .ok (.ireturn, 1) := by decide +kernel
set_option maxRecDepth 20000 in
theorem ggX6_progress_X5_hasCopy : GoodIn wsX6_progress wsX5_hasCopy := goodIn_r _ [7, 8, 15, 16, 17, 18, 19, 20, 21, 22, 23, 24, 25, 26, 27] (by rfl) (by decide +kernel)
set_option maxRecDepth 20000 in
theorem gX6_progress_X5_hasCopy : GoodIn wsX6_progress (wsV RX6 149 RX5 yX5_hasCopy wsX5_hasCopy) := goodIn_app (goodIn_r _ [3, 4, 5, 6] (by rfl) (by decide +kernel)) ggX6_progress_X5_hasCopy
theorem dX6_progress_0 : decode cX6_progress 0 = .ok (.aload_n 0, 1) := by decide +kernel
theorem dX6_progress_1 : decode cX6_progress 1 = .ok (.getfield 10, 3) := by decide +kernel
theorem dX6_progress_4 : decode cX6_progress 4 = .ok (.invokevirtual 149, 3) := by decide +kernel
theorem dX6_progress_7 : decode cX6_progress 7 = .ok (.ifCond .eq 21, 3) := by decide +kernel
theorem dX6_progress_10 : decode cX6_progress 10 = .ok (.aload_n 0, 1) := by decide +kernel
theorem dX6_progress_11 : decode cX6_progress 11 = .ok (.getfield 10, 3) := by decide +kernel
theorem dX6_progress_14 : decode cX6_progress 14 = .ok (.getfield 142, 3) := by decide +kernel
theorem dX6_progress_17 : decode cX6_progress 17 = .ok (.getfield 202, 3) := by decide +kernel
theorem dX6_progress_20 : decode cX6_progress 20 = .ok (.i2d, 1) := by decide +kernel
theorem dX6_progress_21 : decode cX6_progress 21 = .ok (.ldc2_w 205, 3) := by decide +kernel
theorem dX6_progress_24 : decode cX6_progress 24 = .ok (.ddiv, 1) := by decide +kernel
theorem dX6_progress_25 : decode cX6_progress 25 = .ok (.goto 4, 3) := by decide +kernel
theorem dX6_progress_28 : decode cX6_progress 28 = .ok (.dconst 0, 1) := by decide +kernel
theorem dX6_progress_29 : decode cX6_progress 29 = .ok (.dreturn, 1) := by decide +kernel
set_option maxRecDepth 20000 in
theorem ggX6_recorded_X6_isError : GoodIn wsX6_recorded wsX6_isError := goodIn_r _ [5] (by rfl) (by decide +kernel)
set_option maxRecDepth 20000 in
theorem gX6_recorded_X6_isError : GoodIn wsX6_recorded (va_wsS RX6 95 yX6_isError wsX6_isError) := goodIn_app (goodIn_r _ [2, 3, 4] (by rfl) (by decide +kernel)) ggX6_recorded_X6_isError
set_option maxRecDepth 20000 in
theorem ggX6_recorded_X1_keepPrepared : GoodIn wsX6_recorded wsX1_keepPrepared := goodIn_r _ [10, 11, 12, 13, 14, 15, 9, 16, 23, 24, 25] (by rfl) (by decide +kernel)
set_option maxRecDepth 20000 in
theorem gX6_recorded_X1_keepPrepared : GoodIn wsX6_recorded (wsV RX6 82 RX1 yX1_keepPrepared wsX1_keepPrepared) := goodIn_app (goodIn_r _ [6, 7, 8, 9] (by rfl) (by decide +kernel)) ggX6_recorded_X1_keepPrepared
theorem dX6_recorded_0 : decode cX6_recorded 0 = .ok (.iload_n 1, 1) := by decide +kernel
theorem dX6_recorded_1 : decode cX6_recorded 1 = .ok (.invokestatic 95, 3) := by decide +kernel
theorem dX6_recorded_4 : decode cX6_recorded 4 = .ok (.ifCond .ne 10, 3) := by decide +kernel
theorem dX6_recorded_7 : decode cX6_recorded 7 = .ok (.aload_n 0, 1) := by decide +kernel
theorem dX6_recorded_8 : decode cX6_recorded 8 = .ok (.getfield 25, 3) := by decide +kernel
theorem dX6_recorded_11 : decode cX6_recorded 11 = .ok (.invokevirtual 82, 3) := by decide +kernel
theorem dX6_recorded_14 : decode cX6_recorded 14 = .ok (.iload_n 1, 1) := by decide +kernel
theorem dX6_recorded_15 : decode cX6_recorded 15 = .ok (.ireturn, 1) := by decide +kernel
set_option maxRecDepth 20000 in
theorem ggX6_carryOutOrder_X5_putRow : GoodIn wsX6_carryOutOrder wsX5_putRow := goodIn_r _ [7, 8, 9, 10, 11, 12, 13, 14, 15, 16, 17, 18, 19, 6, 20, 21, 22, 23, 24, 25, 26, 27, 28, 29, 30, 31, 32, 33, 34, 35, 36, 37, 38, 39, 40, 41, 42, 43, 44, 45, 46, 47, 48, 49, 50, 51, 52, 53, 54, 175, 176, 177, 178, 179, 180, 181, 182, 183, 184, 185, 186, 187, 188, 189, 190, 191, 192] (by rfl) (by decide +kernel)
set_option maxRecDepth 20000 in
theorem gX6_carryOutOrder_X5_putRow : GoodIn wsX6_carryOutOrder (wsV RX6 40 RX5 yX5_putRow wsX5_putRow) := goodIn_app (goodIn_r _ [3, 4, 5, 6] (by rfl) (by decide +kernel)) ggX6_carryOutOrder_X5_putRow
set_option maxRecDepth 20000 in
theorem ggX6_carryOutOrder_X5_eraseRow : GoodIn wsX6_carryOutOrder wsX5_eraseRow := goodIn_r _ [58, 8, 22, 9, 10, 11, 12, 13, 14, 45, 46, 47, 48, 49, 50, 17, 18, 19, 6, 20, 21, 23, 24, 25, 26, 27, 28, 29, 30, 31, 32, 33, 34, 35, 36, 37, 38, 39, 40, 41, 42, 43, 44, 51, 52, 53, 54, 175, 176, 177, 178, 179, 180, 181, 182, 183, 184, 185, 186, 187, 192, 188, 189, 190, 191] (by rfl) (by decide +kernel)
set_option maxRecDepth 20000 in
theorem gX6_carryOutOrder_X5_eraseRow : GoodIn wsX6_carryOutOrder (wsV RX6 48 RX5 yX5_eraseRow wsX5_eraseRow) := goodIn_app (goodIn_r _ [55, 56, 57, 6] (by rfl) (by decide +kernel)) ggX6_carryOutOrder_X5_eraseRow
set_option maxRecDepth 20000 in
theorem ggX6_carryOutOrder_X5_beginCopy : GoodIn wsX6_carryOutOrder wsX5_beginCopy := goodIn_r _ [62, 8, 44, 22, 63, 10, 64, 12, 13, 14, 65, 66, 23, 24, 25, 6, 26, 67, 68, 69, 70, 71, 72, 73, 74, 75, 76, 77, 78, 79, 80, 48, 81, 50, 82, 83, 84, 85, 86, 87, 88, 30, 89, 39, 32, 90, 91, 92, 93, 175, 176, 177, 178, 179, 180, 181, 182, 183, 184, 185, 186, 187, 192, 188, 189, 190, 191] (by rfl) (by decide +kernel)
set_option maxRecDepth 20000 in
theorem gX6_carryOutOrder_X5_beginCopy : GoodIn wsX6_carryOutOrder (wsV RX6 51 RX5 yX5_beginCopy wsX5_beginCopy) := goodIn_app (goodIn_r _ [59, 60, 61, 6] (by rfl) (by decide +kernel)) ggX6_carryOutOrder_X5_beginCopy
set_option maxRecDepth 20000 in
theorem ggX6_carryOutOrder_X5_makeTicks : GoodIn wsX6_carryOutOrder wsX5_makeTicks := goodIn_r _ [97, 8, 98, 10, 99, 12, 13, 14, 100, 101, 102, 6, 103, 44, 23, 24, 25, 26, 104, 105, 106, 107, 21, 108, 109, 110, 111, 112, 113, 114, 30, 115, 32, 33, 35, 36, 37, 38, 39, 116, 117, 118, 119, 34, 120, 121, 51, 52, 53, 48, 54, 50, 122, 123, 124, 125, 126, 127, 128, 129, 22, 45, 46, 47, 49, 130, 131, 132, 70, 133, 77, 75, 72, 134, 135, 175, 176, 177, 178, 179, 180, 181, 182, 183, 184, 185, 186, 187, 188, 189, 190, 191, 192] (by rfl) (by decide +kernel)
set_option maxRecDepth 20000 in
theorem gX6_carryOutOrder_X5_makeTicks : GoodIn wsX6_carryOutOrder (wsV RX6 54 RX5 yX5_makeTicks wsX5_makeTicks) := goodIn_app (goodIn_r _ [94, 95, 96, 6] (by rfl) (by decide +kernel)) ggX6_carryOutOrder_X5_makeTicks
set_option maxRecDepth 20000 in
theorem ggX6_carryOutOrder_X5_lockLive : GoodIn wsX6_carryOutOrder wsX5_lockLive := goodIn_r _ [139, 8, 175, 176, 177, 178, 179, 180, 181, 182, 183, 184, 185, 186, 187, 188, 189, 190, 191] (by rfl) (by decide +kernel)
set_option maxRecDepth 20000 in
theorem gX6_carryOutOrder_X5_lockLive : GoodIn wsX6_carryOutOrder (wsV RX6 57 RX5 yX5_lockLive wsX5_lockLive) := goodIn_app (goodIn_r _ [136, 137, 138, 6] (by rfl) (by decide +kernel)) ggX6_carryOutOrder_X5_lockLive
set_option maxRecDepth 20000 in
theorem ggX6_carryOutOrder_X5_unlockLive : GoodIn wsX6_carryOutOrder wsX5_unlockLive := goodIn_r _ [143, 8, 175, 176, 177, 178, 179, 180, 181, 182, 183, 184, 185, 186, 187] (by rfl) (by decide +kernel)
set_option maxRecDepth 20000 in
theorem gX6_carryOutOrder_X5_unlockLive : GoodIn wsX6_carryOutOrder (wsV RX6 61 RX5 yX5_unlockLive wsX5_unlockLive) := goodIn_app (goodIn_r _ [140, 141, 142, 6] (by rfl) (by decide +kernel)) ggX6_carryOutOrder_X5_unlockLive
set_option maxRecDepth 20000 in
theorem ggX6_carryOutOrder_X5_swapTables : GoodIn wsX6_carryOutOrder wsX5_swapTables := goodIn_r _ [147, 8, 148, 22, 149, 44, 150, 151, 152, 48, 153, 50, 154, 155, 156, 157, 90, 91, 92, 93, 175, 176, 177, 178, 179, 180, 181, 182, 183, 184, 185, 186, 187, 188, 189, 190, 191, 192] (by rfl) (by decide +kernel)
set_option maxRecDepth 20000 in
theorem gX6_carryOutOrder_X5_swapTables : GoodIn wsX6_carryOutOrder (wsV RX6 64 RX5 yX5_swapTables wsX5_swapTables) := goodIn_app (goodIn_r _ [144, 145, 146, 6] (by rfl) (by decide +kernel)) ggX6_carryOutOrder_X5_swapTables
set_option maxRecDepth 20000 in
theorem ggX6_carryOutOrder_X5_giveCopyUp : GoodIn wsX6_carryOutOrder wsX5_giveCopyUp := goodIn_r _ [161, 8, 23, 24, 25, 6, 26, 40, 41, 42, 43, 44, 90, 91, 92, 48, 93, 50, 175, 176, 177, 178, 179, 180, 181, 182, 183, 184, 185, 186, 187, 192] (by rfl) (by decide +kernel)
set_option maxRecDepth 20000 in
theorem gX6_carryOutOrder_X5_giveCopyUp : GoodIn wsX6_carryOutOrder (wsV RX6 67 RX5 yX5_giveCopyUp wsX5_giveCopyUp) := goodIn_app (goodIn_r _ [158, 159, 160, 6] (by rfl) (by decide +kernel)) ggX6_carryOutOrder_X5_giveCopyUp
theorem dX6_carryOutOrder_0 : decode cX6_carryOutOrder 0 = .ok (.aload_n 0, 1) := by decide +kernel
theorem dX6_carryOutOrder_1 : decode cX6_carryOutOrder 1 = .ok (.getfield 32, 3) := by decide +kernel
theorem dX6_carryOutOrder_4 : decode cX6_carryOutOrder 4 = .ok (.getfield 207, 3) := by decide +kernel
theorem dX6_carryOutOrder_7 : decode cX6_carryOutOrder 7 = .ok (.tableswitch 191 98 117 #[130, 191, 191, 115, 191, 191, 191, 191, 191, 191, 167, 191, 191, 191, 93, 191, 191, 183, 152, 175], 93) := by decide +kernel
theorem dX6_carryOutOrder_100 : decode cX6_carryOutOrder 100 = .ok (.aload_n 0, 1) := by decide +kernel
theorem dX6_carryOutOrder_101 : decode cX6_carryOutOrder 101 = .ok (.getfield 10, 3) := by decide +kernel
theorem dX6_carryOutOrder_104 : decode cX6_carryOutOrder 104 = .ok (.aload_n 0, 1) := by decide +kernel
theorem dX6_carryOutOrder_105 : decode cX6_carryOutOrder 105 = .ok (.getfield 32, 3) := by decide +kernel
theorem dX6_carryOutOrder_108 : decode cX6_carryOutOrder 108 = .ok (.getfield 210, 3) := by decide +kernel
theorem dX6_carryOutOrder_111 : decode cX6_carryOutOrder 111 = .ok (.aload_n 0, 1) := by decide +kernel
theorem dX6_carryOutOrder_112 : decode cX6_carryOutOrder 112 = .ok (.getfield 32, 3) := by decide +kernel
theorem dX6_carryOutOrder_115 : decode cX6_carryOutOrder 115 = .ok (.getfield 213, 3) := by decide +kernel
theorem dX6_carryOutOrder_118 : decode cX6_carryOutOrder 118 = .ok (.invokevirtual 40, 3) := by decide +kernel
theorem dX6_carryOutOrder_121 : decode cX6_carryOutOrder 121 = .ok (.ireturn, 1) := by decide +kernel
theorem dX6_carryOutOrder_122 : decode cX6_carryOutOrder 122 = .ok (.aload_n 0, 1) := by decide +kernel
theorem dX6_carryOutOrder_123 : decode cX6_carryOutOrder 123 = .ok (.getfield 10, 3) := by decide +kernel
theorem dX6_carryOutOrder_126 : decode cX6_carryOutOrder 126 = .ok (.aload_n 0, 1) := by decide +kernel
theorem dX6_carryOutOrder_127 : decode cX6_carryOutOrder 127 = .ok (.getfield 32, 3) := by decide +kernel
theorem dX6_carryOutOrder_130 : decode cX6_carryOutOrder 130 = .ok (.getfield 210, 3) := by decide +kernel
theorem dX6_carryOutOrder_133 : decode cX6_carryOutOrder 133 = .ok (.invokevirtual 48, 3) := by decide +kernel
theorem dX6_carryOutOrder_136 : decode cX6_carryOutOrder 136 = .ok (.ireturn, 1) := by decide +kernel
theorem dX6_carryOutOrder_137 : decode cX6_carryOutOrder 137 = .ok (.aload_n 0, 1) := by decide +kernel
theorem dX6_carryOutOrder_138 : decode cX6_carryOutOrder 138 = .ok (.getfield 10, 3) := by decide +kernel
theorem dX6_carryOutOrder_141 : decode cX6_carryOutOrder 141 = .ok (.aload_n 0, 1) := by decide +kernel
theorem dX6_carryOutOrder_142 : decode cX6_carryOutOrder 142 = .ok (.getfield 32, 3) := by decide +kernel
theorem dX6_carryOutOrder_145 : decode cX6_carryOutOrder 145 = .ok (.getfield 210, 3) := by decide +kernel
theorem dX6_carryOutOrder_148 : decode cX6_carryOutOrder 148 = .ok (.aload_n 0, 1) := by decide +kernel
theorem dX6_carryOutOrder_149 : decode cX6_carryOutOrder 149 = .ok (.getfield 32, 3) := by decide +kernel
theorem dX6_carryOutOrder_152 : decode cX6_carryOutOrder 152 = .ok (.getfield 213, 3) := by decide +kernel
theorem dX6_carryOutOrder_155 : decode cX6_carryOutOrder 155 = .ok (.invokevirtual 51, 3) := by decide +kernel
theorem dX6_carryOutOrder_158 : decode cX6_carryOutOrder 158 = .ok (.ireturn, 1) := by decide +kernel
theorem dX6_carryOutOrder_159 : decode cX6_carryOutOrder 159 = .ok (.aload_n 0, 1) := by decide +kernel
theorem dX6_carryOutOrder_160 : decode cX6_carryOutOrder 160 = .ok (.getfield 10, 3) := by decide +kernel
theorem dX6_carryOutOrder_163 : decode cX6_carryOutOrder 163 = .ok (.aload_n 0, 1) := by decide +kernel
theorem dX6_carryOutOrder_164 : decode cX6_carryOutOrder 164 = .ok (.getfield 32, 3) := by decide +kernel
theorem dX6_carryOutOrder_167 : decode cX6_carryOutOrder 167 = .ok (.getfield 210, 3) := by decide +kernel
theorem dX6_carryOutOrder_170 : decode cX6_carryOutOrder 170 = .ok (.invokevirtual 54, 3) := by decide +kernel
theorem dX6_carryOutOrder_173 : decode cX6_carryOutOrder 173 = .ok (.ireturn, 1) := by decide +kernel
theorem dX6_carryOutOrder_174 : decode cX6_carryOutOrder 174 = .ok (.aload_n 0, 1) := by decide +kernel
theorem dX6_carryOutOrder_175 : decode cX6_carryOutOrder 175 = .ok (.getfield 10, 3) := by decide +kernel
theorem dX6_carryOutOrder_178 : decode cX6_carryOutOrder 178 = .ok (.invokevirtual 57, 3) := by decide +kernel
theorem dX6_carryOutOrder_181 : decode cX6_carryOutOrder 181 = .ok (.ireturn, 1) := by decide +kernel
theorem dX6_carryOutOrder_182 : decode cX6_carryOutOrder 182 = .ok (.aload_n 0, 1) := by decide +kernel
theorem dX6_carryOutOrder_183 : decode cX6_carryOutOrder 183 = .ok (.getfield 10, 3) := by decide +kernel
theorem dX6_carryOutOrder_186 : decode cX6_carryOutOrder 186 = .ok (.invokevirtual 61, 3) := by decide +kernel
theorem dX6_carryOutOrder_189 : decode cX6_carryOutOrder 189 = .ok (.ireturn, 1) := by decide +kernel
theorem dX6_carryOutOrder_190 : decode cX6_carryOutOrder 190 = .ok (.aload_n 0, 1) := by decide +kernel
theorem dX6_carryOutOrder_191 : decode cX6_carryOutOrder 191 = .ok (.getfield 10, 3) := by decide +kernel
theorem dX6_carryOutOrder_194 : decode cX6_carryOutOrder 194 = .ok (.invokevirtual 64, 3) := by decide +kernel
theorem dX6_carryOutOrder_197 : decode cX6_carryOutOrder 197 = .ok (.ireturn, 1) := by decide +kernel
theorem dX6_carryOutOrder_198 : decode cX6_carryOutOrder 198 = .ok (.aload_n 0, 1) := by decide +kernel
theorem dX6_carryOutOrder_199 : decode cX6_carryOutOrder 199 = .ok (.getfield 10, 3) := by decide +kernel
theorem dX6_carryOutOrder_202 : decode cX6_carryOutOrder 202 = .ok (.invokevirtual 67, 3) := by decide +kernel
theorem dX6_carryOutOrder_205 : decode cX6_carryOutOrder 205 = .ok (.ireturn, 1) := by decide +kernel
theorem dX6_isError_0 : decode cX6_isError 0 = .ok (.iload_n 0, 1) := by decide +kernel
theorem dX6_isError_1 : decode cX6_isError 1 = .ok (.ifCond .ge 13, 3) := by decide +kernel
theorem dX6_isError_4 : decode cX6_isError 4 = .ok (.iload_n 0, 1) := by decide +kernel
theorem dX6_isError_5 : decode cX6_isError 5 = .ok (.bipush (-5), 2) := by decide +kernel
theorem dX6_isError_7 : decode cX6_isError 7 = .ok (.if_icmp .eq 7, 3) := by decide +kernel
theorem dX6_isError_10 : decode cX6_isError 10 = .ok (.iconst 1, 1) := by decide +kernel
theorem dX6_isError_11 : decode cX6_isError 11 = .ok (.goto 4, 3) := by decide +kernel
theorem dX6_isError_14 : decode cX6_isError 14 = .ok (.iconst 0, 1) := by decide +kernel
theorem dX6_isError_15 : decode cX6_isError 15 = .ok (.ireturn, 1) := by decide +kernel
theorem dX6_isIn_0 : decode cX6_isIn 0 = .ok (.iload_n 0, 1) := by decide +kernel
theorem dX6_isIn_1 : decode cX6_isIn 1 = .ok (.iload_n 1, 1) := by decide +kernel
theorem dX6_isIn_2 : decode cX6_isIn 2 = .ok (.if_icmp .lt 12, 3) := by decide +kernel
theorem dX6_isIn_5 : decode cX6_isIn 5 = .ok (.iload_n 0, 1) := by decide +kernel
theorem dX6_isIn_6 : decode cX6_isIn 6 = .ok (.iload_n 2, 1) := by decide +kernel
theorem dX6_isIn_7 : decode cX6_isIn 7 = .ok (.if_icmp .gt 7, 3) := by decide +kernel
theorem dX6_isIn_10 : decode cX6_isIn 10 = .ok (.iconst 1, 1) := by decide +kernel
theorem dX6_isIn_11 : decode cX6_isIn 11 = .ok (.goto 4, 3) := by decide +kernel
theorem dX6_isIn_14 : decode cX6_isIn 14 = .ok (.iconst 0, 1) := by decide +kernel
theorem dX6_isIn_15 : decode cX6_isIn 15 = .ok (.ireturn, 1) := by decide +kernel
set_option maxRecDepth 20000 in
theorem ggX6_isKey_X6_isIn : GoodIn wsX6_isKey wsX6_isIn := goodIn_r _ [4] (by rfl) (by decide +kernel)
set_option maxRecDepth 20000 in
theorem gX6_isKey_X6_isIn : GoodIn wsX6_isKey (va_wsS RX6 135 yX6_isIn wsX6_isIn) := goodIn_app (goodIn_r _ [1, 2, 3] (by rfl) (by decide +kernel)) ggX6_isKey_X6_isIn
theorem dX6_isKey_0 : decode cX6_isKey 0 = .ok (.iload_n 0, 1) := by decide +kernel
theorem dX6_isKey_1 : decode cX6_isKey 1 = .ok (.iconst 0, 1) := by decide +kernel
theorem dX6_isKey_2 : decode cX6_isKey 2 = .ok (.bipush 31, 2) := by decide +kernel
theorem dX6_isKey_4 : decode cX6_isKey 4 = .ok (.invokestatic 135, 3) := by decide +kernel
theorem dX6_isKey_7 : decode cX6_isKey 7 = .ok (.ireturn, 1) := by decide +kernel
set_option maxRecDepth 20000 in
theorem ggX6_isValue_X6_isIn : GoodIn wsX6_isValue wsX6_isIn := goodIn_r _ [4] (by rfl) (by decide +kernel)
set_option maxRecDepth 20000 in
theorem gX6_isValue_X6_isIn : GoodIn wsX6_isValue (va_wsS RX6 135 yX6_isIn wsX6_isIn) := goodIn_app (goodIn_r _ [1, 2, 3] (by rfl) (by decide +kernel)) ggX6_isValue_X6_isIn
theorem dX6_isValue_0 : decode cX6_isValue 0 = .ok (.iload_n 0, 1) := by decide +kernel
theorem dX6_isValue_1 : decode cX6_isValue 1 = .ok (.iconst 0, 1) := by decide +kernel
theorem dX6_isValue_2 : decode cX6_isValue 2 = .ok (.bipush 99, 2) := by decide +kernel
theorem dX6_isValue_4 : decode cX6_isValue 4 = .ok (.invokestatic 135, 3) := by decide +kernel
theorem dX6_isValue_7 : decode cX6_isValue 7 = .ok (.ireturn, 1) := by decide +kernel
set_option maxRecDepth 20000 in
theorem ggX6_isKind_X6_isIn : GoodIn wsX6_isKind wsX6_isIn := goodIn_r _ [4] (by rfl) (by decide +kernel)
set_option maxRecDepth 20000 in
theorem gX6_isKind_X6_isIn : GoodIn wsX6_isKind (va_wsS RX6 135 yX6_isIn wsX6_isIn) := goodIn_app (goodIn_r _ [1, 2, 3] (by rfl) (by decide +kernel)) ggX6_isKind_X6_isIn
theorem dX6_isKind_0 : decode cX6_isKind 0 = .ok (.iload_n 0, 1) := by decide +kernel
theorem dX6_isKind_1 : decode cX6_isKind 1 = .ok (.iconst 0, 1) := by decide +kernel
theorem dX6_isKind_2 : decode cX6_isKind 2 = .ok (.iconst 4, 1) := by decide +kernel
theorem dX6_isKind_3 : decode cX6_isKind 3 = .ok (.invokestatic 135, 3) := by decide +kernel
theorem dX6_isKind_6 : decode cX6_isKind 6 = .ok (.ireturn, 1) := by decide +kernel
set_option maxRecDepth 20000 in
theorem ggX6_isLot_X6_isIn : GoodIn wsX6_isLot wsX6_isIn := goodIn_r _ [4] (by rfl) (by decide +kernel)
set_option maxRecDepth 20000 in
theorem gX6_isLot_X6_isIn : GoodIn wsX6_isLot (va_wsS RX6 135 yX6_isIn wsX6_isIn) := goodIn_app (goodIn_r _ [1, 2, 3] (by rfl) (by decide +kernel)) ggX6_isLot_X6_isIn
theorem dX6_isLot_0 : decode cX6_isLot 0 = .ok (.iload_n 0, 1) := by decide +kernel
theorem dX6_isLot_1 : decode cX6_isLot 1 = .ok (.iconst 1, 1) := by decide +kernel
theorem dX6_isLot_2 : decode cX6_isLot 2 = .ok (.bipush 8, 2) := by decide +kernel
theorem dX6_isLot_4 : decode cX6_isLot 4 = .ok (.invokestatic 135, 3) := by decide +kernel
theorem dX6_isLot_7 : decode cX6_isLot 7 = .ok (.ireturn, 1) := by decide +kernel
set_option maxRecDepth 20000 in
theorem ggX6_isTicks_X6_isIn : GoodIn wsX6_isTicks wsX6_isIn := goodIn_r _ [4] (by rfl) (by decide +kernel)
set_option maxRecDepth 20000 in
theorem gX6_isTicks_X6_isIn : GoodIn wsX6_isTicks (va_wsS RX6 135 yX6_isIn wsX6_isIn) := goodIn_app (goodIn_r _ [1, 2, 3] (by rfl) (by decide +kernel)) ggX6_isTicks_X6_isIn
theorem dX6_isTicks_0 : decode cX6_isTicks 0 = .ok (.iload_n 0, 1) := by decide +kernel
theorem dX6_isTicks_1 : decode cX6_isTicks 1 = .ok (.iconst 1, 1) := by decide +kernel
theorem dX6_isTicks_2 : decode cX6_isTicks 2 = .ok (.bipush 99, 2) := by decide +kernel
theorem dX6_isTicks_4 : decode cX6_isTicks 4 = .ok (.invokestatic 135, 3) := by decide +kernel
theorem dX6_isTicks_7 : decode cX6_isTicks 7 = .ok (.ireturn, 1) := by decide +kernel
set_option maxRecDepth 20000 in
theorem ggX6_isTable_X6_isIn : GoodIn wsX6_isTable wsX6_isIn := goodIn_r _ [4] (by rfl) (by decide +kernel)
set_option maxRecDepth 20000 in
theorem gX6_isTable_X6_isIn : GoodIn wsX6_isTable (va_wsS RX6 135 yX6_isIn wsX6_isIn) := goodIn_app (goodIn_r _ [1, 2, 3] (by rfl) (by decide +kernel)) ggX6_isTable_X6_isIn
theorem dX6_isTable_0 : decode cX6_isTable 0 = .ok (.iload_n 0, 1) := by decide +kernel
theorem dX6_isTable_1 : decode cX6_isTable 1 = .ok (.iconst 0, 1) := by decide +kernel
theorem dX6_isTable_2 : decode cX6_isTable 2 = .ok (.iconst 2, 1) := by decide +kernel
theorem dX6_isTable_3 : decode cX6_isTable 3 = .ok (.invokestatic 135, 3) := by decide +kernel
theorem dX6_isTable_6 : decode cX6_isTable 6 = .ok (.ireturn, 1) := by decide +kernel
set_option maxRecDepth 20000 in
theorem ggX6_isSetting_X6_isIn : GoodIn wsX6_isSetting wsX6_isIn := goodIn_r _ [4] (by rfl) (by decide +kernel)
set_option maxRecDepth 20000 in
theorem gX6_isSetting_X6_isIn : GoodIn wsX6_isSetting (va_wsS RX6 135 yX6_isIn wsX6_isIn) := goodIn_app (goodIn_r _ [1, 2, 3] (by rfl) (by decide +kernel)) ggX6_isSetting_X6_isIn
theorem dX6_isSetting_0 : decode cX6_isSetting 0 = .ok (.iload_n 0, 1) := by decide +kernel
theorem dX6_isSetting_1 : decode cX6_isSetting 1 = .ok (.iconst 0, 1) := by decide +kernel
theorem dX6_isSetting_2 : decode cX6_isSetting 2 = .ok (.iconst 3, 1) := by decide +kernel
theorem dX6_isSetting_3 : decode cX6_isSetting 3 = .ok (.invokestatic 135, 3) := by decide +kernel
theorem dX6_isSetting_6 : decode cX6_isSetting 6 = .ok (.ireturn, 1) := by decide +kernel
theorem dX6_changedValue_0 : decode cX6_changedValue 0 = .ok (.iload_n 2, 1) := by decide +kernel
theorem dX6_changedValue_1 : decode cX6_changedValue 1 = .ok (.bipush (-5), 2) := by decide +kernel
theorem dX6_changedValue_3 : decode cX6_changedValue 3 = .ok (.if_icmp .ne 6, 3) := by decide +kernel
theorem dX6_changedValue_6 : decode cX6_changedValue 6 = .ok (.bipush (-5), 2) := by decide +kernel
theorem dX6_changedValue_8 : decode cX6_changedValue 8 = .ok (.ireturn, 1) := by decide +kernel
theorem dX6_changedValue_9 : decode cX6_changedValue 9 = .ok (.iload_n 0, 1) := by decide +kernel
theorem dX6_changedValue_10 : decode cX6_changedValue 10 = .ok (.tableswitch 70 1 4 #[30, 37, 50, 63], 30) := by decide +kernel
theorem dX6_changedValue_40 : decode cX6_changedValue 40 = .ok (.iconst 2, 1) := by decide +kernel
theorem dX6_changedValue_41 : decode cX6_changedValue 41 = .ok (.iload_n 2, 1) := by decide +kernel
theorem dX6_changedValue_42 : decode cX6_changedValue 42 = .ok (.imul, 1) := by decide +kernel
theorem dX6_changedValue_43 : decode cX6_changedValue 43 = .ok (.bipush 100, 2) := by decide +kernel
theorem dX6_changedValue_45 : decode cX6_changedValue 45 = .ok (.irem, 1) := by decide +kernel
theorem dX6_changedValue_46 : decode cX6_changedValue 46 = .ok (.ireturn, 1) := by decide +kernel
theorem dX6_changedValue_47 : decode cX6_changedValue 47 = .ok (.iload_n 2, 1) := by decide +kernel
theorem dX6_changedValue_48 : decode cX6_changedValue 48 = .ok (.bipush 10, 2) := by decide +kernel
theorem dX6_changedValue_50 : decode cX6_changedValue 50 = .ok (.irem, 1) := by decide +kernel
theorem dX6_changedValue_51 : decode cX6_changedValue 51 = .ok (.bipush 10, 2) := by decide +kernel
theorem dX6_changedValue_53 : decode cX6_changedValue 53 = .ok (.imul, 1) := by decide +kernel
theorem dX6_changedValue_54 : decode cX6_changedValue 54 = .ok (.iload_n 2, 1) := by decide +kernel
theorem dX6_changedValue_55 : decode cX6_changedValue 55 = .ok (.bipush 10, 2) := by decide +kernel
theorem dX6_changedValue_57 : decode cX6_changedValue 57 = .ok (.idiv, 1) := by decide +kernel
theorem dX6_changedValue_58 : decode cX6_changedValue 58 = .ok (.iadd, 1) := by decide +kernel
theorem dX6_changedValue_59 : decode cX6_changedValue 59 = .ok (.ireturn, 1) := by decide +kernel
theorem dX6_changedValue_60 : decode cX6_changedValue 60 = .ok (.iload_n 2, 1) := by decide +kernel
theorem dX6_changedValue_61 : decode cX6_changedValue 61 = .ok (.iconst 2, 1) := by decide +kernel
theorem dX6_changedValue_62 : decode cX6_changedValue 62 = .ok (.irem, 1) := by decide +kernel
theorem dX6_changedValue_63 : decode cX6_changedValue 63 = .ok (.ifCond .ne 7, 3) := by decide +kernel
theorem dX6_changedValue_66 : decode cX6_changedValue 66 = .ok (.iload_n 2, 1) := by decide +kernel
theorem dX6_changedValue_67 : decode cX6_changedValue 67 = .ok (.goto 5, 3) := by decide +kernel
theorem dX6_changedValue_70 : decode cX6_changedValue 70 = .ok (.bipush (-5), 2) := by decide +kernel
theorem dX6_changedValue_72 : decode cX6_changedValue 72 = .ok (.ireturn, 1) := by decide +kernel
theorem dX6_changedValue_73 : decode cX6_changedValue 73 = .ok (.iload_n 2, 1) := by decide +kernel
theorem dX6_changedValue_74 : decode cX6_changedValue 74 = .ok (.iload_n 1, 1) := by decide +kernel
theorem dX6_changedValue_75 : decode cX6_changedValue 75 = .ok (.iadd, 1) := by decide +kernel
theorem dX6_changedValue_76 : decode cX6_changedValue 76 = .ok (.bipush 100, 2) := by decide +kernel
theorem dX6_changedValue_78 : decode cX6_changedValue 78 = .ok (.irem, 1) := by decide +kernel
theorem dX6_changedValue_79 : decode cX6_changedValue 79 = .ok (.ireturn, 1) := by decide +kernel
theorem dX6_changedValue_80 : decode cX6_changedValue 80 = .ok (.iload_n 2, 1) := by decide +kernel
theorem dX6_changedValue_81 : decode cX6_changedValue 81 = .ok (.ireturn, 1) := by decide +kernel
theorem dX7_init_0 : decode cX7_init 0 = .ok (.aload_n 0, 1) := by decide +kernel
theorem dX7_init_1 : decode cX7_init 1 = .ok (.invokespecial 1, 3) := by decide +kernel
theorem dX7_init_4 : decode cX7_init 4 = .ok (.aload_n 0, 1) := by decide +kernel
theorem dX7_init_5 : decode cX7_init 5 = .ok (.sipush 163, 3) := by decide +kernel
theorem dX7_init_8 : decode cX7_init 8 = .ok (.newarray .int, 2) := by decide +kernel
theorem dX7_init_10 : decode cX7_init 10 = .ok (.putfield 7, 3) := by decide +kernel
theorem dX7_init_13 : decode cX7_init 13 = .ok (.aload_n 0, 1) := by decide +kernel
theorem dX7_init_14 : decode cX7_init 14 = .ok (.sipush 815, 3) := by decide +kernel
theorem dX7_init_17 : decode cX7_init 17 = .ok (.newarray .int, 2) := by decide +kernel
theorem dX7_init_19 : decode cX7_init 19 = .ok (.putfield 13, 3) := by decide +kernel
theorem dX7_init_22 : decode cX7_init 22 = .ok (.aload_n 0, 1) := by decide +kernel
theorem dX7_init_23 : decode cX7_init 23 = .ok (.sipush 163, 3) := by decide +kernel
theorem dX7_init_26 : decode cX7_init 26 = .ok (.newarray .int, 2) := by decide +kernel
theorem dX7_init_28 : decode cX7_init 28 = .ok (.putfield 16, 3) := by decide +kernel
theorem dX7_init_31 : decode cX7_init 31 = .ok (.aload_n 0, 1) := by decide +kernel
theorem dX7_init_32 : decode cX7_init 32 = .ok (.sipush 163, 3) := by decide +kernel
theorem dX7_init_35 : decode cX7_init 35 = .ok (.newarray .int, 2) := by decide +kernel
theorem dX7_init_37 : decode cX7_init 37 = .ok (.putfield 19, 3) := by decide +kernel
theorem dX7_init_40 : decode cX7_init 40 = .ok (.aload_n 0, 1) := by decide +kernel
theorem dX7_init_41 : decode cX7_init 41 = .ok (.bipush 80, 2) := by decide +kernel
theorem dX7_init_43 : decode cX7_init 43 = .ok (.newarray .int, 2) := by decide +kernel
theorem dX7_init_45 : decode cX7_init 45 = .ok (.putfield 22, 3) := by decide +kernel
theorem dX7_init_48 : decode cX7_init 48 = .ok (.aload_n 0, 1) := by decide +kernel
theorem dX7_init_49 : decode cX7_init 49 = .ok (.getfield 7, 3) := by decide +kernel
theorem dX7_init_52 : decode cX7_init 52 = .ok (.bipush 7, 2) := by decide +kernel
theorem dX7_init_54 : decode cX7_init 54 = .ok (.iconst 3, 1) := by decide +kernel
theorem dX7_init_55 : decode cX7_init 55 = .ok (.iastore, 1) := by decide +kernel
theorem dX7_init_56 : decode cX7_init 56 = .ok (.aload_n 0, 1) := by decide +kernel
theorem dX7_init_57 : decode cX7_init 57 = .ok (.getfield 7, 3) := by decide +kernel
theorem dX7_init_60 : decode cX7_init 60 = .ok (.bipush 8, 2) := by decide +kernel
theorem dX7_init_62 : decode cX7_init 62 = .ok (.bipush 6, 2) := by decide +kernel
theorem dX7_init_64 : decode cX7_init 64 = .ok (.iastore, 1) := by decide +kernel
theorem dX7_init_65 : decode cX7_init 65 = .ok (.aload_n 0, 1) := by decide +kernel
theorem dX7_init_66 : decode cX7_init 66 = .ok (.getfield 7, 3) := by decide +kernel
theorem dX7_init_69 : decode cX7_init 69 = .ok (.bipush 9, 2) := by decide +kernel
theorem dX7_init_71 : decode cX7_init 71 = .ok (.iconst 5, 1) := by decide +kernel
theorem dX7_init_72 : decode cX7_init 72 = .ok (.iastore, 1) := by decide +kernel
theorem dX7_init_73 : decode cX7_init 73 = .ok (.iconst 0, 1) := by decide +kernel
theorem dX7_init_74 : decode cX7_init 74 = .ok (.istore_n 1, 1) := by decide +kernel
theorem dX7_init_75 : decode cX7_init 75 = .ok (.iload_n 1, 1) := by decide +kernel
theorem dX7_init_76 : decode cX7_init 76 = .ok (.bipush 96, 2) := by decide +kernel
theorem dX7_init_78 : decode cX7_init 78 = .ok (.if_icmp .ge 19, 3) := by decide +kernel
theorem dX7_init_81 : decode cX7_init 81 = .ok (.aload_n 0, 1) := by decide +kernel
theorem dX7_init_82 : decode cX7_init 82 = .ok (.getfield 7, 3) := by decide +kernel
theorem dX7_init_85 : decode cX7_init 85 = .ok (.bipush 19, 2) := by decide +kernel
theorem dX7_init_87 : decode cX7_init 87 = .ok (.iload_n 1, 1) := by decide +kernel
theorem dX7_init_88 : decode cX7_init 88 = .ok (.iadd, 1) := by decide +kernel
theorem dX7_init_89 : decode cX7_init 89 = .ok (.iconst (-1), 1) := by decide +kernel
theorem dX7_init_90 : decode cX7_init 90 = .ok (.iastore, 1) := by decide +kernel
theorem dX7_init_91 : decode cX7_init 91 = .ok (.iinc 1 1, 3) := by decide +kernel
theorem dX7_init_94 : decode cX7_init 94 = .ok (.goto (-19), 3) := by decide +kernel
theorem dX7_init_97 : decode cX7_init 97 = .ok (.return_, 1) := by decide +kernel
theorem dX7_in_0 : decode cX7_in 0 = .ok (.iload_n 0, 1) := by decide +kernel
theorem dX7_in_1 : decode cX7_in 1 = .ok (.iload_n 1, 1) := by decide +kernel
theorem dX7_in_2 : decode cX7_in 2 = .ok (.if_icmp .lt 12, 3) := by decide +kernel
theorem dX7_in_5 : decode cX7_in 5 = .ok (.iload_n 0, 1) := by decide +kernel
theorem dX7_in_6 : decode cX7_in 6 = .ok (.iload_n 2, 1) := by decide +kernel
theorem dX7_in_7 : decode cX7_in 7 = .ok (.if_icmp .gt 7, 3) := by decide +kernel
theorem dX7_in_10 : decode cX7_in 10 = .ok (.iconst 1, 1) := by decide +kernel
theorem dX7_in_11 : decode cX7_in 11 = .ok (.goto 4, 3) := by decide +kernel
theorem dX7_in_14 : decode cX7_in 14 = .ok (.iconst 0, 1) := by decide +kernel
theorem dX7_in_15 : decode cX7_in 15 = .ok (.ireturn, 1) := by decide +kernel
set_option maxRecDepth 20000 in
theorem ggX7_isKey_X7_in : GoodIn wsX7_isKey wsX7_in := goodIn_r _ [4] (by rfl) (by decide +kernel)
set_option maxRecDepth 20000 in
theorem gX7_isKey_X7_in : GoodIn wsX7_isKey (va_wsS RX7 25 yX7_in wsX7_in) := goodIn_app (goodIn_r _ [1, 2, 3] (by rfl) (by decide +kernel)) ggX7_isKey_X7_in
theorem dX7_isKey_0 : decode cX7_isKey 0 = .ok (.iload_n 0, 1) := by decide +kernel
theorem dX7_isKey_1 : decode cX7_isKey 1 = .ok (.iconst 0, 1) := by decide +kernel
theorem dX7_isKey_2 : decode cX7_isKey 2 = .ok (.bipush 31, 2) := by decide +kernel
theorem dX7_isKey_4 : decode cX7_isKey 4 = .ok (.invokestatic 25, 3) := by decide +kernel
theorem dX7_isKey_7 : decode cX7_isKey 7 = .ok (.ireturn, 1) := by decide +kernel
theorem dX7_isCopy_0 : decode cX7_isCopy 0 = .ok (.aload_n 0, 1) := by decide +kernel
theorem dX7_isCopy_1 : decode cX7_isCopy 1 = .ok (.getfield 7, 3) := by decide +kernel
theorem dX7_isCopy_4 : decode cX7_isCopy 4 = .ok (.iconst 0, 1) := by decide +kernel
theorem dX7_isCopy_5 : decode cX7_isCopy 5 = .ok (.iaload, 1) := by decide +kernel
theorem dX7_isCopy_6 : decode cX7_isCopy 6 = .ok (.ifCond .eq 7, 3) := by decide +kernel
theorem dX7_isCopy_9 : decode cX7_isCopy 9 = .ok (.iconst 1, 1) := by decide +kernel
theorem dX7_isCopy_10 : decode cX7_isCopy 10 = .ok (.goto 4, 3) := by decide +kernel
theorem dX7_isCopy_13 : decode cX7_isCopy 13 = .ok (.iconst 0, 1) := by decide +kernel
theorem dX7_isCopy_14 : decode cX7_isCopy 14 = .ok (.ireturn, 1) := by decide +kernel
theorem dX7_row_0 : decode cX7_row 0 = .ok (.aload_n 0, 1) := by decide +kernel
theorem dX7_row_1 : decode cX7_row 1 = .ok (.getfield 7, 3) := by decide +kernel
theorem dX7_row_4 : decode cX7_row 4 = .ok (.bipush 19, 2) := by decide +kernel
theorem dX7_row_6 : decode cX7_row 6 = .ok (.bipush 32, 2) := by decide +kernel
theorem dX7_row_8 : decode cX7_row 8 = .ok (.iload_n 1, 1) := by decide +kernel
theorem dX7_row_9 : decode cX7_row 9 = .ok (.imul, 1) := by decide +kernel
theorem dX7_row_10 : decode cX7_row 10 = .ok (.iadd, 1) := by decide +kernel
theorem dX7_row_11 : decode cX7_row 11 = .ok (.iload_n 2, 1) := by decide +kernel
theorem dX7_row_12 : decode cX7_row 12 = .ok (.iadd, 1) := by decide +kernel
theorem dX7_row_13 : decode cX7_row 13 = .ok (.iaload, 1) := by decide +kernel
theorem dX7_row_14 : decode cX7_row 14 = .ok (.ireturn, 1) := by decide +kernel
theorem dX7_lay_0 : decode cX7_lay 0 = .ok (.aload_n 0, 1) := by decide +kernel
theorem dX7_lay_1 : decode cX7_lay 1 = .ok (.getfield 7, 3) := by decide +kernel
theorem dX7_lay_4 : decode cX7_lay 4 = .ok (.bipush 19, 2) := by decide +kernel
theorem dX7_lay_6 : decode cX7_lay 6 = .ok (.bipush 32, 2) := by decide +kernel
theorem dX7_lay_8 : decode cX7_lay 8 = .ok (.iload_n 1, 1) := by decide +kernel
theorem dX7_lay_9 : decode cX7_lay 9 = .ok (.imul, 1) := by decide +kernel
theorem dX7_lay_10 : decode cX7_lay 10 = .ok (.iadd, 1) := by decide +kernel
theorem dX7_lay_11 : decode cX7_lay 11 = .ok (.iload_n 2, 1) := by decide +kernel
theorem dX7_lay_12 : decode cX7_lay 12 = .ok (.iadd, 1) := by decide +kernel
theorem dX7_lay_13 : decode cX7_lay 13 = .ok (.iload_n 3, 1) := by decide +kernel
theorem dX7_lay_14 : decode cX7_lay 14 = .ok (.iastore, 1) := by decide +kernel
theorem dX7_lay_15 : decode cX7_lay 15 = .ok (.return_, 1) := by decide +kernel
theorem dX7_outside_0 : decode cX7_outside 0 = .ok (.iload_n 0, 1) := by decide +kernel
theorem dX7_outside_1 : decode cX7_outside 1 = .ok (.iconst (-1), 1) := by decide +kernel
theorem dX7_outside_2 : decode cX7_outside 2 = .ok (.if_icmp .ne 8, 3) := by decide +kernel
theorem dX7_outside_5 : decode cX7_outside 5 = .ok (.bipush (-5), 2) := by decide +kernel
theorem dX7_outside_7 : decode cX7_outside 7 = .ok (.goto 4, 3) := by decide +kernel
theorem dX7_outside_10 : decode cX7_outside 10 = .ok (.iload_n 0, 1) := by decide +kernel
theorem dX7_outside_11 : decode cX7_outside 11 = .ok (.ireturn, 1) := by decide +kernel
set_option maxRecDepth 20000 in
theorem ggX7_rows_X7_row : GoodIn wsX7_rows wsX7_row := goodIn_r _ [5, 6, 7, 8, 9, 10, 11, 12, 13, 14, 15, 16, 17, 18, 19] (by rfl) (by decide +kernel)
set_option maxRecDepth 20000 in
theorem gX7_rows_X7_row : GoodIn wsX7_rows (wsV RX7 29 RX7 yX7_row wsX7_row) := goodIn_app (goodIn_r _ [1, 2, 3, 4] (by rfl) (by decide +kernel)) ggX7_rows_X7_row
theorem dX7_rows_0 : decode cX7_rows 0 = .ok (.iconst 0, 1) := by decide +kernel
theorem dX7_rows_1 : decode cX7_rows 1 = .ok (.istore_n 2, 1) := by decide +kernel
theorem dX7_rows_2 : decode cX7_rows 2 = .ok (.iconst 0, 1) := by decide +kernel
theorem dX7_rows_3 : decode cX7_rows 3 = .ok (.istore_n 3, 1) := by decide +kernel
theorem dX7_rows_4 : decode cX7_rows 4 = .ok (.iload_n 3, 1) := by decide +kernel
theorem dX7_rows_5 : decode cX7_rows 5 = .ok (.bipush 32, 2) := by decide +kernel
theorem dX7_rows_7 : decode cX7_rows 7 = .ok (.if_icmp .ge 27, 3) := by decide +kernel
theorem dX7_rows_10 : decode cX7_rows 10 = .ok (.iload_n 2, 1) := by decide +kernel
theorem dX7_rows_11 : decode cX7_rows 11 = .ok (.aload_n 0, 1) := by decide +kernel
theorem dX7_rows_12 : decode cX7_rows 12 = .ok (.iload_n 1, 1) := by decide +kernel
theorem dX7_rows_13 : decode cX7_rows 13 = .ok (.iload_n 3, 1) := by decide +kernel
theorem dX7_rows_14 : decode cX7_rows 14 = .ok (.invokevirtual 29, 3) := by decide +kernel
theorem dX7_rows_17 : decode cX7_rows 17 = .ok (.iconst (-1), 1) := by decide +kernel
theorem dX7_rows_18 : decode cX7_rows 18 = .ok (.if_icmp .ne 7, 3) := by decide +kernel
theorem dX7_rows_21 : decode cX7_rows 21 = .ok (.iconst 0, 1) := by decide +kernel
theorem dX7_rows_22 : decode cX7_rows 22 = .ok (.goto 4, 3) := by decide +kernel
theorem dX7_rows_25 : decode cX7_rows 25 = .ok (.iconst 1, 1) := by decide +kernel
theorem dX7_rows_26 : decode cX7_rows 26 = .ok (.iadd, 1) := by decide +kernel
theorem dX7_rows_27 : decode cX7_rows 27 = .ok (.istore_n 2, 1) := by decide +kernel
theorem dX7_rows_28 : decode cX7_rows 28 = .ok (.iinc 3 1, 3) := by decide +kernel
theorem dX7_rows_31 : decode cX7_rows 31 = .ok (.goto (-27), 3) := by decide +kernel
theorem dX7_rows_34 : decode cX7_rows 34 = .ok (.iload_n 2, 1) := by decide +kernel
theorem dX7_rows_35 : decode cX7_rows 35 = .ok (.ireturn, 1) := by decide +kernel
set_option maxRecDepth 20000 in
theorem ggX7_isTable_X7_isCopy : GoodIn wsX7_isTable wsX7_isCopy := goodIn_r _ [6, 1, 7, 8, 9, 10, 11, 12, 13, 14, 15, 16, 17, 18, 19] (by rfl) (by decide +kernel)
set_option maxRecDepth 20000 in
theorem gX7_isTable_X7_isCopy : GoodIn wsX7_isTable (wsV RX7 33 RX7 yX7_isCopy wsX7_isCopy) := goodIn_app (goodIn_r _ [2, 3, 4, 5] (by rfl) (by decide +kernel)) ggX7_isTable_X7_isCopy
theorem dX7_isTable_0 : decode cX7_isTable 0 = .ok (.iload_n 1, 1) := by decide +kernel
theorem dX7_isTable_1 : decode cX7_isTable 1 = .ok (.ifCond .eq 31, 3) := by decide +kernel
theorem dX7_isTable_4 : decode cX7_isTable 4 = .ok (.iload_n 1, 1) := by decide +kernel
theorem dX7_isTable_5 : decode cX7_isTable 5 = .ok (.iconst 1, 1) := by decide +kernel
theorem dX7_isTable_6 : decode cX7_isTable 6 = .ok (.if_icmp .ne 10, 3) := by decide +kernel
theorem dX7_isTable_9 : decode cX7_isTable 9 = .ok (.aload_n 0, 1) := by decide +kernel
theorem dX7_isTable_10 : decode cX7_isTable 10 = .ok (.invokevirtual 33, 3) := by decide +kernel
theorem dX7_isTable_13 : decode cX7_isTable 13 = .ok (.ifCond .ne 19, 3) := by decide +kernel
theorem dX7_isTable_16 : decode cX7_isTable 16 = .ok (.iload_n 1, 1) := by decide +kernel
theorem dX7_isTable_17 : decode cX7_isTable 17 = .ok (.iconst 2, 1) := by decide +kernel
theorem dX7_isTable_18 : decode cX7_isTable 18 = .ok (.if_icmp .ne 18, 3) := by decide +kernel
theorem dX7_isTable_21 : decode cX7_isTable 21 = .ok (.aload_n 0, 1) := by decide +kernel
theorem dX7_isTable_22 : decode cX7_isTable 22 = .ok (.getfield 7, 3) := by decide +kernel
theorem dX7_isTable_25 : decode cX7_isTable 25 = .ok (.bipush 6, 2) := by decide +kernel
theorem dX7_isTable_27 : decode cX7_isTable 27 = .ok (.iaload, 1) := by decide +kernel
theorem dX7_isTable_28 : decode cX7_isTable 28 = .ok (.iconst 1, 1) := by decide +kernel
theorem dX7_isTable_29 : decode cX7_isTable 29 = .ok (.if_icmp .ne 7, 3) := by decide +kernel
theorem dX7_isTable_32 : decode cX7_isTable 32 = .ok (.iconst 1, 1) := by decide +kernel
theorem dX7_isTable_33 : decode cX7_isTable 33 = .ok (.goto 4, 3) := by decide +kernel
theorem dX7_isTable_36 : decode cX7_isTable 36 = .ok (.iconst 0, 1) := by decide +kernel
theorem dX7_isTable_37 : decode cX7_isTable 37 = .ok (.ireturn, 1) := by decide +kernel
theorem dX7_copyAll_0 : decode cX7_copyAll 0 = .ok (.iconst 0, 1) := by decide +kernel
theorem dX7_copyAll_1 : decode cX7_copyAll 1 = .ok (.istore 4, 2) := by decide +kernel
theorem dX7_copyAll_3 : decode cX7_copyAll 3 = .ok (.iload 4, 2) := by decide +kernel
theorem dX7_copyAll_5 : decode cX7_copyAll 5 = .ok (.sipush 163, 3) := by decide +kernel
theorem dX7_copyAll_8 : decode cX7_copyAll 8 = .ok (.if_icmp .ge 21, 3) := by decide +kernel
theorem dX7_copyAll_11 : decode cX7_copyAll 11 = .ok (.aload_n 2, 1) := by decide +kernel
theorem dX7_copyAll_12 : decode cX7_copyAll 12 = .ok (.iload_n 3, 1) := by decide +kernel
theorem dX7_copyAll_13 : decode cX7_copyAll 13 = .ok (.iload 4, 2) := by decide +kernel
theorem dX7_copyAll_15 : decode cX7_copyAll 15 = .ok (.iadd, 1) := by decide +kernel
theorem dX7_copyAll_16 : decode cX7_copyAll 16 = .ok (.aload_n 0, 1) := by decide +kernel
theorem dX7_copyAll_17 : decode cX7_copyAll 17 = .ok (.iload_n 1, 1) := by decide +kernel
theorem dX7_copyAll_18 : decode cX7_copyAll 18 = .ok (.iload 4, 2) := by decide +kernel
theorem dX7_copyAll_20 : decode cX7_copyAll 20 = .ok (.iadd, 1) := by decide +kernel
theorem dX7_copyAll_21 : decode cX7_copyAll 21 = .ok (.iaload, 1) := by decide +kernel
theorem dX7_copyAll_22 : decode cX7_copyAll 22 = .ok (.iastore, 1) := by decide +kernel
theorem dX7_copyAll_23 : decode cX7_copyAll 23 = .ok (.iinc 4 1, 3) := by decide +kernel
theorem dX7_copyAll_26 : decode cX7_copyAll 26 = .ok (.goto (-23), 3) := by decide +kernel
theorem dX7_copyAll_29 : decode cX7_copyAll 29 = .ok (.return_, 1) := by decide +kernel
set_option maxRecDepth 20000 in
theorem ggX7_record_X7_copyAll : GoodIn wsX7_record wsX7_copyAll := goodIn_r _ [7] (by rfl) (by decide +kernel)
set_option maxRecDepth 20000 in
theorem gX7_record_X7_copyAll : GoodIn wsX7_record (va_wsS RX7 41 yX7_copyAll wsX7_copyAll) := goodIn_app (goodIn_r _ [4, 5, 6] (by rfl) (by decide +kernel)) ggX7_record_X7_copyAll
theorem dX7_record_0 : decode cX7_record 0 = .ok (.aload_n 0, 1) := by decide +kernel
theorem dX7_record_1 : decode cX7_record 1 = .ok (.getfield 37, 3) := by decide +kernel
theorem dX7_record_4 : decode cX7_record 4 = .ok (.iconst 5, 1) := by decide +kernel
theorem dX7_record_5 : decode cX7_record 5 = .ok (.if_icmp .ne 44, 3) := by decide +kernel
theorem dX7_record_8 : decode cX7_record 8 = .ok (.iconst 0, 1) := by decide +kernel
theorem dX7_record_9 : decode cX7_record 9 = .ok (.istore_n 1, 1) := by decide +kernel
theorem dX7_record_10 : decode cX7_record 10 = .ok (.iload_n 1, 1) := by decide +kernel
theorem dX7_record_11 : decode cX7_record 11 = .ok (.sipush 652, 3) := by decide +kernel
theorem dX7_record_14 : decode cX7_record 14 = .ok (.if_icmp .ge 25, 3) := by decide +kernel
theorem dX7_record_17 : decode cX7_record 17 = .ok (.aload_n 0, 1) := by decide +kernel
theorem dX7_record_18 : decode cX7_record 18 = .ok (.getfield 13, 3) := by decide +kernel
theorem dX7_record_21 : decode cX7_record 21 = .ok (.iload_n 1, 1) := by decide +kernel
theorem dX7_record_22 : decode cX7_record 22 = .ok (.aload_n 0, 1) := by decide +kernel
theorem dX7_record_23 : decode cX7_record 23 = .ok (.getfield 13, 3) := by decide +kernel
theorem dX7_record_26 : decode cX7_record 26 = .ok (.sipush 163, 3) := by decide +kernel
theorem dX7_record_29 : decode cX7_record 29 = .ok (.iload_n 1, 1) := by decide +kernel
theorem dX7_record_30 : decode cX7_record 30 = .ok (.iadd, 1) := by decide +kernel
theorem dX7_record_31 : decode cX7_record 31 = .ok (.iaload, 1) := by decide +kernel
theorem dX7_record_32 : decode cX7_record 32 = .ok (.iastore, 1) := by decide +kernel
theorem dX7_record_33 : decode cX7_record 33 = .ok (.iinc 1 1, 3) := by decide +kernel
theorem dX7_record_36 : decode cX7_record 36 = .ok (.goto (-26), 3) := by decide +kernel
theorem dX7_record_39 : decode cX7_record 39 = .ok (.aload_n 0, 1) := by decide +kernel
theorem dX7_record_40 : decode cX7_record 40 = .ok (.dup, 1) := by decide +kernel
theorem dX7_record_41 : decode cX7_record 41 = .ok (.getfield 37, 3) := by decide +kernel
theorem dX7_record_44 : decode cX7_record 44 = .ok (.iconst 1, 1) := by decide +kernel
theorem dX7_record_45 : decode cX7_record 45 = .ok (.isub, 1) := by decide +kernel
theorem dX7_record_46 : decode cX7_record 46 = .ok (.putfield 37, 3) := by decide +kernel
theorem dX7_record_49 : decode cX7_record 49 = .ok (.aload_n 0, 1) := by decide +kernel
theorem dX7_record_50 : decode cX7_record 50 = .ok (.getfield 7, 3) := by decide +kernel
theorem dX7_record_53 : decode cX7_record 53 = .ok (.iconst 0, 1) := by decide +kernel
theorem dX7_record_54 : decode cX7_record 54 = .ok (.aload_n 0, 1) := by decide +kernel
theorem dX7_record_55 : decode cX7_record 55 = .ok (.getfield 13, 3) := by decide +kernel
theorem dX7_record_58 : decode cX7_record 58 = .ok (.sipush 163, 3) := by decide +kernel
theorem dX7_record_61 : decode cX7_record 61 = .ok (.aload_n 0, 1) := by decide +kernel
theorem dX7_record_62 : decode cX7_record 62 = .ok (.getfield 37, 3) := by decide +kernel
theorem dX7_record_65 : decode cX7_record 65 = .ok (.imul, 1) := by decide +kernel
theorem dX7_record_66 : decode cX7_record 66 = .ok (.invokestatic 41, 3) := by decide +kernel
theorem dX7_record_69 : decode cX7_record 69 = .ok (.aload_n 0, 1) := by decide +kernel
theorem dX7_record_70 : decode cX7_record 70 = .ok (.dup, 1) := by decide +kernel
theorem dX7_record_71 : decode cX7_record 71 = .ok (.getfield 37, 3) := by decide +kernel
theorem dX7_record_74 : decode cX7_record 74 = .ok (.iconst 1, 1) := by decide +kernel
theorem dX7_record_75 : decode cX7_record 75 = .ok (.iadd, 1) := by decide +kernel
theorem dX7_record_76 : decode cX7_record 76 = .ok (.putfield 37, 3) := by decide +kernel
theorem dX7_record_79 : decode cX7_record 79 = .ok (.return_, 1) := by decide +kernel
theorem dX7_becomes_0 : decode cX7_becomes 0 = .ok (.iload_n 2, 1) := by decide +kernel
theorem dX7_becomes_1 : decode cX7_becomes 1 = .ok (.iconst (-1), 1) := by decide +kernel
theorem dX7_becomes_2 : decode cX7_becomes 2 = .ok (.if_icmp .ne 5, 3) := by decide +kernel
theorem dX7_becomes_5 : decode cX7_becomes 5 = .ok (.iconst (-1), 1) := by decide +kernel
theorem dX7_becomes_6 : decode cX7_becomes 6 = .ok (.ireturn, 1) := by decide +kernel
theorem dX7_becomes_7 : decode cX7_becomes 7 = .ok (.iload_n 0, 1) := by decide +kernel
theorem dX7_becomes_8 : decode cX7_becomes 8 = .ok (.tableswitch 72 1 4 #[32, 39, 52, 65], 32) := by decide +kernel
theorem dX7_becomes_40 : decode cX7_becomes 40 = .ok (.iconst 2, 1) := by decide +kernel
theorem dX7_becomes_41 : decode cX7_becomes 41 = .ok (.iload_n 2, 1) := by decide +kernel
theorem dX7_becomes_42 : decode cX7_becomes 42 = .ok (.imul, 1) := by decide +kernel
theorem dX7_becomes_43 : decode cX7_becomes 43 = .ok (.bipush 100, 2) := by decide +kernel
theorem dX7_becomes_45 : decode cX7_becomes 45 = .ok (.irem, 1) := by decide +kernel
theorem dX7_becomes_46 : decode cX7_becomes 46 = .ok (.ireturn, 1) := by decide +kernel
theorem dX7_becomes_47 : decode cX7_becomes 47 = .ok (.iload_n 2, 1) := by decide +kernel
theorem dX7_becomes_48 : decode cX7_becomes 48 = .ok (.bipush 10, 2) := by decide +kernel
theorem dX7_becomes_50 : decode cX7_becomes 50 = .ok (.irem, 1) := by decide +kernel
theorem dX7_becomes_51 : decode cX7_becomes 51 = .ok (.bipush 10, 2) := by decide +kernel
theorem dX7_becomes_53 : decode cX7_becomes 53 = .ok (.imul, 1) := by decide +kernel
theorem dX7_becomes_54 : decode cX7_becomes 54 = .ok (.iload_n 2, 1) := by decide +kernel
theorem dX7_becomes_55 : decode cX7_becomes 55 = .ok (.bipush 10, 2) := by decide +kernel
theorem dX7_becomes_57 : decode cX7_becomes 57 = .ok (.idiv, 1) := by decide +kernel
theorem dX7_becomes_58 : decode cX7_becomes 58 = .ok (.iadd, 1) := by decide +kernel
theorem dX7_becomes_59 : decode cX7_becomes 59 = .ok (.ireturn, 1) := by decide +kernel
theorem dX7_becomes_60 : decode cX7_becomes 60 = .ok (.iload_n 2, 1) := by decide +kernel
theorem dX7_becomes_61 : decode cX7_becomes 61 = .ok (.iconst 2, 1) := by decide +kernel
theorem dX7_becomes_62 : decode cX7_becomes 62 = .ok (.irem, 1) := by decide +kernel
theorem dX7_becomes_63 : decode cX7_becomes 63 = .ok (.iconst 1, 1) := by decide +kernel
theorem dX7_becomes_64 : decode cX7_becomes 64 = .ok (.if_icmp .ne 7, 3) := by decide +kernel
theorem dX7_becomes_67 : decode cX7_becomes 67 = .ok (.iconst (-1), 1) := by decide +kernel
theorem dX7_becomes_68 : decode cX7_becomes 68 = .ok (.goto 4, 3) := by decide +kernel
theorem dX7_becomes_71 : decode cX7_becomes 71 = .ok (.iload_n 2, 1) := by decide +kernel
theorem dX7_becomes_72 : decode cX7_becomes 72 = .ok (.ireturn, 1) := by decide +kernel
theorem dX7_becomes_73 : decode cX7_becomes 73 = .ok (.iload_n 2, 1) := by decide +kernel
theorem dX7_becomes_74 : decode cX7_becomes 74 = .ok (.iload_n 1, 1) := by decide +kernel
theorem dX7_becomes_75 : decode cX7_becomes 75 = .ok (.iadd, 1) := by decide +kernel
theorem dX7_becomes_76 : decode cX7_becomes 76 = .ok (.bipush 100, 2) := by decide +kernel
theorem dX7_becomes_78 : decode cX7_becomes 78 = .ok (.irem, 1) := by decide +kernel
theorem dX7_becomes_79 : decode cX7_becomes 79 = .ok (.ireturn, 1) := by decide +kernel
theorem dX7_becomes_80 : decode cX7_becomes 80 = .ok (.iload_n 2, 1) := by decide +kernel
theorem dX7_becomes_81 : decode cX7_becomes 81 = .ok (.ireturn, 1) := by decide +kernel
set_option maxRecDepth 20000 in
theorem ggX7_due_X7_row : GoodIn wsX7_due wsX7_row := goodIn_r _ [6, 1, 10, 11, 12, 13, 14, 15, 16, 17, 18, 19, 20, 21, 22] (by rfl) (by decide +kernel)
set_option maxRecDepth 20000 in
theorem gX7_due_X7_row : GoodIn wsX7_due (wsV RX7 29 RX7 yX7_row wsX7_row) := goodIn_app (goodIn_r _ [2, 3, 4, 5] (by rfl) (by decide +kernel)) ggX7_due_X7_row
set_option maxRecDepth 20000 in
theorem ggX7_due_X7_becomes : GoodIn wsX7_due wsX7_becomes := goodIn_r _ [9] (by rfl) (by decide +kernel)
set_option maxRecDepth 20000 in
theorem gX7_due_X7_becomes : GoodIn wsX7_due (va_wsS RX7 45 yX7_becomes wsX7_becomes) := goodIn_app (goodIn_r _ [7, 8, 5] (by rfl) (by decide +kernel)) ggX7_due_X7_becomes
theorem dX7_due_0 : decode cX7_due 0 = .ok (.aload_n 0, 1) := by decide +kernel
theorem dX7_due_1 : decode cX7_due 1 = .ok (.getfield 7, 3) := by decide +kernel
theorem dX7_due_4 : decode cX7_due 4 = .ok (.iconst 1, 1) := by decide +kernel
theorem dX7_due_5 : decode cX7_due 5 = .ok (.iaload, 1) := by decide +kernel
theorem dX7_due_6 : decode cX7_due 6 = .ok (.iload_n 1, 1) := by decide +kernel
theorem dX7_due_7 : decode cX7_due 7 = .ok (.aload_n 0, 1) := by decide +kernel
theorem dX7_due_8 : decode cX7_due 8 = .ok (.iconst 0, 1) := by decide +kernel
theorem dX7_due_9 : decode cX7_due 9 = .ok (.iload_n 1, 1) := by decide +kernel
theorem dX7_due_10 : decode cX7_due 10 = .ok (.invokevirtual 29, 3) := by decide +kernel
theorem dX7_due_13 : decode cX7_due 13 = .ok (.invokestatic 45, 3) := by decide +kernel
theorem dX7_due_16 : decode cX7_due 16 = .ok (.ireturn, 1) := by decide +kernel
set_option maxRecDepth 20000 in
theorem ggX7_differing_X7_row : GoodIn wsX7_differing wsX7_row := goodIn_r _ [5, 6, 14, 15, 16, 17, 18, 19, 20, 21, 22, 23, 24, 25, 26] (by rfl) (by decide +kernel)
set_option maxRecDepth 20000 in
theorem gX7_differing_X7_row : GoodIn wsX7_differing (wsV RX7 29 RX7 yX7_row wsX7_row) := goodIn_app (goodIn_r _ [1, 2, 3, 4] (by rfl) (by decide +kernel)) ggX7_differing_X7_row
set_option maxRecDepth 20000 in
theorem ggX7_differing_X7_due : GoodIn wsX7_differing wsX7_due := goodIn_r _ [10, 6, 1, 2, 3, 4, 5, 11, 12, 13, 14, 15, 16, 17, 18, 19, 20, 21, 22, 23, 24, 25, 26] (by rfl) (by decide +kernel)
set_option maxRecDepth 20000 in
theorem gX7_differing_X7_due : GoodIn wsX7_differing (wsV RX7 49 RX7 yX7_due wsX7_due) := goodIn_app (goodIn_r _ [7, 8, 9, 4] (by rfl) (by decide +kernel)) ggX7_differing_X7_due
theorem dX7_differing_0 : decode cX7_differing 0 = .ok (.iconst 0, 1) := by decide +kernel
theorem dX7_differing_1 : decode cX7_differing 1 = .ok (.istore_n 2, 1) := by decide +kernel
theorem dX7_differing_2 : decode cX7_differing 2 = .ok (.iconst 0, 1) := by decide +kernel
theorem dX7_differing_3 : decode cX7_differing 3 = .ok (.istore_n 3, 1) := by decide +kernel
theorem dX7_differing_4 : decode cX7_differing 4 = .ok (.iload_n 3, 1) := by decide +kernel
theorem dX7_differing_5 : decode cX7_differing 5 = .ok (.bipush 32, 2) := by decide +kernel
theorem dX7_differing_7 : decode cX7_differing 7 = .ok (.if_icmp .ge 32, 3) := by decide +kernel
theorem dX7_differing_10 : decode cX7_differing 10 = .ok (.aload_n 0, 1) := by decide +kernel
theorem dX7_differing_11 : decode cX7_differing 11 = .ok (.iconst 1, 1) := by decide +kernel
theorem dX7_differing_12 : decode cX7_differing 12 = .ok (.iload_n 3, 1) := by decide +kernel
theorem dX7_differing_13 : decode cX7_differing 13 = .ok (.invokevirtual 29, 3) := by decide +kernel
theorem dX7_differing_16 : decode cX7_differing 16 = .ok (.aload_n 0, 1) := by decide +kernel
theorem dX7_differing_17 : decode cX7_differing 17 = .ok (.iload_n 3, 1) := by decide +kernel
theorem dX7_differing_18 : decode cX7_differing 18 = .ok (.invokevirtual 49, 3) := by decide +kernel
theorem dX7_differing_21 : decode cX7_differing 21 = .ok (.if_icmp .eq 12, 3) := by decide +kernel
theorem dX7_differing_24 : decode cX7_differing 24 = .ok (.iload_n 1, 1) := by decide +kernel
theorem dX7_differing_25 : decode cX7_differing 25 = .ok (.ifCond .eq 5, 3) := by decide +kernel
theorem dX7_differing_28 : decode cX7_differing 28 = .ok (.iload_n 3, 1) := by decide +kernel
theorem dX7_differing_29 : decode cX7_differing 29 = .ok (.ireturn, 1) := by decide +kernel
theorem dX7_differing_30 : decode cX7_differing 30 = .ok (.iinc 2 1, 3) := by decide +kernel
theorem dX7_differing_33 : decode cX7_differing 33 = .ok (.iinc 3 1, 3) := by decide +kernel
theorem dX7_differing_36 : decode cX7_differing 36 = .ok (.goto (-32), 3) := by decide +kernel
theorem dX7_differing_39 : decode cX7_differing 39 = .ok (.iload_n 1, 1) := by decide +kernel
theorem dX7_differing_40 : decode cX7_differing 40 = .ok (.ifCond .eq 8, 3) := by decide +kernel
theorem dX7_differing_43 : decode cX7_differing 43 = .ok (.bipush (-5), 2) := by decide +kernel
theorem dX7_differing_45 : decode cX7_differing 45 = .ok (.goto 4, 3) := by decide +kernel
theorem dX7_differing_48 : decode cX7_differing 48 = .ok (.iload_n 2, 1) := by decide +kernel
theorem dX7_differing_49 : decode cX7_differing 49 = .ok (.ireturn, 1) := by decide +kernel
set_option maxRecDepth 20000 in
theorem ggX7_apply_X7_becomes : GoodIn wsX7_apply wsX7_becomes := goodIn_r _ [5] (by rfl) (by decide +kernel)
set_option maxRecDepth 20000 in
theorem gX7_apply_X7_becomes : GoodIn wsX7_apply (va_wsS RX7 45 yX7_becomes wsX7_becomes) := goodIn_app (goodIn_r _ [2, 3, 4] (by rfl) (by decide +kernel)) ggX7_apply_X7_becomes
set_option maxRecDepth 20000 in
theorem ggX7_apply_X7_lay : GoodIn wsX7_apply wsX7_lay := goodIn_r _ [9, 1, 10, 11, 12, 13, 14, 15, 16, 17, 18, 19, 20, 21, 22] (by rfl) (by decide +kernel)
set_option maxRecDepth 20000 in
theorem gX7_apply_X7_lay : GoodIn wsX7_apply (wsV RX7 53 RX7 yX7_lay wsX7_lay) := goodIn_app (goodIn_r _ [6, 7, 8, 4] (by rfl) (by decide +kernel)) ggX7_apply_X7_lay
theorem dX7_apply_0 : decode cX7_apply 0 = .ok (.aload_n 0, 1) := by decide +kernel
theorem dX7_apply_1 : decode cX7_apply 1 = .ok (.getfield 7, 3) := by decide +kernel
theorem dX7_apply_4 : decode cX7_apply 4 = .ok (.bipush 115, 2) := by decide +kernel
theorem dX7_apply_6 : decode cX7_apply 6 = .ok (.iaload, 1) := by decide +kernel
theorem dX7_apply_7 : decode cX7_apply 7 = .ok (.istore_n 1, 1) := by decide +kernel
theorem dX7_apply_8 : decode cX7_apply 8 = .ok (.aload_n 0, 1) := by decide +kernel
theorem dX7_apply_9 : decode cX7_apply 9 = .ok (.iconst 1, 1) := by decide +kernel
theorem dX7_apply_10 : decode cX7_apply 10 = .ok (.iload_n 1, 1) := by decide +kernel
theorem dX7_apply_11 : decode cX7_apply 11 = .ok (.aload_n 0, 1) := by decide +kernel
theorem dX7_apply_12 : decode cX7_apply 12 = .ok (.getfield 7, 3) := by decide +kernel
theorem dX7_apply_15 : decode cX7_apply 15 = .ok (.iconst 1, 1) := by decide +kernel
theorem dX7_apply_16 : decode cX7_apply 16 = .ok (.iaload, 1) := by decide +kernel
theorem dX7_apply_17 : decode cX7_apply 17 = .ok (.iload_n 1, 1) := by decide +kernel
theorem dX7_apply_18 : decode cX7_apply 18 = .ok (.aload_n 0, 1) := by decide +kernel
theorem dX7_apply_19 : decode cX7_apply 19 = .ok (.getfield 7, 3) := by decide +kernel
theorem dX7_apply_22 : decode cX7_apply 22 = .ok (.bipush 116, 2) := by decide +kernel
theorem dX7_apply_24 : decode cX7_apply 24 = .ok (.iaload, 1) := by decide +kernel
theorem dX7_apply_25 : decode cX7_apply 25 = .ok (.invokestatic 45, 3) := by decide +kernel
theorem dX7_apply_28 : decode cX7_apply 28 = .ok (.invokevirtual 53, 3) := by decide +kernel
theorem dX7_apply_31 : decode cX7_apply 31 = .ok (.aload_n 0, 1) := by decide +kernel
theorem dX7_apply_32 : decode cX7_apply 32 = .ok (.getfield 7, 3) := by decide +kernel
theorem dX7_apply_35 : decode cX7_apply 35 = .ok (.iconst 4, 1) := by decide +kernel
theorem dX7_apply_36 : decode cX7_apply 36 = .ok (.dup2, 1) := by decide +kernel
theorem dX7_apply_37 : decode cX7_apply 37 = .ok (.iaload, 1) := by decide +kernel
theorem dX7_apply_38 : decode cX7_apply 38 = .ok (.iconst 1, 1) := by decide +kernel
theorem dX7_apply_39 : decode cX7_apply 39 = .ok (.isub, 1) := by decide +kernel
theorem dX7_apply_40 : decode cX7_apply 40 = .ok (.iastore, 1) := by decide +kernel
theorem dX7_apply_41 : decode cX7_apply 41 = .ok (.bipush 115, 2) := by decide +kernel
theorem dX7_apply_43 : decode cX7_apply 43 = .ok (.istore_n 2, 1) := by decide +kernel
theorem dX7_apply_44 : decode cX7_apply 44 = .ok (.iload_n 2, 1) := by decide +kernel
theorem dX7_apply_45 : decode cX7_apply 45 = .ok (.bipush 115, 2) := by decide +kernel
theorem dX7_apply_47 : decode cX7_apply 47 = .ok (.iconst 2, 1) := by decide +kernel
theorem dX7_apply_48 : decode cX7_apply 48 = .ok (.aload_n 0, 1) := by decide +kernel
theorem dX7_apply_49 : decode cX7_apply 49 = .ok (.getfield 7, 3) := by decide +kernel
theorem dX7_apply_52 : decode cX7_apply 52 = .ok (.iconst 4, 1) := by decide +kernel
theorem dX7_apply_53 : decode cX7_apply 53 = .ok (.iaload, 1) := by decide +kernel
theorem dX7_apply_54 : decode cX7_apply 54 = .ok (.imul, 1) := by decide +kernel
theorem dX7_apply_55 : decode cX7_apply 55 = .ok (.iadd, 1) := by decide +kernel
theorem dX7_apply_56 : decode cX7_apply 56 = .ok (.if_icmp .ge 23, 3) := by decide +kernel
theorem dX7_apply_59 : decode cX7_apply 59 = .ok (.aload_n 0, 1) := by decide +kernel
theorem dX7_apply_60 : decode cX7_apply 60 = .ok (.getfield 7, 3) := by decide +kernel
theorem dX7_apply_63 : decode cX7_apply 63 = .ok (.iload_n 2, 1) := by decide +kernel
theorem dX7_apply_64 : decode cX7_apply 64 = .ok (.aload_n 0, 1) := by decide +kernel
theorem dX7_apply_65 : decode cX7_apply 65 = .ok (.getfield 7, 3) := by decide +kernel
theorem dX7_apply_68 : decode cX7_apply 68 = .ok (.iload_n 2, 1) := by decide +kernel
theorem dX7_apply_69 : decode cX7_apply 69 = .ok (.iconst 2, 1) := by decide +kernel
theorem dX7_apply_70 : decode cX7_apply 70 = .ok (.iadd, 1) := by decide +kernel
theorem dX7_apply_71 : decode cX7_apply 71 = .ok (.iaload, 1) := by decide +kernel
theorem dX7_apply_72 : decode cX7_apply 72 = .ok (.iastore, 1) := by decide +kernel
theorem dX7_apply_73 : decode cX7_apply 73 = .ok (.iinc 2 1, 3) := by decide +kernel
theorem dX7_apply_76 : decode cX7_apply 76 = .ok (.goto (-32), 3) := by decide +kernel
theorem dX7_apply_79 : decode cX7_apply 79 = .ok (.aload_n 0, 1) := by decide +kernel
theorem dX7_apply_80 : decode cX7_apply 80 = .ok (.getfield 7, 3) := by decide +kernel
theorem dX7_apply_83 : decode cX7_apply 83 = .ok (.bipush 16, 2) := by decide +kernel
theorem dX7_apply_85 : decode cX7_apply 85 = .ok (.dup2, 1) := by decide +kernel
theorem dX7_apply_86 : decode cX7_apply 86 = .ok (.iaload, 1) := by decide +kernel
theorem dX7_apply_87 : decode cX7_apply 87 = .ok (.iconst 1, 1) := by decide +kernel
theorem dX7_apply_88 : decode cX7_apply 88 = .ok (.iadd, 1) := by decide +kernel
theorem dX7_apply_89 : decode cX7_apply 89 = .ok (.iastore, 1) := by decide +kernel
theorem dX7_apply_90 : decode cX7_apply 90 = .ok (.return_, 1) := by decide +kernel
set_option maxRecDepth 20000 in
theorem ggX7_copyKeys_X7_row : GoodIn wsX7_copyKeys wsX7_row := goodIn_r _ [6, 1, 18, 19, 20, 21, 22, 23, 24, 25, 26, 27, 28, 29, 30] (by rfl) (by decide +kernel)
set_option maxRecDepth 20000 in
theorem gX7_copyKeys_X7_row : GoodIn wsX7_copyKeys (wsV RX7 29 RX7 yX7_row wsX7_row) := goodIn_app (goodIn_r _ [2, 3, 4, 5] (by rfl) (by decide +kernel)) ggX7_copyKeys_X7_row
set_option maxRecDepth 20000 in
theorem ggX7_copyKeys_X7_due : GoodIn wsX7_copyKeys wsX7_due := goodIn_r _ [10, 1, 2, 3, 4, 5, 6, 11, 12, 13, 18, 19, 20, 21, 22, 23, 24, 25, 26, 27, 28, 29, 30] (by rfl) (by decide +kernel)
set_option maxRecDepth 20000 in
theorem gX7_copyKeys_X7_due : GoodIn wsX7_copyKeys (wsV RX7 49 RX7 yX7_due wsX7_due) := goodIn_app (goodIn_r _ [7, 8, 9, 5] (by rfl) (by decide +kernel)) ggX7_copyKeys_X7_due
set_option maxRecDepth 20000 in
theorem ggX7_copyKeys_X7_lay : GoodIn wsX7_copyKeys wsX7_lay := goodIn_r _ [17, 1, 18, 19, 20, 21, 22, 23, 24, 25, 26, 27, 28, 29, 30] (by rfl) (by decide +kernel)
set_option maxRecDepth 20000 in
theorem gX7_copyKeys_X7_lay : GoodIn wsX7_copyKeys (wsV RX7 53 RX7 yX7_lay wsX7_lay) := goodIn_app (goodIn_r _ [14, 15, 16, 5] (by rfl) (by decide +kernel)) ggX7_copyKeys_X7_lay
theorem dX7_copyKeys_0 : decode cX7_copyKeys 0 = .ok (.iconst 0, 1) := by decide +kernel
theorem dX7_copyKeys_1 : decode cX7_copyKeys 1 = .ok (.istore_n 1, 1) := by decide +kernel
theorem dX7_copyKeys_2 : decode cX7_copyKeys 2 = .ok (.aload_n 0, 1) := by decide +kernel
theorem dX7_copyKeys_3 : decode cX7_copyKeys 3 = .ok (.getfield 7, 3) := by decide +kernel
theorem dX7_copyKeys_6 : decode cX7_copyKeys 6 = .ok (.iconst 3, 1) := by decide +kernel
theorem dX7_copyKeys_7 : decode cX7_copyKeys 7 = .ok (.iaload, 1) := by decide +kernel
theorem dX7_copyKeys_8 : decode cX7_copyKeys 8 = .ok (.bipush 32, 2) := by decide +kernel
theorem dX7_copyKeys_10 : decode cX7_copyKeys 10 = .ok (.if_icmp .ge 92, 3) := by decide +kernel
theorem dX7_copyKeys_13 : decode cX7_copyKeys 13 = .ok (.iload_n 1, 1) := by decide +kernel
theorem dX7_copyKeys_14 : decode cX7_copyKeys 14 = .ok (.aload_n 0, 1) := by decide +kernel
theorem dX7_copyKeys_15 : decode cX7_copyKeys 15 = .ok (.getfield 7, 3) := by decide +kernel
theorem dX7_copyKeys_18 : decode cX7_copyKeys 18 = .ok (.iconst 2, 1) := by decide +kernel
theorem dX7_copyKeys_19 : decode cX7_copyKeys 19 = .ok (.iaload, 1) := by decide +kernel
theorem dX7_copyKeys_20 : decode cX7_copyKeys 20 = .ok (.if_icmp .ge 82, 3) := by decide +kernel
theorem dX7_copyKeys_23 : decode cX7_copyKeys 23 = .ok (.aload_n 0, 1) := by decide +kernel
theorem dX7_copyKeys_24 : decode cX7_copyKeys 24 = .ok (.getfield 7, 3) := by decide +kernel
theorem dX7_copyKeys_27 : decode cX7_copyKeys 27 = .ok (.iconst 3, 1) := by decide +kernel
theorem dX7_copyKeys_28 : decode cX7_copyKeys 28 = .ok (.iaload, 1) := by decide +kernel
theorem dX7_copyKeys_29 : decode cX7_copyKeys 29 = .ok (.istore_n 2, 1) := by decide +kernel
theorem dX7_copyKeys_30 : decode cX7_copyKeys 30 = .ok (.iload_n 1, 1) := by decide +kernel
theorem dX7_copyKeys_31 : decode cX7_copyKeys 31 = .ok (.aload_n 0, 1) := by decide +kernel
theorem dX7_copyKeys_32 : decode cX7_copyKeys 32 = .ok (.iconst 0, 1) := by decide +kernel
theorem dX7_copyKeys_33 : decode cX7_copyKeys 33 = .ok (.iload_n 2, 1) := by decide +kernel
theorem dX7_copyKeys_34 : decode cX7_copyKeys 34 = .ok (.invokevirtual 29, 3) := by decide +kernel
theorem dX7_copyKeys_37 : decode cX7_copyKeys 37 = .ok (.iconst (-1), 1) := by decide +kernel
theorem dX7_copyKeys_38 : decode cX7_copyKeys 38 = .ok (.if_icmp .ne 7, 3) := by decide +kernel
theorem dX7_copyKeys_41 : decode cX7_copyKeys 41 = .ok (.iconst 0, 1) := by decide +kernel
theorem dX7_copyKeys_42 : decode cX7_copyKeys 42 = .ok (.goto 4, 3) := by decide +kernel
theorem dX7_copyKeys_45 : decode cX7_copyKeys 45 = .ok (.iconst 1, 1) := by decide +kernel
theorem dX7_copyKeys_46 : decode cX7_copyKeys 46 = .ok (.iadd, 1) := by decide +kernel
theorem dX7_copyKeys_47 : decode cX7_copyKeys 47 = .ok (.istore_n 1, 1) := by decide +kernel
theorem dX7_copyKeys_48 : decode cX7_copyKeys 48 = .ok (.aload_n 0, 1) := by decide +kernel
theorem dX7_copyKeys_49 : decode cX7_copyKeys 49 = .ok (.iconst 1, 1) := by decide +kernel
theorem dX7_copyKeys_50 : decode cX7_copyKeys 50 = .ok (.iload_n 2, 1) := by decide +kernel
theorem dX7_copyKeys_51 : decode cX7_copyKeys 51 = .ok (.invokevirtual 29, 3) := by decide +kernel
theorem dX7_copyKeys_54 : decode cX7_copyKeys 54 = .ok (.iconst (-1), 1) := by decide +kernel
theorem dX7_copyKeys_55 : decode cX7_copyKeys 55 = .ok (.if_icmp .ne 34, 3) := by decide +kernel
theorem dX7_copyKeys_58 : decode cX7_copyKeys 58 = .ok (.aload_n 0, 1) := by decide +kernel
theorem dX7_copyKeys_59 : decode cX7_copyKeys 59 = .ok (.iload_n 2, 1) := by decide +kernel
theorem dX7_copyKeys_60 : decode cX7_copyKeys 60 = .ok (.invokevirtual 49, 3) := by decide +kernel
theorem dX7_copyKeys_63 : decode cX7_copyKeys 63 = .ok (.iconst (-1), 1) := by decide +kernel
theorem dX7_copyKeys_64 : decode cX7_copyKeys 64 = .ok (.if_icmp .eq 25, 3) := by decide +kernel
theorem dX7_copyKeys_67 : decode cX7_copyKeys 67 = .ok (.aload_n 0, 1) := by decide +kernel
theorem dX7_copyKeys_68 : decode cX7_copyKeys 68 = .ok (.iconst 1, 1) := by decide +kernel
theorem dX7_copyKeys_69 : decode cX7_copyKeys 69 = .ok (.iload_n 2, 1) := by decide +kernel
theorem dX7_copyKeys_70 : decode cX7_copyKeys 70 = .ok (.aload_n 0, 1) := by decide +kernel
theorem dX7_copyKeys_71 : decode cX7_copyKeys 71 = .ok (.iload_n 2, 1) := by decide +kernel
theorem dX7_copyKeys_72 : decode cX7_copyKeys 72 = .ok (.invokevirtual 49, 3) := by decide +kernel
theorem dX7_copyKeys_75 : decode cX7_copyKeys 75 = .ok (.invokevirtual 53, 3) := by decide +kernel
theorem dX7_copyKeys_78 : decode cX7_copyKeys 78 = .ok (.aload_n 0, 1) := by decide +kernel
theorem dX7_copyKeys_79 : decode cX7_copyKeys 79 = .ok (.getfield 7, 3) := by decide +kernel
theorem dX7_copyKeys_82 : decode cX7_copyKeys 82 = .ok (.bipush 17, 2) := by decide +kernel
theorem dX7_copyKeys_84 : decode cX7_copyKeys 84 = .ok (.dup2, 1) := by decide +kernel
theorem dX7_copyKeys_85 : decode cX7_copyKeys 85 = .ok (.iaload, 1) := by decide +kernel
theorem dX7_copyKeys_86 : decode cX7_copyKeys 86 = .ok (.iconst 1, 1) := by decide +kernel
theorem dX7_copyKeys_87 : decode cX7_copyKeys 87 = .ok (.iadd, 1) := by decide +kernel
theorem dX7_copyKeys_88 : decode cX7_copyKeys 88 = .ok (.iastore, 1) := by decide +kernel
theorem dX7_copyKeys_89 : decode cX7_copyKeys 89 = .ok (.aload_n 0, 1) := by decide +kernel
theorem dX7_copyKeys_90 : decode cX7_copyKeys 90 = .ok (.getfield 7, 3) := by decide +kernel
theorem dX7_copyKeys_93 : decode cX7_copyKeys 93 = .ok (.iconst 3, 1) := by decide +kernel
theorem dX7_copyKeys_94 : decode cX7_copyKeys 94 = .ok (.dup2, 1) := by decide +kernel
theorem dX7_copyKeys_95 : decode cX7_copyKeys 95 = .ok (.iaload, 1) := by decide +kernel
theorem dX7_copyKeys_96 : decode cX7_copyKeys 96 = .ok (.iconst 1, 1) := by decide +kernel
theorem dX7_copyKeys_97 : decode cX7_copyKeys 97 = .ok (.iadd, 1) := by decide +kernel
theorem dX7_copyKeys_98 : decode cX7_copyKeys 98 = .ok (.iastore, 1) := by decide +kernel
theorem dX7_copyKeys_99 : decode cX7_copyKeys 99 = .ok (.goto (-97), 3) := by decide +kernel
theorem dX7_copyKeys_102 : decode cX7_copyKeys 102 = .ok (.aload_n 0, 1) := by decide +kernel
theorem dX7_copyKeys_103 : decode cX7_copyKeys 103 = .ok (.getfield 7, 3) := by decide +kernel
theorem dX7_copyKeys_106 : decode cX7_copyKeys 106 = .ok (.iconst 0, 1) := by decide +kernel
theorem dX7_copyKeys_107 : decode cX7_copyKeys 107 = .ok (.aload_n 0, 1) := by decide +kernel
theorem dX7_copyKeys_108 : decode cX7_copyKeys 108 = .ok (.getfield 7, 3) := by decide +kernel
theorem dX7_copyKeys_111 : decode cX7_copyKeys 111 = .ok (.iconst 3, 1) := by decide +kernel
theorem dX7_copyKeys_112 : decode cX7_copyKeys 112 = .ok (.iaload, 1) := by decide +kernel
theorem dX7_copyKeys_113 : decode cX7_copyKeys 113 = .ok (.bipush 32, 2) := by decide +kernel
theorem dX7_copyKeys_115 : decode cX7_copyKeys 115 = .ok (.if_icmp .ne 7, 3) := by decide +kernel
theorem dX7_copyKeys_118 : decode cX7_copyKeys 118 = .ok (.iconst 2, 1) := by decide +kernel
theorem dX7_copyKeys_119 : decode cX7_copyKeys 119 = .ok (.goto 4, 3) := by decide +kernel
theorem dX7_copyKeys_122 : decode cX7_copyKeys 122 = .ok (.iconst 1, 1) := by decide +kernel
theorem dX7_copyKeys_123 : decode cX7_copyKeys 123 = .ok (.iastore, 1) := by decide +kernel
theorem dX7_copyKeys_124 : decode cX7_copyKeys 124 = .ok (.return_, 1) := by decide +kernel
set_option maxRecDepth 20000 in
theorem ggX7_tickOnce_X7_isCopy : GoodIn wsX7_tickOnce wsX7_isCopy := goodIn_r _ [6, 1, 30, 31, 32, 33, 34, 35, 36, 37, 38, 39, 40, 41, 42] (by rfl) (by decide +kernel)
set_option maxRecDepth 20000 in
theorem gX7_tickOnce_X7_isCopy : GoodIn wsX7_tickOnce (wsV RX7 33 RX7 yX7_isCopy wsX7_isCopy) := goodIn_app (goodIn_r _ [2, 3, 4, 5] (by rfl) (by decide +kernel)) ggX7_tickOnce_X7_isCopy
set_option maxRecDepth 20000 in
theorem ggX7_tickOnce_X7_apply : GoodIn wsX7_tickOnce wsX7_apply := goodIn_r _ [10, 1, 11, 12, 5, 13, 14, 15, 16, 17, 30, 31, 32, 33, 34, 35, 36, 37, 38, 39, 40, 41, 42] (by rfl) (by decide +kernel)
set_option maxRecDepth 20000 in
theorem gX7_tickOnce_X7_apply : GoodIn wsX7_tickOnce (wsV RX7 57 RX7 yX7_apply wsX7_apply) := goodIn_app (goodIn_r _ [7, 8, 9, 5] (by rfl) (by decide +kernel)) ggX7_tickOnce_X7_apply
set_option maxRecDepth 20000 in
theorem ggX7_tickOnce_X7_copyKeys : GoodIn wsX7_tickOnce wsX7_copyKeys := goodIn_r _ [21, 1, 22, 23, 24, 5, 25, 26, 27, 28, 29, 11, 12, 13, 14, 15, 16, 17, 30, 31, 32, 33, 34, 35, 36, 37, 38, 39, 40, 41, 42] (by rfl) (by decide +kernel)
set_option maxRecDepth 20000 in
theorem gX7_tickOnce_X7_copyKeys : GoodIn wsX7_tickOnce (wsV RX7 60 RX7 yX7_copyKeys wsX7_copyKeys) := goodIn_app (goodIn_r _ [18, 19, 20, 5] (by rfl) (by decide +kernel)) ggX7_tickOnce_X7_copyKeys
theorem dX7_tickOnce_0 : decode cX7_tickOnce 0 = .ok (.aload_n 0, 1) := by decide +kernel
theorem dX7_tickOnce_1 : decode cX7_tickOnce 1 = .ok (.getfield 7, 3) := by decide +kernel
theorem dX7_tickOnce_4 : decode cX7_tickOnce 4 = .ok (.bipush 18, 2) := by decide +kernel
theorem dX7_tickOnce_6 : decode cX7_tickOnce 6 = .ok (.dup2, 1) := by decide +kernel
theorem dX7_tickOnce_7 : decode cX7_tickOnce 7 = .ok (.iaload, 1) := by decide +kernel
theorem dX7_tickOnce_8 : decode cX7_tickOnce 8 = .ok (.iconst 1, 1) := by decide +kernel
theorem dX7_tickOnce_9 : decode cX7_tickOnce 9 = .ok (.iadd, 1) := by decide +kernel
theorem dX7_tickOnce_10 : decode cX7_tickOnce 10 = .ok (.iastore, 1) := by decide +kernel
theorem dX7_tickOnce_11 : decode cX7_tickOnce 11 = .ok (.aload_n 0, 1) := by decide +kernel
theorem dX7_tickOnce_12 : decode cX7_tickOnce 12 = .ok (.invokevirtual 33, 3) := by decide +kernel
theorem dX7_tickOnce_15 : decode cX7_tickOnce 15 = .ok (.ifCond .ne 4, 3) := by decide +kernel
theorem dX7_tickOnce_18 : decode cX7_tickOnce 18 = .ok (.return_, 1) := by decide +kernel
theorem dX7_tickOnce_19 : decode cX7_tickOnce 19 = .ok (.aload_n 0, 1) := by decide +kernel
theorem dX7_tickOnce_20 : decode cX7_tickOnce 20 = .ok (.getfield 7, 3) := by decide +kernel
theorem dX7_tickOnce_23 : decode cX7_tickOnce 23 = .ok (.iconst 0, 1) := by decide +kernel
theorem dX7_tickOnce_24 : decode cX7_tickOnce 24 = .ok (.iaload, 1) := by decide +kernel
theorem dX7_tickOnce_25 : decode cX7_tickOnce 25 = .ok (.iconst 3, 1) := by decide +kernel
theorem dX7_tickOnce_26 : decode cX7_tickOnce 26 = .ok (.if_icmp .ne 48, 3) := by decide +kernel
theorem dX7_tickOnce_29 : decode cX7_tickOnce 29 = .ok (.aload_n 0, 1) := by decide +kernel
theorem dX7_tickOnce_30 : decode cX7_tickOnce 30 = .ok (.getfield 7, 3) := by decide +kernel
theorem dX7_tickOnce_33 : decode cX7_tickOnce 33 = .ok (.iconst 5, 1) := by decide +kernel
theorem dX7_tickOnce_34 : decode cX7_tickOnce 34 = .ok (.dup2, 1) := by decide +kernel
theorem dX7_tickOnce_35 : decode cX7_tickOnce 35 = .ok (.iaload, 1) := by decide +kernel
theorem dX7_tickOnce_36 : decode cX7_tickOnce 36 = .ok (.iconst 1, 1) := by decide +kernel
theorem dX7_tickOnce_37 : decode cX7_tickOnce 37 = .ok (.iadd, 1) := by decide +kernel
theorem dX7_tickOnce_38 : decode cX7_tickOnce 38 = .ok (.iastore, 1) := by decide +kernel
theorem dX7_tickOnce_39 : decode cX7_tickOnce 39 = .ok (.aload_n 0, 1) := by decide +kernel
theorem dX7_tickOnce_40 : decode cX7_tickOnce 40 = .ok (.getfield 7, 3) := by decide +kernel
theorem dX7_tickOnce_43 : decode cX7_tickOnce 43 = .ok (.iconst 5, 1) := by decide +kernel
theorem dX7_tickOnce_44 : decode cX7_tickOnce 44 = .ok (.iaload, 1) := by decide +kernel
theorem dX7_tickOnce_45 : decode cX7_tickOnce 45 = .ok (.aload_n 0, 1) := by decide +kernel
theorem dX7_tickOnce_46 : decode cX7_tickOnce 46 = .ok (.getfield 7, 3) := by decide +kernel
theorem dX7_tickOnce_49 : decode cX7_tickOnce 49 = .ok (.bipush 9, 2) := by decide +kernel
theorem dX7_tickOnce_51 : decode cX7_tickOnce 51 = .ok (.iaload, 1) := by decide +kernel
theorem dX7_tickOnce_52 : decode cX7_tickOnce 52 = .ok (.if_icmp .le 22, 3) := by decide +kernel
theorem dX7_tickOnce_55 : decode cX7_tickOnce 55 = .ok (.aload_n 0, 1) := by decide +kernel
theorem dX7_tickOnce_56 : decode cX7_tickOnce 56 = .ok (.getfield 7, 3) := by decide +kernel
theorem dX7_tickOnce_59 : decode cX7_tickOnce 59 = .ok (.iconst 0, 1) := by decide +kernel
theorem dX7_tickOnce_60 : decode cX7_tickOnce 60 = .ok (.iconst 2, 1) := by decide +kernel
theorem dX7_tickOnce_61 : decode cX7_tickOnce 61 = .ok (.iastore, 1) := by decide +kernel
theorem dX7_tickOnce_62 : decode cX7_tickOnce 62 = .ok (.aload_n 0, 1) := by decide +kernel
theorem dX7_tickOnce_63 : decode cX7_tickOnce 63 = .ok (.getfield 7, 3) := by decide +kernel
theorem dX7_tickOnce_66 : decode cX7_tickOnce 66 = .ok (.bipush 14, 2) := by decide +kernel
theorem dX7_tickOnce_68 : decode cX7_tickOnce 68 = .ok (.dup2, 1) := by decide +kernel
theorem dX7_tickOnce_69 : decode cX7_tickOnce 69 = .ok (.iaload, 1) := by decide +kernel
theorem dX7_tickOnce_70 : decode cX7_tickOnce 70 = .ok (.iconst 1, 1) := by decide +kernel
theorem dX7_tickOnce_71 : decode cX7_tickOnce 71 = .ok (.iadd, 1) := by decide +kernel
theorem dX7_tickOnce_72 : decode cX7_tickOnce 72 = .ok (.iastore, 1) := by decide +kernel
theorem dX7_tickOnce_73 : decode cX7_tickOnce 73 = .ok (.return_, 1) := by decide +kernel
theorem dX7_tickOnce_74 : decode cX7_tickOnce 74 = .ok (.iconst 0, 1) := by decide +kernel
theorem dX7_tickOnce_75 : decode cX7_tickOnce 75 = .ok (.istore_n 1, 1) := by decide +kernel
theorem dX7_tickOnce_76 : decode cX7_tickOnce 76 = .ok (.iload_n 1, 1) := by decide +kernel
theorem dX7_tickOnce_77 : decode cX7_tickOnce 77 = .ok (.aload_n 0, 1) := by decide +kernel
theorem dX7_tickOnce_78 : decode cX7_tickOnce 78 = .ok (.getfield 7, 3) := by decide +kernel
theorem dX7_tickOnce_81 : decode cX7_tickOnce 81 = .ok (.bipush 7, 2) := by decide +kernel
theorem dX7_tickOnce_83 : decode cX7_tickOnce 83 = .ok (.iaload, 1) := by decide +kernel
theorem dX7_tickOnce_84 : decode cX7_tickOnce 84 = .ok (.if_icmp .ge 22, 3) := by decide +kernel
theorem dX7_tickOnce_87 : decode cX7_tickOnce 87 = .ok (.aload_n 0, 1) := by decide +kernel
theorem dX7_tickOnce_88 : decode cX7_tickOnce 88 = .ok (.getfield 7, 3) := by decide +kernel
theorem dX7_tickOnce_91 : decode cX7_tickOnce 91 = .ok (.iconst 4, 1) := by decide +kernel
theorem dX7_tickOnce_92 : decode cX7_tickOnce 92 = .ok (.iaload, 1) := by decide +kernel
theorem dX7_tickOnce_93 : decode cX7_tickOnce 93 = .ok (.ifCond .le 13, 3) := by decide +kernel
theorem dX7_tickOnce_96 : decode cX7_tickOnce 96 = .ok (.aload_n 0, 1) := by decide +kernel
theorem dX7_tickOnce_97 : decode cX7_tickOnce 97 = .ok (.invokevirtual 57, 3) := by decide +kernel
theorem dX7_tickOnce_100 : decode cX7_tickOnce 100 = .ok (.iinc 1 1, 3) := by decide +kernel
theorem dX7_tickOnce_103 : decode cX7_tickOnce 103 = .ok (.goto (-27), 3) := by decide +kernel
theorem dX7_tickOnce_106 : decode cX7_tickOnce 106 = .ok (.aload_n 0, 1) := by decide +kernel
theorem dX7_tickOnce_107 : decode cX7_tickOnce 107 = .ok (.getfield 7, 3) := by decide +kernel
theorem dX7_tickOnce_110 : decode cX7_tickOnce 110 = .ok (.iconst 0, 1) := by decide +kernel
theorem dX7_tickOnce_111 : decode cX7_tickOnce 111 = .ok (.iaload, 1) := by decide +kernel
theorem dX7_tickOnce_112 : decode cX7_tickOnce 112 = .ok (.iconst 1, 1) := by decide +kernel
theorem dX7_tickOnce_113 : decode cX7_tickOnce 113 = .ok (.if_icmp .ne 37, 3) := by decide +kernel
theorem dX7_tickOnce_116 : decode cX7_tickOnce 116 = .ok (.aload_n 0, 1) := by decide +kernel
theorem dX7_tickOnce_117 : decode cX7_tickOnce 117 = .ok (.getfield 7, 3) := by decide +kernel
theorem dX7_tickOnce_120 : decode cX7_tickOnce 120 = .ok (.iconst 4, 1) := by decide +kernel
theorem dX7_tickOnce_121 : decode cX7_tickOnce 121 = .ok (.iaload, 1) := by decide +kernel
theorem dX7_tickOnce_122 : decode cX7_tickOnce 122 = .ok (.aload_n 0, 1) := by decide +kernel
theorem dX7_tickOnce_123 : decode cX7_tickOnce 123 = .ok (.getfield 7, 3) := by decide +kernel
theorem dX7_tickOnce_126 : decode cX7_tickOnce 126 = .ok (.bipush 8, 2) := by decide +kernel
theorem dX7_tickOnce_128 : decode cX7_tickOnce 128 = .ok (.iaload, 1) := by decide +kernel
theorem dX7_tickOnce_129 : decode cX7_tickOnce 129 = .ok (.if_icmp .le 17, 3) := by decide +kernel
theorem dX7_tickOnce_132 : decode cX7_tickOnce 132 = .ok (.aload_n 0, 1) := by decide +kernel
theorem dX7_tickOnce_133 : decode cX7_tickOnce 133 = .ok (.getfield 7, 3) := by decide +kernel
theorem dX7_tickOnce_136 : decode cX7_tickOnce 136 = .ok (.bipush 15, 2) := by decide +kernel
theorem dX7_tickOnce_138 : decode cX7_tickOnce 138 = .ok (.dup2, 1) := by decide +kernel
theorem dX7_tickOnce_139 : decode cX7_tickOnce 139 = .ok (.iaload, 1) := by decide +kernel
theorem dX7_tickOnce_140 : decode cX7_tickOnce 140 = .ok (.iconst 1, 1) := by decide +kernel
theorem dX7_tickOnce_141 : decode cX7_tickOnce 141 = .ok (.iadd, 1) := by decide +kernel
theorem dX7_tickOnce_142 : decode cX7_tickOnce 142 = .ok (.iastore, 1) := by decide +kernel
theorem dX7_tickOnce_143 : decode cX7_tickOnce 143 = .ok (.goto 7, 3) := by decide +kernel
theorem dX7_tickOnce_146 : decode cX7_tickOnce 146 = .ok (.aload_n 0, 1) := by decide +kernel
theorem dX7_tickOnce_147 : decode cX7_tickOnce 147 = .ok (.invokevirtual 60, 3) := by decide +kernel
theorem dX7_tickOnce_150 : decode cX7_tickOnce 150 = .ok (.return_, 1) := by decide +kernel
set_option maxRecDepth 20000 in
theorem ggX7_isLogFull_X7_isCopy : GoodIn wsX7_isLogFull wsX7_isCopy := goodIn_r _ [6, 1, 7, 8, 9, 10, 11, 12, 13, 14, 15, 16, 17, 18, 19] (by rfl) (by decide +kernel)
set_option maxRecDepth 20000 in
theorem gX7_isLogFull_X7_isCopy : GoodIn wsX7_isLogFull (wsV RX7 33 RX7 yX7_isCopy wsX7_isCopy) := goodIn_app (goodIn_r _ [2, 3, 4, 5] (by rfl) (by decide +kernel)) ggX7_isLogFull_X7_isCopy
theorem dX7_isLogFull_0 : decode cX7_isLogFull 0 = .ok (.aload_n 0, 1) := by decide +kernel
theorem dX7_isLogFull_1 : decode cX7_isLogFull 1 = .ok (.invokevirtual 33, 3) := by decide +kernel
theorem dX7_isLogFull_4 : decode cX7_isLogFull 4 = .ok (.ifCond .eq 18, 3) := by decide +kernel
theorem dX7_isLogFull_7 : decode cX7_isLogFull 7 = .ok (.aload_n 0, 1) := by decide +kernel
theorem dX7_isLogFull_8 : decode cX7_isLogFull 8 = .ok (.getfield 7, 3) := by decide +kernel
theorem dX7_isLogFull_11 : decode cX7_isLogFull 11 = .ok (.iconst 4, 1) := by decide +kernel
theorem dX7_isLogFull_12 : decode cX7_isLogFull 12 = .ok (.iaload, 1) := by decide +kernel
theorem dX7_isLogFull_13 : decode cX7_isLogFull 13 = .ok (.bipush 24, 2) := by decide +kernel
theorem dX7_isLogFull_15 : decode cX7_isLogFull 15 = .ok (.if_icmp .ne 7, 3) := by decide +kernel
theorem dX7_isLogFull_18 : decode cX7_isLogFull 18 = .ok (.iconst 1, 1) := by decide +kernel
theorem dX7_isLogFull_19 : decode cX7_isLogFull 19 = .ok (.goto 4, 3) := by decide +kernel
theorem dX7_isLogFull_22 : decode cX7_isLogFull 22 = .ok (.iconst 0, 1) := by decide +kernel
theorem dX7_isLogFull_23 : decode cX7_isLogFull 23 = .ok (.ireturn, 1) := by decide +kernel
set_option maxRecDepth 20000 in
theorem ggX7_changeError_X7_isLogFull : GoodIn wsX7_changeError wsX7_isLogFull := goodIn_r _ [6, 1, 7, 8, 9, 5, 10, 11, 12, 13, 14, 15, 16, 17, 18, 19, 20, 21, 22, 23] (by rfl) (by decide +kernel)
set_option maxRecDepth 20000 in
theorem gX7_changeError_X7_isLogFull : GoodIn wsX7_changeError (wsV RX7 63 RX7 yX7_isLogFull wsX7_isLogFull) := goodIn_app (goodIn_r _ [2, 3, 4, 5] (by rfl) (by decide +kernel)) ggX7_changeError_X7_isLogFull
theorem dX7_changeError_0 : decode cX7_changeError 0 = .ok (.aload_n 0, 1) := by decide +kernel
theorem dX7_changeError_1 : decode cX7_changeError 1 = .ok (.getfield 7, 3) := by decide +kernel
theorem dX7_changeError_4 : decode cX7_changeError 4 = .ok (.iconst 0, 1) := by decide +kernel
theorem dX7_changeError_5 : decode cX7_changeError 5 = .ok (.iaload, 1) := by decide +kernel
theorem dX7_changeError_6 : decode cX7_changeError 6 = .ok (.iconst 3, 1) := by decide +kernel
theorem dX7_changeError_7 : decode cX7_changeError 7 = .ok (.if_icmp .ne 8, 3) := by decide +kernel
theorem dX7_changeError_10 : decode cX7_changeError 10 = .ok (.bipush (-4), 2) := by decide +kernel
theorem dX7_changeError_12 : decode cX7_changeError 12 = .ok (.goto 27, 3) := by decide +kernel
theorem dX7_changeError_15 : decode cX7_changeError 15 = .ok (.aload_n 0, 1) := by decide +kernel
theorem dX7_changeError_16 : decode cX7_changeError 16 = .ok (.invokevirtual 63, 3) := by decide +kernel
theorem dX7_changeError_19 : decode cX7_changeError 19 = .ok (.ifCond .eq 19, 3) := by decide +kernel
theorem dX7_changeError_22 : decode cX7_changeError 22 = .ok (.aload_n 0, 1) := by decide +kernel
theorem dX7_changeError_23 : decode cX7_changeError 23 = .ok (.getfield 7, 3) := by decide +kernel
theorem dX7_changeError_26 : decode cX7_changeError 26 = .ok (.bipush 10, 2) := by decide +kernel
theorem dX7_changeError_28 : decode cX7_changeError 28 = .ok (.iaload, 1) := by decide +kernel
theorem dX7_changeError_29 : decode cX7_changeError 29 = .ok (.iconst 1, 1) := by decide +kernel
theorem dX7_changeError_30 : decode cX7_changeError 30 = .ok (.if_icmp .ne 8, 3) := by decide +kernel
theorem dX7_changeError_33 : decode cX7_changeError 33 = .ok (.bipush (-3), 2) := by decide +kernel
theorem dX7_changeError_35 : decode cX7_changeError 35 = .ok (.goto 4, 3) := by decide +kernel
theorem dX7_changeError_38 : decode cX7_changeError 38 = .ok (.iconst 0, 1) := by decide +kernel
theorem dX7_changeError_39 : decode cX7_changeError 39 = .ok (.ireturn, 1) := by decide +kernel
set_option maxRecDepth 20000 in
theorem ggX7_putError_X7_isKey : GoodIn wsX7_putError wsX7_isKey := goodIn_r _ [4, 5, 6, 3, 7] (by rfl) (by decide +kernel)
set_option maxRecDepth 20000 in
theorem gX7_putError_X7_isKey : GoodIn wsX7_putError (va_wsS RX7 66 yX7_isKey wsX7_isKey) := goodIn_app (goodIn_r _ [1, 2, 3] (by rfl) (by decide +kernel)) ggX7_putError_X7_isKey
set_option maxRecDepth 20000 in
theorem ggX7_putError_X7_in : GoodIn wsX7_putError wsX7_in := goodIn_r _ [7] (by rfl) (by decide +kernel)
set_option maxRecDepth 20000 in
theorem gX7_putError_X7_in : GoodIn wsX7_putError (va_wsS RX7 25 yX7_in wsX7_in) := goodIn_app (goodIn_r _ [5, 6, 3] (by rfl) (by decide +kernel)) ggX7_putError_X7_in
set_option maxRecDepth 20000 in
theorem ggX7_putError_X7_changeError : GoodIn wsX7_putError wsX7_changeError := goodIn_r _ [11, 12, 13, 14, 15, 3, 16, 17, 18, 19, 20, 21, 22, 23, 24, 25, 26, 27, 28, 29, 30, 31, 32, 33] (by rfl) (by decide +kernel)
set_option maxRecDepth 20000 in
theorem gX7_putError_X7_changeError : GoodIn wsX7_putError (wsV RX7 70 RX7 yX7_changeError wsX7_changeError) := goodIn_app (goodIn_r _ [8, 9, 10, 3] (by rfl) (by decide +kernel)) ggX7_putError_X7_changeError
theorem dX7_putError_0 : decode cX7_putError 0 = .ok (.iload_n 1, 1) := by decide +kernel
theorem dX7_putError_1 : decode cX7_putError 1 = .ok (.invokestatic 66, 3) := by decide +kernel
theorem dX7_putError_4 : decode cX7_putError 4 = .ok (.ifCond .ne 7, 3) := by decide +kernel
theorem dX7_putError_7 : decode cX7_putError 7 = .ok (.iconst (-1), 1) := by decide +kernel
theorem dX7_putError_8 : decode cX7_putError 8 = .ok (.goto 22, 3) := by decide +kernel
theorem dX7_putError_11 : decode cX7_putError 11 = .ok (.iload_n 2, 1) := by decide +kernel
theorem dX7_putError_12 : decode cX7_putError 12 = .ok (.iconst 0, 1) := by decide +kernel
theorem dX7_putError_13 : decode cX7_putError 13 = .ok (.bipush 99, 2) := by decide +kernel
theorem dX7_putError_15 : decode cX7_putError 15 = .ok (.invokestatic 25, 3) := by decide +kernel
theorem dX7_putError_18 : decode cX7_putError 18 = .ok (.ifCond .ne 8, 3) := by decide +kernel
theorem dX7_putError_21 : decode cX7_putError 21 = .ok (.bipush (-2), 2) := by decide +kernel
theorem dX7_putError_23 : decode cX7_putError 23 = .ok (.goto 7, 3) := by decide +kernel
theorem dX7_putError_26 : decode cX7_putError 26 = .ok (.aload_n 0, 1) := by decide +kernel
theorem dX7_putError_27 : decode cX7_putError 27 = .ok (.invokevirtual 70, 3) := by decide +kernel
theorem dX7_putError_30 : decode cX7_putError 30 = .ok (.ireturn, 1) := by decide +kernel
set_option maxRecDepth 20000 in
theorem ggX7_eraseError_X7_isKey : GoodIn wsX7_eraseError wsX7_isKey := goodIn_r _ [5, 6, 7, 4, 8] (by rfl) (by decide +kernel)
set_option maxRecDepth 20000 in
theorem gX7_eraseError_X7_isKey : GoodIn wsX7_eraseError (va_wsS RX7 66 yX7_isKey wsX7_isKey) := goodIn_app (goodIn_r _ [2, 3, 4] (by rfl) (by decide +kernel)) ggX7_eraseError_X7_isKey
set_option maxRecDepth 20000 in
theorem ggX7_eraseError_X7_row : GoodIn wsX7_eraseError wsX7_row := goodIn_r _ [12, 1, 25, 26, 27, 28, 29, 30, 31, 32, 33, 34, 35, 36, 37] (by rfl) (by decide +kernel)
set_option maxRecDepth 20000 in
theorem gX7_eraseError_X7_row : GoodIn wsX7_eraseError (wsV RX7 29 RX7 yX7_row wsX7_row) := goodIn_app (goodIn_r _ [9, 10, 11, 4] (by rfl) (by decide +kernel)) ggX7_eraseError_X7_row
set_option maxRecDepth 20000 in
theorem ggX7_eraseError_X7_changeError : GoodIn wsX7_eraseError wsX7_changeError := goodIn_r _ [16, 1, 17, 18, 19, 4, 20, 21, 22, 23, 24, 25, 26, 27, 28, 29, 30, 31, 32, 33, 34, 35, 36, 37] (by rfl) (by decide +kernel)
set_option maxRecDepth 20000 in
theorem gX7_eraseError_X7_changeError : GoodIn wsX7_eraseError (wsV RX7 70 RX7 yX7_changeError wsX7_changeError) := goodIn_app (goodIn_r _ [13, 14, 15, 4] (by rfl) (by decide +kernel)) ggX7_eraseError_X7_changeError
theorem dX7_eraseError_0 : decode cX7_eraseError 0 = .ok (.iload_n 1, 1) := by decide +kernel
theorem dX7_eraseError_1 : decode cX7_eraseError 1 = .ok (.invokestatic 66, 3) := by decide +kernel
theorem dX7_eraseError_4 : decode cX7_eraseError 4 = .ok (.ifCond .ne 5, 3) := by decide +kernel
theorem dX7_eraseError_7 : decode cX7_eraseError 7 = .ok (.iconst (-1), 1) := by decide +kernel
theorem dX7_eraseError_8 : decode cX7_eraseError 8 = .ok (.ireturn, 1) := by decide +kernel
theorem dX7_eraseError_9 : decode cX7_eraseError 9 = .ok (.aload_n 0, 1) := by decide +kernel
theorem dX7_eraseError_10 : decode cX7_eraseError 10 = .ok (.iconst 0, 1) := by decide +kernel
theorem dX7_eraseError_11 : decode cX7_eraseError 11 = .ok (.iload_n 1, 1) := by decide +kernel
theorem dX7_eraseError_12 : decode cX7_eraseError 12 = .ok (.invokevirtual 29, 3) := by decide +kernel
theorem dX7_eraseError_15 : decode cX7_eraseError 15 = .ok (.iconst (-1), 1) := by decide +kernel
theorem dX7_eraseError_16 : decode cX7_eraseError 16 = .ok (.if_icmp .ne 17, 3) := by decide +kernel
theorem dX7_eraseError_19 : decode cX7_eraseError 19 = .ok (.aload_n 0, 1) := by decide +kernel
theorem dX7_eraseError_20 : decode cX7_eraseError 20 = .ok (.getfield 7, 3) := by decide +kernel
theorem dX7_eraseError_23 : decode cX7_eraseError 23 = .ok (.iconst 0, 1) := by decide +kernel
theorem dX7_eraseError_24 : decode cX7_eraseError 24 = .ok (.iaload, 1) := by decide +kernel
theorem dX7_eraseError_25 : decode cX7_eraseError 25 = .ok (.iconst 3, 1) := by decide +kernel
theorem dX7_eraseError_26 : decode cX7_eraseError 26 = .ok (.if_icmp .eq 7, 3) := by decide +kernel
theorem dX7_eraseError_29 : decode cX7_eraseError 29 = .ok (.iconst 0, 1) := by decide +kernel
theorem dX7_eraseError_30 : decode cX7_eraseError 30 = .ok (.goto 7, 3) := by decide +kernel
theorem dX7_eraseError_33 : decode cX7_eraseError 33 = .ok (.aload_n 0, 1) := by decide +kernel
theorem dX7_eraseError_34 : decode cX7_eraseError 34 = .ok (.invokevirtual 70, 3) := by decide +kernel
theorem dX7_eraseError_37 : decode cX7_eraseError 37 = .ok (.ireturn, 1) := by decide +kernel
theorem dX7_endCopy_0 : decode cX7_endCopy 0 = .ok (.aload_n 0, 1) := by decide +kernel
theorem dX7_endCopy_1 : decode cX7_endCopy 1 = .ok (.getfield 7, 3) := by decide +kernel
theorem dX7_endCopy_4 : decode cX7_endCopy 4 = .ok (.iconst 0, 1) := by decide +kernel
theorem dX7_endCopy_5 : decode cX7_endCopy 5 = .ok (.iconst 0, 1) := by decide +kernel
theorem dX7_endCopy_6 : decode cX7_endCopy 6 = .ok (.iastore, 1) := by decide +kernel
theorem dX7_endCopy_7 : decode cX7_endCopy 7 = .ok (.aload_n 0, 1) := by decide +kernel
theorem dX7_endCopy_8 : decode cX7_endCopy 8 = .ok (.getfield 7, 3) := by decide +kernel
theorem dX7_endCopy_11 : decode cX7_endCopy 11 = .ok (.iconst 4, 1) := by decide +kernel
theorem dX7_endCopy_12 : decode cX7_endCopy 12 = .ok (.iconst 0, 1) := by decide +kernel
theorem dX7_endCopy_13 : decode cX7_endCopy 13 = .ok (.iastore, 1) := by decide +kernel
theorem dX7_endCopy_14 : decode cX7_endCopy 14 = .ok (.return_, 1) := by decide +kernel
set_option maxRecDepth 20000 in
theorem ggX7_doChange_X7_row : GoodIn wsX7_doChange wsX7_row := goodIn_r _ [6, 1, 26, 27, 28, 29, 30, 31, 32, 33, 34, 35, 36, 37, 38] (by rfl) (by decide +kernel)
set_option maxRecDepth 20000 in
theorem gX7_doChange_X7_row : GoodIn wsX7_doChange (wsV RX7 29 RX7 yX7_row wsX7_row) := goodIn_app (goodIn_r _ [2, 3, 4, 5] (by rfl) (by decide +kernel)) ggX7_doChange_X7_row
set_option maxRecDepth 20000 in
theorem ggX7_doChange_X7_isLogFull : GoodIn wsX7_doChange wsX7_isLogFull := goodIn_r _ [10, 1, 11, 12, 13, 5, 14, 26, 27, 28, 29, 30, 31, 32, 33, 34, 35, 36, 37, 38] (by rfl) (by decide +kernel)
set_option maxRecDepth 20000 in
theorem gX7_doChange_X7_isLogFull : GoodIn wsX7_doChange (wsV RX7 63 RX7 yX7_isLogFull wsX7_isLogFull) := goodIn_app (goodIn_r _ [7, 8, 9, 5] (by rfl) (by decide +kernel)) ggX7_doChange_X7_isLogFull
set_option maxRecDepth 20000 in
theorem ggX7_doChange_X7_endCopy : GoodIn wsX7_doChange wsX7_endCopy := goodIn_r _ [18, 1, 26, 27, 28, 29, 30, 31, 32, 33, 34, 35, 36, 37, 38] (by rfl) (by decide +kernel)
set_option maxRecDepth 20000 in
theorem gX7_doChange_X7_endCopy : GoodIn wsX7_doChange (wsV RX7 74 RX7 yX7_endCopy wsX7_endCopy) := goodIn_app (goodIn_r _ [15, 16, 17, 5] (by rfl) (by decide +kernel)) ggX7_doChange_X7_endCopy
set_option maxRecDepth 20000 in
theorem ggX7_doChange_X7_isCopy : GoodIn wsX7_doChange wsX7_isCopy := goodIn_r _ [14, 1, 26, 27, 28, 29, 30, 31, 32, 33, 34, 35, 36, 37, 38] (by rfl) (by decide +kernel)
set_option maxRecDepth 20000 in
theorem gX7_doChange_X7_isCopy : GoodIn wsX7_doChange (wsV RX7 33 RX7 yX7_isCopy wsX7_isCopy) := goodIn_app (goodIn_r _ [11, 12, 13, 5] (by rfl) (by decide +kernel)) ggX7_doChange_X7_isCopy
set_option maxRecDepth 20000 in
theorem ggX7_doChange_X7_lay : GoodIn wsX7_doChange wsX7_lay := goodIn_r _ [22, 1, 26, 27, 28, 29, 30, 31, 32, 33, 34, 35, 36, 37, 38] (by rfl) (by decide +kernel)
set_option maxRecDepth 20000 in
theorem gX7_doChange_X7_lay : GoodIn wsX7_doChange (wsV RX7 53 RX7 yX7_lay wsX7_lay) := goodIn_app (goodIn_r _ [19, 20, 21, 5] (by rfl) (by decide +kernel)) ggX7_doChange_X7_lay
set_option maxRecDepth 20000 in
theorem ggX7_doChange_X7_outside : GoodIn wsX7_doChange wsX7_outside := goodIn_r _ [25] (by rfl) (by decide +kernel)
set_option maxRecDepth 20000 in
theorem gX7_doChange_X7_outside : GoodIn wsX7_doChange (va_wsS RX7 77 yX7_outside wsX7_outside) := goodIn_app (goodIn_r _ [23, 24, 5] (by rfl) (by decide +kernel)) ggX7_doChange_X7_outside
theorem dX7_doChange_0 : decode cX7_doChange 0 = .ok (.aload_n 0, 1) := by decide +kernel
theorem dX7_doChange_1 : decode cX7_doChange 1 = .ok (.iconst 0, 1) := by decide +kernel
theorem dX7_doChange_2 : decode cX7_doChange 2 = .ok (.iload_n 1, 1) := by decide +kernel
theorem dX7_doChange_3 : decode cX7_doChange 3 = .ok (.invokevirtual 29, 3) := by decide +kernel
theorem dX7_doChange_6 : decode cX7_doChange 6 = .ok (.istore_n 3, 1) := by decide +kernel
theorem dX7_doChange_7 : decode cX7_doChange 7 = .ok (.aload_n 0, 1) := by decide +kernel
theorem dX7_doChange_8 : decode cX7_doChange 8 = .ok (.invokevirtual 63, 3) := by decide +kernel
theorem dX7_doChange_11 : decode cX7_doChange 11 = .ok (.ifCond .eq 18, 3) := by decide +kernel
theorem dX7_doChange_14 : decode cX7_doChange 14 = .ok (.aload_n 0, 1) := by decide +kernel
theorem dX7_doChange_15 : decode cX7_doChange 15 = .ok (.invokevirtual 74, 3) := by decide +kernel
theorem dX7_doChange_18 : decode cX7_doChange 18 = .ok (.aload_n 0, 1) := by decide +kernel
theorem dX7_doChange_19 : decode cX7_doChange 19 = .ok (.getfield 7, 3) := by decide +kernel
theorem dX7_doChange_22 : decode cX7_doChange 22 = .ok (.bipush 13, 2) := by decide +kernel
theorem dX7_doChange_24 : decode cX7_doChange 24 = .ok (.dup2, 1) := by decide +kernel
theorem dX7_doChange_25 : decode cX7_doChange 25 = .ok (.iaload, 1) := by decide +kernel
theorem dX7_doChange_26 : decode cX7_doChange 26 = .ok (.iconst 1, 1) := by decide +kernel
theorem dX7_doChange_27 : decode cX7_doChange 27 = .ok (.iadd, 1) := by decide +kernel
theorem dX7_doChange_28 : decode cX7_doChange 28 = .ok (.iastore, 1) := by decide +kernel
theorem dX7_doChange_29 : decode cX7_doChange 29 = .ok (.aload_n 0, 1) := by decide +kernel
theorem dX7_doChange_30 : decode cX7_doChange 30 = .ok (.invokevirtual 33, 3) := by decide +kernel
theorem dX7_doChange_33 : decode cX7_doChange 33 = .ok (.ifCond .eq 49, 3) := by decide +kernel
theorem dX7_doChange_36 : decode cX7_doChange 36 = .ok (.aload_n 0, 1) := by decide +kernel
theorem dX7_doChange_37 : decode cX7_doChange 37 = .ok (.getfield 7, 3) := by decide +kernel
theorem dX7_doChange_40 : decode cX7_doChange 40 = .ok (.bipush 115, 2) := by decide +kernel
theorem dX7_doChange_42 : decode cX7_doChange 42 = .ok (.iconst 2, 1) := by decide +kernel
theorem dX7_doChange_43 : decode cX7_doChange 43 = .ok (.aload_n 0, 1) := by decide +kernel
theorem dX7_doChange_44 : decode cX7_doChange 44 = .ok (.getfield 7, 3) := by decide +kernel
theorem dX7_doChange_47 : decode cX7_doChange 47 = .ok (.iconst 4, 1) := by decide +kernel
theorem dX7_doChange_48 : decode cX7_doChange 48 = .ok (.iaload, 1) := by decide +kernel
theorem dX7_doChange_49 : decode cX7_doChange 49 = .ok (.imul, 1) := by decide +kernel
theorem dX7_doChange_50 : decode cX7_doChange 50 = .ok (.iadd, 1) := by decide +kernel
theorem dX7_doChange_51 : decode cX7_doChange 51 = .ok (.iload_n 1, 1) := by decide +kernel
theorem dX7_doChange_52 : decode cX7_doChange 52 = .ok (.iastore, 1) := by decide +kernel
theorem dX7_doChange_53 : decode cX7_doChange 53 = .ok (.aload_n 0, 1) := by decide +kernel
theorem dX7_doChange_54 : decode cX7_doChange 54 = .ok (.getfield 7, 3) := by decide +kernel
theorem dX7_doChange_57 : decode cX7_doChange 57 = .ok (.bipush 115, 2) := by decide +kernel
theorem dX7_doChange_59 : decode cX7_doChange 59 = .ok (.iconst 2, 1) := by decide +kernel
theorem dX7_doChange_60 : decode cX7_doChange 60 = .ok (.aload_n 0, 1) := by decide +kernel
theorem dX7_doChange_61 : decode cX7_doChange 61 = .ok (.getfield 7, 3) := by decide +kernel
theorem dX7_doChange_64 : decode cX7_doChange 64 = .ok (.iconst 4, 1) := by decide +kernel
theorem dX7_doChange_65 : decode cX7_doChange 65 = .ok (.iaload, 1) := by decide +kernel
theorem dX7_doChange_66 : decode cX7_doChange 66 = .ok (.imul, 1) := by decide +kernel
theorem dX7_doChange_67 : decode cX7_doChange 67 = .ok (.iadd, 1) := by decide +kernel
theorem dX7_doChange_68 : decode cX7_doChange 68 = .ok (.iconst 1, 1) := by decide +kernel
theorem dX7_doChange_69 : decode cX7_doChange 69 = .ok (.iadd, 1) := by decide +kernel
theorem dX7_doChange_70 : decode cX7_doChange 70 = .ok (.iload_n 2, 1) := by decide +kernel
theorem dX7_doChange_71 : decode cX7_doChange 71 = .ok (.iastore, 1) := by decide +kernel
theorem dX7_doChange_72 : decode cX7_doChange 72 = .ok (.aload_n 0, 1) := by decide +kernel
theorem dX7_doChange_73 : decode cX7_doChange 73 = .ok (.getfield 7, 3) := by decide +kernel
theorem dX7_doChange_76 : decode cX7_doChange 76 = .ok (.iconst 4, 1) := by decide +kernel
theorem dX7_doChange_77 : decode cX7_doChange 77 = .ok (.dup2, 1) := by decide +kernel
theorem dX7_doChange_78 : decode cX7_doChange 78 = .ok (.iaload, 1) := by decide +kernel
theorem dX7_doChange_79 : decode cX7_doChange 79 = .ok (.iconst 1, 1) := by decide +kernel
theorem dX7_doChange_80 : decode cX7_doChange 80 = .ok (.iadd, 1) := by decide +kernel
theorem dX7_doChange_81 : decode cX7_doChange 81 = .ok (.iastore, 1) := by decide +kernel
theorem dX7_doChange_82 : decode cX7_doChange 82 = .ok (.aload_n 0, 1) := by decide +kernel
theorem dX7_doChange_83 : decode cX7_doChange 83 = .ok (.iconst 0, 1) := by decide +kernel
theorem dX7_doChange_84 : decode cX7_doChange 84 = .ok (.iload_n 1, 1) := by decide +kernel
theorem dX7_doChange_85 : decode cX7_doChange 85 = .ok (.iload_n 2, 1) := by decide +kernel
theorem dX7_doChange_86 : decode cX7_doChange 86 = .ok (.invokevirtual 53, 3) := by decide +kernel
theorem dX7_doChange_89 : decode cX7_doChange 89 = .ok (.iload_n 3, 1) := by decide +kernel
theorem dX7_doChange_90 : decode cX7_doChange 90 = .ok (.invokestatic 77, 3) := by decide +kernel
theorem dX7_doChange_93 : decode cX7_doChange 93 = .ok (.ireturn, 1) := by decide +kernel
set_option maxRecDepth 20000 in
theorem ggX7_doErase_X7_row : GoodIn wsX7_doErase wsX7_row := goodIn_r _ [5, 6, 30, 31, 32, 33, 34, 35, 36, 37, 38, 39, 40, 41, 42] (by rfl) (by decide +kernel)
set_option maxRecDepth 20000 in
theorem gX7_doErase_X7_row : GoodIn wsX7_doErase (wsV RX7 29 RX7 yX7_row wsX7_row) := goodIn_app (goodIn_r _ [1, 2, 3, 4] (by rfl) (by decide +kernel)) ggX7_doErase_X7_row
set_option maxRecDepth 20000 in
theorem ggX7_doErase_X7_doChange : GoodIn wsX7_doErase wsX7_doChange := goodIn_r _ [10, 6, 1, 2, 3, 4, 5, 11, 12, 13, 14, 15, 16, 17, 18, 19, 20, 21, 22, 23, 24, 25, 26, 27, 28, 29, 30, 31, 32, 33, 34, 35, 36, 37, 38, 39, 40, 41, 42] (by rfl) (by decide +kernel)
set_option maxRecDepth 20000 in
theorem gX7_doErase_X7_doChange : GoodIn wsX7_doErase (wsV RX7 80 RX7 yX7_doChange wsX7_doChange) := goodIn_app (goodIn_r _ [7, 8, 9, 4] (by rfl) (by decide +kernel)) ggX7_doErase_X7_doChange
theorem dX7_doErase_0 : decode cX7_doErase 0 = .ok (.aload_n 0, 1) := by decide +kernel
theorem dX7_doErase_1 : decode cX7_doErase 1 = .ok (.iconst 0, 1) := by decide +kernel
theorem dX7_doErase_2 : decode cX7_doErase 2 = .ok (.iload_n 1, 1) := by decide +kernel
theorem dX7_doErase_3 : decode cX7_doErase 3 = .ok (.invokevirtual 29, 3) := by decide +kernel
theorem dX7_doErase_6 : decode cX7_doErase 6 = .ok (.iconst (-1), 1) := by decide +kernel
theorem dX7_doErase_7 : decode cX7_doErase 7 = .ok (.if_icmp .ne 8, 3) := by decide +kernel
theorem dX7_doErase_10 : decode cX7_doErase 10 = .ok (.bipush (-5), 2) := by decide +kernel
theorem dX7_doErase_12 : decode cX7_doErase 12 = .ok (.goto 9, 3) := by decide +kernel
theorem dX7_doErase_15 : decode cX7_doErase 15 = .ok (.aload_n 0, 1) := by decide +kernel
theorem dX7_doErase_16 : decode cX7_doErase 16 = .ok (.iload_n 1, 1) := by decide +kernel
theorem dX7_doErase_17 : decode cX7_doErase 17 = .ok (.iconst (-1), 1) := by decide +kernel
theorem dX7_doErase_18 : decode cX7_doErase 18 = .ok (.invokevirtual 80, 3) := by decide +kernel
theorem dX7_doErase_21 : decode cX7_doErase 21 = .ok (.ireturn, 1) := by decide +kernel
set_option maxRecDepth 20000 in
theorem ggX7_beginError_X7_in : GoodIn wsX7_beginError wsX7_in := goodIn_r _ [4] (by rfl) (by decide +kernel)
set_option maxRecDepth 20000 in
theorem gX7_beginError_X7_in : GoodIn wsX7_beginError (va_wsS RX7 25 yX7_in wsX7_in) := goodIn_app (goodIn_r _ [1, 2, 3] (by rfl) (by decide +kernel)) ggX7_beginError_X7_in
set_option maxRecDepth 20000 in
theorem ggX7_beginError_X7_isCopy : GoodIn wsX7_beginError wsX7_isCopy := goodIn_r _ [8, 9, 10, 11, 12, 13, 14, 15, 16, 17, 18, 19, 20, 21, 22] (by rfl) (by decide +kernel)
set_option maxRecDepth 20000 in
theorem gX7_beginError_X7_isCopy : GoodIn wsX7_beginError (wsV RX7 33 RX7 yX7_isCopy wsX7_isCopy) := goodIn_app (goodIn_r _ [5, 6, 7, 3] (by rfl) (by decide +kernel)) ggX7_beginError_X7_isCopy
theorem dX7_beginError_0 : decode cX7_beginError 0 = .ok (.iload_n 1, 1) := by decide +kernel
theorem dX7_beginError_1 : decode cX7_beginError 1 = .ok (.iconst 0, 1) := by decide +kernel
theorem dX7_beginError_2 : decode cX7_beginError 2 = .ok (.iconst 4, 1) := by decide +kernel
theorem dX7_beginError_3 : decode cX7_beginError 3 = .ok (.invokestatic 25, 3) := by decide +kernel
theorem dX7_beginError_6 : decode cX7_beginError 6 = .ok (.ifCond .eq 13, 3) := by decide +kernel
theorem dX7_beginError_9 : decode cX7_beginError 9 = .ok (.iload_n 2, 1) := by decide +kernel
theorem dX7_beginError_10 : decode cX7_beginError 10 = .ok (.iconst 1, 1) := by decide +kernel
theorem dX7_beginError_11 : decode cX7_beginError 11 = .ok (.bipush 8, 2) := by decide +kernel
theorem dX7_beginError_13 : decode cX7_beginError 13 = .ok (.invokestatic 25, 3) := by decide +kernel
theorem dX7_beginError_16 : decode cX7_beginError 16 = .ok (.ifCond .ne 8, 3) := by decide +kernel
theorem dX7_beginError_19 : decode cX7_beginError 19 = .ok (.bipush (-2), 2) := by decide +kernel
theorem dX7_beginError_21 : decode cX7_beginError 21 = .ok (.goto 16, 3) := by decide +kernel
theorem dX7_beginError_24 : decode cX7_beginError 24 = .ok (.aload_n 0, 1) := by decide +kernel
theorem dX7_beginError_25 : decode cX7_beginError 25 = .ok (.invokevirtual 33, 3) := by decide +kernel
theorem dX7_beginError_28 : decode cX7_beginError 28 = .ok (.ifCond .eq 8, 3) := by decide +kernel
theorem dX7_beginError_31 : decode cX7_beginError 31 = .ok (.bipush (-4), 2) := by decide +kernel
theorem dX7_beginError_33 : decode cX7_beginError 33 = .ok (.goto 4, 3) := by decide +kernel
theorem dX7_beginError_36 : decode cX7_beginError 36 = .ok (.iconst 0, 1) := by decide +kernel
theorem dX7_beginError_37 : decode cX7_beginError 37 = .ok (.ireturn, 1) := by decide +kernel
set_option maxRecDepth 20000 in
theorem ggX7_doBegin_X7_lay : GoodIn wsX7_doBegin wsX7_lay := goodIn_r _ [6, 1, 15, 16, 17, 18, 19, 20, 21, 22, 23, 24, 25, 26, 27] (by rfl) (by decide +kernel)
set_option maxRecDepth 20000 in
theorem gX7_doBegin_X7_lay : GoodIn wsX7_doBegin (wsV RX7 53 RX7 yX7_lay wsX7_lay) := goodIn_app (goodIn_r _ [2, 3, 4, 5] (by rfl) (by decide +kernel)) ggX7_doBegin_X7_lay
set_option maxRecDepth 20000 in
theorem ggX7_doBegin_X7_rows : GoodIn wsX7_doBegin wsX7_rows := goodIn_r _ [10, 11, 12, 13, 5, 14, 1, 15, 16, 17, 18, 19, 20, 21, 22, 23, 24, 25, 26, 27] (by rfl) (by decide +kernel)
set_option maxRecDepth 20000 in
theorem gX7_doBegin_X7_rows : GoodIn wsX7_doBegin (wsV RX7 83 RX7 yX7_rows wsX7_rows) := goodIn_app (goodIn_r _ [7, 8, 9, 5] (by rfl) (by decide +kernel)) ggX7_doBegin_X7_rows
theorem dX7_doBegin_0 : decode cX7_doBegin 0 = .ok (.aload_n 0, 1) := by decide +kernel
theorem dX7_doBegin_1 : decode cX7_doBegin 1 = .ok (.getfield 7, 3) := by decide +kernel
theorem dX7_doBegin_4 : decode cX7_doBegin 4 = .ok (.iconst 0, 1) := by decide +kernel
theorem dX7_doBegin_5 : decode cX7_doBegin 5 = .ok (.iconst 1, 1) := by decide +kernel
theorem dX7_doBegin_6 : decode cX7_doBegin 6 = .ok (.iastore, 1) := by decide +kernel
theorem dX7_doBegin_7 : decode cX7_doBegin 7 = .ok (.aload_n 0, 1) := by decide +kernel
theorem dX7_doBegin_8 : decode cX7_doBegin 8 = .ok (.getfield 7, 3) := by decide +kernel
theorem dX7_doBegin_11 : decode cX7_doBegin 11 = .ok (.iconst 1, 1) := by decide +kernel
theorem dX7_doBegin_12 : decode cX7_doBegin 12 = .ok (.iload_n 1, 1) := by decide +kernel
theorem dX7_doBegin_13 : decode cX7_doBegin 13 = .ok (.iastore, 1) := by decide +kernel
theorem dX7_doBegin_14 : decode cX7_doBegin 14 = .ok (.aload_n 0, 1) := by decide +kernel
theorem dX7_doBegin_15 : decode cX7_doBegin 15 = .ok (.getfield 7, 3) := by decide +kernel
theorem dX7_doBegin_18 : decode cX7_doBegin 18 = .ok (.iconst 2, 1) := by decide +kernel
theorem dX7_doBegin_19 : decode cX7_doBegin 19 = .ok (.iload_n 2, 1) := by decide +kernel
theorem dX7_doBegin_20 : decode cX7_doBegin 20 = .ok (.iastore, 1) := by decide +kernel
theorem dX7_doBegin_21 : decode cX7_doBegin 21 = .ok (.aload_n 0, 1) := by decide +kernel
theorem dX7_doBegin_22 : decode cX7_doBegin 22 = .ok (.getfield 7, 3) := by decide +kernel
theorem dX7_doBegin_25 : decode cX7_doBegin 25 = .ok (.iconst 3, 1) := by decide +kernel
theorem dX7_doBegin_26 : decode cX7_doBegin 26 = .ok (.iconst 0, 1) := by decide +kernel
theorem dX7_doBegin_27 : decode cX7_doBegin 27 = .ok (.iastore, 1) := by decide +kernel
theorem dX7_doBegin_28 : decode cX7_doBegin 28 = .ok (.aload_n 0, 1) := by decide +kernel
theorem dX7_doBegin_29 : decode cX7_doBegin 29 = .ok (.getfield 7, 3) := by decide +kernel
theorem dX7_doBegin_32 : decode cX7_doBegin 32 = .ok (.iconst 4, 1) := by decide +kernel
theorem dX7_doBegin_33 : decode cX7_doBegin 33 = .ok (.iconst 0, 1) := by decide +kernel
theorem dX7_doBegin_34 : decode cX7_doBegin 34 = .ok (.iastore, 1) := by decide +kernel
theorem dX7_doBegin_35 : decode cX7_doBegin 35 = .ok (.iconst 0, 1) := by decide +kernel
theorem dX7_doBegin_36 : decode cX7_doBegin 36 = .ok (.istore_n 3, 1) := by decide +kernel
theorem dX7_doBegin_37 : decode cX7_doBegin 37 = .ok (.iload_n 3, 1) := by decide +kernel
theorem dX7_doBegin_38 : decode cX7_doBegin 38 = .ok (.bipush 32, 2) := by decide +kernel
theorem dX7_doBegin_40 : decode cX7_doBegin 40 = .ok (.if_icmp .ge 16, 3) := by decide +kernel
theorem dX7_doBegin_43 : decode cX7_doBegin 43 = .ok (.aload_n 0, 1) := by decide +kernel
theorem dX7_doBegin_44 : decode cX7_doBegin 44 = .ok (.iconst 1, 1) := by decide +kernel
theorem dX7_doBegin_45 : decode cX7_doBegin 45 = .ok (.iload_n 3, 1) := by decide +kernel
theorem dX7_doBegin_46 : decode cX7_doBegin 46 = .ok (.iconst (-1), 1) := by decide +kernel
theorem dX7_doBegin_47 : decode cX7_doBegin 47 = .ok (.invokevirtual 53, 3) := by decide +kernel
theorem dX7_doBegin_50 : decode cX7_doBegin 50 = .ok (.iinc 3 1, 3) := by decide +kernel
theorem dX7_doBegin_53 : decode cX7_doBegin 53 = .ok (.goto (-16), 3) := by decide +kernel
theorem dX7_doBegin_56 : decode cX7_doBegin 56 = .ok (.aload_n 0, 1) := by decide +kernel
theorem dX7_doBegin_57 : decode cX7_doBegin 57 = .ok (.getfield 7, 3) := by decide +kernel
theorem dX7_doBegin_60 : decode cX7_doBegin 60 = .ok (.bipush 11, 2) := by decide +kernel
theorem dX7_doBegin_62 : decode cX7_doBegin 62 = .ok (.dup2, 1) := by decide +kernel
theorem dX7_doBegin_63 : decode cX7_doBegin 63 = .ok (.iaload, 1) := by decide +kernel
theorem dX7_doBegin_64 : decode cX7_doBegin 64 = .ok (.iconst 1, 1) := by decide +kernel
theorem dX7_doBegin_65 : decode cX7_doBegin 65 = .ok (.iadd, 1) := by decide +kernel
theorem dX7_doBegin_66 : decode cX7_doBegin 66 = .ok (.iastore, 1) := by decide +kernel
theorem dX7_doBegin_67 : decode cX7_doBegin 67 = .ok (.aload_n 0, 1) := by decide +kernel
theorem dX7_doBegin_68 : decode cX7_doBegin 68 = .ok (.iconst 0, 1) := by decide +kernel
theorem dX7_doBegin_69 : decode cX7_doBegin 69 = .ok (.invokevirtual 83, 3) := by decide +kernel
theorem dX7_doBegin_72 : decode cX7_doBegin 72 = .ok (.ireturn, 1) := by decide +kernel
set_option maxRecDepth 20000 in
theorem ggX7_doTick_X7_tickOnce : GoodIn wsX7_doTick wsX7_tickOnce := goodIn_r _ [6, 1, 7, 8, 9, 5, 10, 11, 12, 13, 14, 15, 16, 17, 18, 19, 20, 21, 22, 23, 24, 25, 26, 27, 28, 29, 30, 31, 32, 33, 34, 35, 36, 37, 38, 39, 40, 41, 42, 43, 44, 45, 46] (by rfl) (by decide +kernel)
set_option maxRecDepth 20000 in
theorem gX7_doTick_X7_tickOnce : GoodIn wsX7_doTick (wsV RX7 86 RX7 yX7_tickOnce wsX7_tickOnce) := goodIn_app (goodIn_r _ [2, 3, 4, 5] (by rfl) (by decide +kernel)) ggX7_doTick_X7_tickOnce
theorem dX7_doTick_0 : decode cX7_doTick 0 = .ok (.iconst 0, 1) := by decide +kernel
theorem dX7_doTick_1 : decode cX7_doTick 1 = .ok (.istore_n 2, 1) := by decide +kernel
theorem dX7_doTick_2 : decode cX7_doTick 2 = .ok (.iload_n 2, 1) := by decide +kernel
theorem dX7_doTick_3 : decode cX7_doTick 3 = .ok (.iload_n 1, 1) := by decide +kernel
theorem dX7_doTick_4 : decode cX7_doTick 4 = .ok (.if_icmp .ge 13, 3) := by decide +kernel
theorem dX7_doTick_7 : decode cX7_doTick 7 = .ok (.aload_n 0, 1) := by decide +kernel
theorem dX7_doTick_8 : decode cX7_doTick 8 = .ok (.invokevirtual 86, 3) := by decide +kernel
theorem dX7_doTick_11 : decode cX7_doTick 11 = .ok (.iinc 2 1, 3) := by decide +kernel
theorem dX7_doTick_14 : decode cX7_doTick 14 = .ok (.goto (-12), 3) := by decide +kernel
theorem dX7_doTick_17 : decode cX7_doTick 17 = .ok (.aload_n 0, 1) := by decide +kernel
theorem dX7_doTick_18 : decode cX7_doTick 18 = .ok (.getfield 7, 3) := by decide +kernel
theorem dX7_doTick_21 : decode cX7_doTick 21 = .ok (.iconst 0, 1) := by decide +kernel
theorem dX7_doTick_22 : decode cX7_doTick 22 = .ok (.iaload, 1) := by decide +kernel
theorem dX7_doTick_23 : decode cX7_doTick 23 = .ok (.ireturn, 1) := by decide +kernel
theorem dX7_doLock_0 : decode cX7_doLock 0 = .ok (.aload_n 0, 1) := by decide +kernel
theorem dX7_doLock_1 : decode cX7_doLock 1 = .ok (.getfield 7, 3) := by decide +kernel
theorem dX7_doLock_4 : decode cX7_doLock 4 = .ok (.iconst 0, 1) := by decide +kernel
theorem dX7_doLock_5 : decode cX7_doLock 5 = .ok (.iconst 3, 1) := by decide +kernel
theorem dX7_doLock_6 : decode cX7_doLock 6 = .ok (.iastore, 1) := by decide +kernel
theorem dX7_doLock_7 : decode cX7_doLock 7 = .ok (.aload_n 0, 1) := by decide +kernel
theorem dX7_doLock_8 : decode cX7_doLock 8 = .ok (.getfield 7, 3) := by decide +kernel
theorem dX7_doLock_11 : decode cX7_doLock 11 = .ok (.iconst 5, 1) := by decide +kernel
theorem dX7_doLock_12 : decode cX7_doLock 12 = .ok (.iconst 0, 1) := by decide +kernel
theorem dX7_doLock_13 : decode cX7_doLock 13 = .ok (.iastore, 1) := by decide +kernel
theorem dX7_doLock_14 : decode cX7_doLock 14 = .ok (.aload_n 0, 1) := by decide +kernel
theorem dX7_doLock_15 : decode cX7_doLock 15 = .ok (.getfield 7, 3) := by decide +kernel
theorem dX7_doLock_18 : decode cX7_doLock 18 = .ok (.iconst 4, 1) := by decide +kernel
theorem dX7_doLock_19 : decode cX7_doLock 19 = .ok (.iaload, 1) := by decide +kernel
theorem dX7_doLock_20 : decode cX7_doLock 20 = .ok (.ireturn, 1) := by decide +kernel
theorem dX7_doUnlock_0 : decode cX7_doUnlock 0 = .ok (.aload_n 0, 1) := by decide +kernel
theorem dX7_doUnlock_1 : decode cX7_doUnlock 1 = .ok (.getfield 7, 3) := by decide +kernel
theorem dX7_doUnlock_4 : decode cX7_doUnlock 4 = .ok (.iconst 0, 1) := by decide +kernel
theorem dX7_doUnlock_5 : decode cX7_doUnlock 5 = .ok (.iconst 2, 1) := by decide +kernel
theorem dX7_doUnlock_6 : decode cX7_doUnlock 6 = .ok (.iastore, 1) := by decide +kernel
theorem dX7_doUnlock_7 : decode cX7_doUnlock 7 = .ok (.aload_n 0, 1) := by decide +kernel
theorem dX7_doUnlock_8 : decode cX7_doUnlock 8 = .ok (.getfield 7, 3) := by decide +kernel
theorem dX7_doUnlock_11 : decode cX7_doUnlock 11 = .ok (.iconst 5, 1) := by decide +kernel
theorem dX7_doUnlock_12 : decode cX7_doUnlock 12 = .ok (.iaload, 1) := by decide +kernel
theorem dX7_doUnlock_13 : decode cX7_doUnlock 13 = .ok (.ireturn, 1) := by decide +kernel
theorem dX7_swapError_0 : decode cX7_swapError 0 = .ok (.aload_n 0, 1) := by decide +kernel
theorem dX7_swapError_1 : decode cX7_swapError 1 = .ok (.getfield 7, 3) := by decide +kernel
theorem dX7_swapError_4 : decode cX7_swapError 4 = .ok (.iconst 0, 1) := by decide +kernel
theorem dX7_swapError_5 : decode cX7_swapError 5 = .ok (.iaload, 1) := by decide +kernel
theorem dX7_swapError_6 : decode cX7_swapError 6 = .ok (.iconst 3, 1) := by decide +kernel
theorem dX7_swapError_7 : decode cX7_swapError 7 = .ok (.if_icmp .ne 16, 3) := by decide +kernel
theorem dX7_swapError_10 : decode cX7_swapError 10 = .ok (.aload_n 0, 1) := by decide +kernel
theorem dX7_swapError_11 : decode cX7_swapError 11 = .ok (.getfield 7, 3) := by decide +kernel
theorem dX7_swapError_14 : decode cX7_swapError 14 = .ok (.iconst 4, 1) := by decide +kernel
theorem dX7_swapError_15 : decode cX7_swapError 15 = .ok (.iaload, 1) := by decide +kernel
theorem dX7_swapError_16 : decode cX7_swapError 16 = .ok (.ifCond .ne 7, 3) := by decide +kernel
theorem dX7_swapError_19 : decode cX7_swapError 19 = .ok (.iconst 0, 1) := by decide +kernel
theorem dX7_swapError_20 : decode cX7_swapError 20 = .ok (.goto 5, 3) := by decide +kernel
theorem dX7_swapError_23 : decode cX7_swapError 23 = .ok (.bipush (-4), 2) := by decide +kernel
theorem dX7_swapError_25 : decode cX7_swapError 25 = .ok (.ireturn, 1) := by decide +kernel
set_option maxRecDepth 20000 in
theorem ggX7_doSwap_X7_row : GoodIn wsX7_doSwap wsX7_row := goodIn_r _ [6, 1, 19, 20, 21, 22, 23, 24, 25, 26, 27, 28, 29, 30, 31] (by rfl) (by decide +kernel)
set_option maxRecDepth 20000 in
theorem gX7_doSwap_X7_row : GoodIn wsX7_doSwap (wsV RX7 29 RX7 yX7_row wsX7_row) := goodIn_app (goodIn_r _ [2, 3, 4, 5] (by rfl) (by decide +kernel)) ggX7_doSwap_X7_row
set_option maxRecDepth 20000 in
theorem ggX7_doSwap_X7_lay : GoodIn wsX7_doSwap wsX7_lay := goodIn_r _ [10, 1, 19, 20, 21, 22, 23, 24, 25, 26, 27, 28, 29, 30, 31] (by rfl) (by decide +kernel)
set_option maxRecDepth 20000 in
theorem gX7_doSwap_X7_lay : GoodIn wsX7_doSwap (wsV RX7 53 RX7 yX7_lay wsX7_lay) := goodIn_app (goodIn_r _ [7, 8, 9, 5] (by rfl) (by decide +kernel)) ggX7_doSwap_X7_lay
set_option maxRecDepth 20000 in
theorem ggX7_doSwap_X7_endCopy : GoodIn wsX7_doSwap wsX7_endCopy := goodIn_r _ [14, 1, 19, 20, 21, 22, 23, 24, 25, 26, 27, 28, 29, 30, 31] (by rfl) (by decide +kernel)
set_option maxRecDepth 20000 in
theorem gX7_doSwap_X7_endCopy : GoodIn wsX7_doSwap (wsV RX7 74 RX7 yX7_endCopy wsX7_endCopy) := goodIn_app (goodIn_r _ [11, 12, 13, 5] (by rfl) (by decide +kernel)) ggX7_doSwap_X7_endCopy
set_option maxRecDepth 20000 in
theorem ggX7_doSwap_X7_rows : GoodIn wsX7_doSwap wsX7_rows := goodIn_r _ [18, 2, 3, 4, 5, 6, 1, 19, 20, 21, 22, 23, 24, 25, 26, 27, 28, 29, 30, 31] (by rfl) (by decide +kernel)
set_option maxRecDepth 20000 in
theorem gX7_doSwap_X7_rows : GoodIn wsX7_doSwap (wsV RX7 83 RX7 yX7_rows wsX7_rows) := goodIn_app (goodIn_r _ [15, 16, 17, 5] (by rfl) (by decide +kernel)) ggX7_doSwap_X7_rows
theorem dX7_doSwap_0 : decode cX7_doSwap 0 = .ok (.iconst 0, 1) := by decide +kernel
theorem dX7_doSwap_1 : decode cX7_doSwap 1 = .ok (.istore_n 1, 1) := by decide +kernel
theorem dX7_doSwap_2 : decode cX7_doSwap 2 = .ok (.iload_n 1, 1) := by decide +kernel
theorem dX7_doSwap_3 : decode cX7_doSwap 3 = .ok (.bipush 32, 2) := by decide +kernel
theorem dX7_doSwap_5 : decode cX7_doSwap 5 = .ok (.if_icmp .ge 33, 3) := by decide +kernel
theorem dX7_doSwap_8 : decode cX7_doSwap 8 = .ok (.aload_n 0, 1) := by decide +kernel
theorem dX7_doSwap_9 : decode cX7_doSwap 9 = .ok (.iconst 2, 1) := by decide +kernel
theorem dX7_doSwap_10 : decode cX7_doSwap 10 = .ok (.iload_n 1, 1) := by decide +kernel
theorem dX7_doSwap_11 : decode cX7_doSwap 11 = .ok (.aload_n 0, 1) := by decide +kernel
theorem dX7_doSwap_12 : decode cX7_doSwap 12 = .ok (.iconst 0, 1) := by decide +kernel
theorem dX7_doSwap_13 : decode cX7_doSwap 13 = .ok (.iload_n 1, 1) := by decide +kernel
theorem dX7_doSwap_14 : decode cX7_doSwap 14 = .ok (.invokevirtual 29, 3) := by decide +kernel
theorem dX7_doSwap_17 : decode cX7_doSwap 17 = .ok (.invokevirtual 53, 3) := by decide +kernel
theorem dX7_doSwap_20 : decode cX7_doSwap 20 = .ok (.aload_n 0, 1) := by decide +kernel
theorem dX7_doSwap_21 : decode cX7_doSwap 21 = .ok (.iconst 0, 1) := by decide +kernel
theorem dX7_doSwap_22 : decode cX7_doSwap 22 = .ok (.iload_n 1, 1) := by decide +kernel
theorem dX7_doSwap_23 : decode cX7_doSwap 23 = .ok (.aload_n 0, 1) := by decide +kernel
theorem dX7_doSwap_24 : decode cX7_doSwap 24 = .ok (.iconst 1, 1) := by decide +kernel
theorem dX7_doSwap_25 : decode cX7_doSwap 25 = .ok (.iload_n 1, 1) := by decide +kernel
theorem dX7_doSwap_26 : decode cX7_doSwap 26 = .ok (.invokevirtual 29, 3) := by decide +kernel
theorem dX7_doSwap_29 : decode cX7_doSwap 29 = .ok (.invokevirtual 53, 3) := by decide +kernel
theorem dX7_doSwap_32 : decode cX7_doSwap 32 = .ok (.iinc 1 1, 3) := by decide +kernel
theorem dX7_doSwap_35 : decode cX7_doSwap 35 = .ok (.goto (-33), 3) := by decide +kernel
theorem dX7_doSwap_38 : decode cX7_doSwap 38 = .ok (.aload_n 0, 1) := by decide +kernel
theorem dX7_doSwap_39 : decode cX7_doSwap 39 = .ok (.getfield 7, 3) := by decide +kernel
theorem dX7_doSwap_42 : decode cX7_doSwap 42 = .ok (.bipush 6, 2) := by decide +kernel
theorem dX7_doSwap_44 : decode cX7_doSwap 44 = .ok (.iconst 1, 1) := by decide +kernel
theorem dX7_doSwap_45 : decode cX7_doSwap 45 = .ok (.iastore, 1) := by decide +kernel
theorem dX7_doSwap_46 : decode cX7_doSwap 46 = .ok (.aload_n 0, 1) := by decide +kernel
theorem dX7_doSwap_47 : decode cX7_doSwap 47 = .ok (.invokevirtual 74, 3) := by decide +kernel
theorem dX7_doSwap_50 : decode cX7_doSwap 50 = .ok (.aload_n 0, 1) := by decide +kernel
theorem dX7_doSwap_51 : decode cX7_doSwap 51 = .ok (.getfield 7, 3) := by decide +kernel
theorem dX7_doSwap_54 : decode cX7_doSwap 54 = .ok (.bipush 12, 2) := by decide +kernel
theorem dX7_doSwap_56 : decode cX7_doSwap 56 = .ok (.dup2, 1) := by decide +kernel
theorem dX7_doSwap_57 : decode cX7_doSwap 57 = .ok (.iaload, 1) := by decide +kernel
theorem dX7_doSwap_58 : decode cX7_doSwap 58 = .ok (.iconst 1, 1) := by decide +kernel
theorem dX7_doSwap_59 : decode cX7_doSwap 59 = .ok (.iadd, 1) := by decide +kernel
theorem dX7_doSwap_60 : decode cX7_doSwap 60 = .ok (.iastore, 1) := by decide +kernel
theorem dX7_doSwap_61 : decode cX7_doSwap 61 = .ok (.aload_n 0, 1) := by decide +kernel
theorem dX7_doSwap_62 : decode cX7_doSwap 62 = .ok (.iconst 0, 1) := by decide +kernel
theorem dX7_doSwap_63 : decode cX7_doSwap 63 = .ok (.invokevirtual 83, 3) := by decide +kernel
theorem dX7_doSwap_66 : decode cX7_doSwap 66 = .ok (.ireturn, 1) := by decide +kernel
set_option maxRecDepth 20000 in
theorem ggX7_doGiveUp_X7_rows : GoodIn wsX7_doGiveUp wsX7_rows := goodIn_r _ [6, 7, 8, 9, 5, 10, 1, 15, 16, 17, 18, 19, 20, 21, 22, 23, 24, 25, 26, 27] (by rfl) (by decide +kernel)
set_option maxRecDepth 20000 in
theorem gX7_doGiveUp_X7_rows : GoodIn wsX7_doGiveUp (wsV RX7 83 RX7 yX7_rows wsX7_rows) := goodIn_app (goodIn_r _ [2, 3, 4, 5] (by rfl) (by decide +kernel)) ggX7_doGiveUp_X7_rows
set_option maxRecDepth 20000 in
theorem ggX7_doGiveUp_X7_endCopy : GoodIn wsX7_doGiveUp wsX7_endCopy := goodIn_r _ [14, 1, 15, 16, 17, 18, 19, 20, 21, 22, 23, 24, 25, 26, 27] (by rfl) (by decide +kernel)
set_option maxRecDepth 20000 in
theorem gX7_doGiveUp_X7_endCopy : GoodIn wsX7_doGiveUp (wsV RX7 74 RX7 yX7_endCopy wsX7_endCopy) := goodIn_app (goodIn_r _ [11, 12, 13, 5] (by rfl) (by decide +kernel)) ggX7_doGiveUp_X7_endCopy
theorem dX7_doGiveUp_0 : decode cX7_doGiveUp 0 = .ok (.aload_n 0, 1) := by decide +kernel
theorem dX7_doGiveUp_1 : decode cX7_doGiveUp 1 = .ok (.iconst 1, 1) := by decide +kernel
theorem dX7_doGiveUp_2 : decode cX7_doGiveUp 2 = .ok (.invokevirtual 83, 3) := by decide +kernel
theorem dX7_doGiveUp_5 : decode cX7_doGiveUp 5 = .ok (.istore_n 1, 1) := by decide +kernel
theorem dX7_doGiveUp_6 : decode cX7_doGiveUp 6 = .ok (.aload_n 0, 1) := by decide +kernel
theorem dX7_doGiveUp_7 : decode cX7_doGiveUp 7 = .ok (.invokevirtual 74, 3) := by decide +kernel
theorem dX7_doGiveUp_10 : decode cX7_doGiveUp 10 = .ok (.aload_n 0, 1) := by decide +kernel
theorem dX7_doGiveUp_11 : decode cX7_doGiveUp 11 = .ok (.getfield 7, 3) := by decide +kernel
theorem dX7_doGiveUp_14 : decode cX7_doGiveUp 14 = .ok (.bipush 13, 2) := by decide +kernel
theorem dX7_doGiveUp_16 : decode cX7_doGiveUp 16 = .ok (.dup2, 1) := by decide +kernel
theorem dX7_doGiveUp_17 : decode cX7_doGiveUp 17 = .ok (.iaload, 1) := by decide +kernel
theorem dX7_doGiveUp_18 : decode cX7_doGiveUp 18 = .ok (.iconst 1, 1) := by decide +kernel
theorem dX7_doGiveUp_19 : decode cX7_doGiveUp 19 = .ok (.iadd, 1) := by decide +kernel
theorem dX7_doGiveUp_20 : decode cX7_doGiveUp 20 = .ok (.iastore, 1) := by decide +kernel
theorem dX7_doGiveUp_21 : decode cX7_doGiveUp 21 = .ok (.iload_n 1, 1) := by decide +kernel
theorem dX7_doGiveUp_22 : decode cX7_doGiveUp 22 = .ok (.ireturn, 1) := by decide +kernel
theorem dX7_phaseError_0 : decode cX7_phaseError 0 = .ok (.aload_n 0, 1) := by decide +kernel
theorem dX7_phaseError_1 : decode cX7_phaseError 1 = .ok (.getfield 7, 3) := by decide +kernel
theorem dX7_phaseError_4 : decode cX7_phaseError 4 = .ok (.iconst 0, 1) := by decide +kernel
theorem dX7_phaseError_5 : decode cX7_phaseError 5 = .ok (.iaload, 1) := by decide +kernel
theorem dX7_phaseError_6 : decode cX7_phaseError 6 = .ok (.iload_n 1, 1) := by decide +kernel
theorem dX7_phaseError_7 : decode cX7_phaseError 7 = .ok (.if_icmp .ne 7, 3) := by decide +kernel
theorem dX7_phaseError_10 : decode cX7_phaseError 10 = .ok (.iconst 0, 1) := by decide +kernel
theorem dX7_phaseError_11 : decode cX7_phaseError 11 = .ok (.goto 5, 3) := by decide +kernel
theorem dX7_phaseError_14 : decode cX7_phaseError 14 = .ok (.bipush (-4), 2) := by decide +kernel
theorem dX7_phaseError_16 : decode cX7_phaseError 16 = .ok (.ireturn, 1) := by decide +kernel
set_option maxRecDepth 20000 in
theorem ggX7_put_X7_putError : GoodIn wsX7_put wsX7_putError := goodIn_r _ [5, 6, 7, 4, 8, 9, 10, 11, 12, 13, 14, 15, 16, 17, 18, 19, 20, 21, 22, 23, 24, 53, 54, 55, 56, 57, 58, 59, 60, 61, 62, 63, 64, 65] (by rfl) (by decide +kernel)
set_option maxRecDepth 20000 in
theorem gX7_put_X7_putError : GoodIn wsX7_put (wsV RX7 89 RX7 yX7_putError wsX7_putError) := goodIn_app (goodIn_r _ [1, 2, 3, 4] (by rfl) (by decide +kernel)) ggX7_put_X7_putError
set_option maxRecDepth 20000 in
theorem ggX7_put_X7_record : GoodIn wsX7_put wsX7_record := goodIn_r _ [28, 29, 30, 16, 31, 32, 4, 33, 53, 54, 55, 56, 57, 58, 59, 60, 61, 62, 63, 64, 65] (by rfl) (by decide +kernel)
set_option maxRecDepth 20000 in
theorem gX7_put_X7_record : GoodIn wsX7_put (wsV RX7 92 RX7 yX7_record wsX7_record) := goodIn_app (goodIn_r _ [25, 26, 27, 4] (by rfl) (by decide +kernel)) ggX7_put_X7_record
set_option maxRecDepth 20000 in
theorem ggX7_put_X7_doChange : GoodIn wsX7_put wsX7_doChange := goodIn_r _ [37, 16, 38, 39, 40, 4, 41, 17, 18, 19, 20, 21, 22, 23, 24, 42, 43, 44, 45, 46, 47, 48, 49, 50, 51, 52, 53, 54, 55, 56, 57, 58, 59, 60, 61, 62, 63, 64, 65] (by rfl) (by decide +kernel)
set_option maxRecDepth 20000 in
theorem gX7_put_X7_doChange : GoodIn wsX7_put (wsV RX7 80 RX7 yX7_doChange wsX7_doChange) := goodIn_app (goodIn_r _ [34, 35, 36, 4] (by rfl) (by decide +kernel)) ggX7_put_X7_doChange
theorem dX7_put_0 : decode cX7_put 0 = .ok (.aload_n 0, 1) := by decide +kernel
theorem dX7_put_1 : decode cX7_put 1 = .ok (.iload_n 1, 1) := by decide +kernel
theorem dX7_put_2 : decode cX7_put 2 = .ok (.iload_n 2, 1) := by decide +kernel
theorem dX7_put_3 : decode cX7_put 3 = .ok (.invokevirtual 89, 3) := by decide +kernel
theorem dX7_put_6 : decode cX7_put 6 = .ok (.istore_n 3, 1) := by decide +kernel
theorem dX7_put_7 : decode cX7_put 7 = .ok (.iload_n 3, 1) := by decide +kernel
theorem dX7_put_8 : decode cX7_put 8 = .ok (.ifCond .ge 5, 3) := by decide +kernel
theorem dX7_put_11 : decode cX7_put 11 = .ok (.iload_n 3, 1) := by decide +kernel
theorem dX7_put_12 : decode cX7_put 12 = .ok (.ireturn, 1) := by decide +kernel
theorem dX7_put_13 : decode cX7_put 13 = .ok (.aload_n 0, 1) := by decide +kernel
theorem dX7_put_14 : decode cX7_put 14 = .ok (.invokevirtual 92, 3) := by decide +kernel
theorem dX7_put_17 : decode cX7_put 17 = .ok (.aload_n 0, 1) := by decide +kernel
theorem dX7_put_18 : decode cX7_put 18 = .ok (.iload_n 1, 1) := by decide +kernel
theorem dX7_put_19 : decode cX7_put 19 = .ok (.iload_n 2, 1) := by decide +kernel
theorem dX7_put_20 : decode cX7_put 20 = .ok (.invokevirtual 80, 3) := by decide +kernel
theorem dX7_put_23 : decode cX7_put 23 = .ok (.ireturn, 1) := by decide +kernel
set_option maxRecDepth 20000 in
theorem ggX7_erase_X7_eraseError : GoodIn wsX7_erase wsX7_eraseError := goodIn_r _ [5, 6, 7, 8, 4, 9, 10, 11, 12, 13, 14, 15, 16, 17, 18, 19, 20, 21, 22, 23, 24, 25, 26, 27, 28, 57, 58, 59, 60, 61, 62, 63, 64, 65, 66, 67, 68, 69] (by rfl) (by decide +kernel)
set_option maxRecDepth 20000 in
theorem gX7_erase_X7_eraseError : GoodIn wsX7_erase (wsV RX7 95 RX7 yX7_eraseError wsX7_eraseError) := goodIn_app (goodIn_r _ [1, 2, 3, 4] (by rfl) (by decide +kernel)) ggX7_erase_X7_eraseError
set_option maxRecDepth 20000 in
theorem ggX7_erase_X7_record : GoodIn wsX7_erase wsX7_record := goodIn_r _ [32, 33, 34, 6, 35, 36, 4, 37, 57, 58, 59, 60, 61, 62, 63, 64, 65, 66, 67, 68, 69] (by rfl) (by decide +kernel)
set_option maxRecDepth 20000 in
theorem gX7_erase_X7_record : GoodIn wsX7_erase (wsV RX7 92 RX7 yX7_record wsX7_record) := goodIn_app (goodIn_r _ [29, 30, 31, 4] (by rfl) (by decide +kernel)) ggX7_erase_X7_record
set_option maxRecDepth 20000 in
theorem ggX7_erase_X7_doErase : GoodIn wsX7_erase wsX7_doErase := goodIn_r _ [41, 13, 14, 15, 4, 16, 6, 42, 43, 44, 45, 21, 22, 23, 24, 25, 26, 27, 28, 46, 47, 48, 49, 50, 51, 52, 53, 54, 55, 56, 57, 58, 59, 60, 61, 62, 63, 64, 65, 66, 67, 68, 69] (by rfl) (by decide +kernel)
set_option maxRecDepth 20000 in
theorem gX7_erase_X7_doErase : GoodIn wsX7_erase (wsV RX7 98 RX7 yX7_doErase wsX7_doErase) := goodIn_app (goodIn_r _ [38, 39, 40, 4] (by rfl) (by decide +kernel)) ggX7_erase_X7_doErase
theorem dX7_erase_0 : decode cX7_erase 0 = .ok (.aload_n 0, 1) := by decide +kernel
theorem dX7_erase_1 : decode cX7_erase 1 = .ok (.iload_n 1, 1) := by decide +kernel
theorem dX7_erase_2 : decode cX7_erase 2 = .ok (.invokevirtual 95, 3) := by decide +kernel
theorem dX7_erase_5 : decode cX7_erase 5 = .ok (.istore_n 2, 1) := by decide +kernel
theorem dX7_erase_6 : decode cX7_erase 6 = .ok (.iload_n 2, 1) := by decide +kernel
theorem dX7_erase_7 : decode cX7_erase 7 = .ok (.ifCond .ge 5, 3) := by decide +kernel
theorem dX7_erase_10 : decode cX7_erase 10 = .ok (.iload_n 2, 1) := by decide +kernel
theorem dX7_erase_11 : decode cX7_erase 11 = .ok (.ireturn, 1) := by decide +kernel
theorem dX7_erase_12 : decode cX7_erase 12 = .ok (.aload_n 0, 1) := by decide +kernel
theorem dX7_erase_13 : decode cX7_erase 13 = .ok (.invokevirtual 92, 3) := by decide +kernel
theorem dX7_erase_16 : decode cX7_erase 16 = .ok (.aload_n 0, 1) := by decide +kernel
theorem dX7_erase_17 : decode cX7_erase 17 = .ok (.iload_n 1, 1) := by decide +kernel
theorem dX7_erase_18 : decode cX7_erase 18 = .ok (.invokevirtual 98, 3) := by decide +kernel
theorem dX7_erase_21 : decode cX7_erase 21 = .ok (.ireturn, 1) := by decide +kernel
set_option maxRecDepth 20000 in
theorem ggX7_begin_X7_beginError : GoodIn wsX7_begin wsX7_beginError := goodIn_r _ [5, 6, 7, 4, 8, 9, 10, 11, 12, 13, 39, 40, 41, 42, 43, 44, 45, 46, 47, 48, 49, 50, 51] (by rfl) (by decide +kernel)
set_option maxRecDepth 20000 in
theorem gX7_begin_X7_beginError : GoodIn wsX7_begin (wsV RX7 101 RX7 yX7_beginError wsX7_beginError) := goodIn_app (goodIn_r _ [1, 2, 3, 4] (by rfl) (by decide +kernel)) ggX7_begin_X7_beginError
set_option maxRecDepth 20000 in
theorem ggX7_begin_X7_record : GoodIn wsX7_begin wsX7_record := goodIn_r _ [17, 18, 19, 13, 20, 21, 4, 22, 39, 40, 41, 42, 43, 44, 45, 46, 47, 48, 49, 50, 51] (by rfl) (by decide +kernel)
set_option maxRecDepth 20000 in
theorem gX7_begin_X7_record : GoodIn wsX7_begin (wsV RX7 92 RX7 yX7_record wsX7_record) := goodIn_app (goodIn_r _ [14, 15, 16, 4] (by rfl) (by decide +kernel)) ggX7_begin_X7_record
set_option maxRecDepth 20000 in
theorem ggX7_begin_X7_doBegin : GoodIn wsX7_begin wsX7_doBegin := goodIn_r _ [26, 13, 27, 28, 29, 4, 30, 31, 32, 33, 34, 35, 36, 37, 38, 39, 40, 41, 42, 43, 44, 45, 46, 47, 48, 49, 50, 51] (by rfl) (by decide +kernel)
set_option maxRecDepth 20000 in
theorem gX7_begin_X7_doBegin : GoodIn wsX7_begin (wsV RX7 104 RX7 yX7_doBegin wsX7_doBegin) := goodIn_app (goodIn_r _ [23, 24, 25, 4] (by rfl) (by decide +kernel)) ggX7_begin_X7_doBegin
theorem dX7_begin_0 : decode cX7_begin 0 = .ok (.aload_n 0, 1) := by decide +kernel
theorem dX7_begin_1 : decode cX7_begin 1 = .ok (.iload_n 1, 1) := by decide +kernel
theorem dX7_begin_2 : decode cX7_begin 2 = .ok (.iload_n 2, 1) := by decide +kernel
theorem dX7_begin_3 : decode cX7_begin 3 = .ok (.invokevirtual 101, 3) := by decide +kernel
theorem dX7_begin_6 : decode cX7_begin 6 = .ok (.istore_n 3, 1) := by decide +kernel
theorem dX7_begin_7 : decode cX7_begin 7 = .ok (.iload_n 3, 1) := by decide +kernel
theorem dX7_begin_8 : decode cX7_begin 8 = .ok (.ifCond .ge 5, 3) := by decide +kernel
theorem dX7_begin_11 : decode cX7_begin 11 = .ok (.iload_n 3, 1) := by decide +kernel
theorem dX7_begin_12 : decode cX7_begin 12 = .ok (.ireturn, 1) := by decide +kernel
theorem dX7_begin_13 : decode cX7_begin 13 = .ok (.aload_n 0, 1) := by decide +kernel
theorem dX7_begin_14 : decode cX7_begin 14 = .ok (.invokevirtual 92, 3) := by decide +kernel
theorem dX7_begin_17 : decode cX7_begin 17 = .ok (.aload_n 0, 1) := by decide +kernel
theorem dX7_begin_18 : decode cX7_begin 18 = .ok (.iload_n 1, 1) := by decide +kernel
theorem dX7_begin_19 : decode cX7_begin 19 = .ok (.iload_n 2, 1) := by decide +kernel
theorem dX7_begin_20 : decode cX7_begin 20 = .ok (.invokevirtual 104, 3) := by decide +kernel
theorem dX7_begin_23 : decode cX7_begin 23 = .ok (.ireturn, 1) := by decide +kernel
set_option maxRecDepth 20000 in
theorem ggX7_tick_X7_in : GoodIn wsX7_tick wsX7_in := goodIn_r _ [4] (by rfl) (by decide +kernel)
set_option maxRecDepth 20000 in
theorem gX7_tick_X7_in : GoodIn wsX7_tick (va_wsS RX7 25 yX7_in wsX7_in) := goodIn_app (goodIn_r _ [1, 2, 3] (by rfl) (by decide +kernel)) ggX7_tick_X7_in
set_option maxRecDepth 20000 in
theorem ggX7_tick_X7_record : GoodIn wsX7_tick wsX7_record := goodIn_r _ [8, 9, 10, 11, 12, 13, 3, 14, 50, 51, 52, 53, 54, 55, 56, 57, 58, 59, 60, 61, 62] (by rfl) (by decide +kernel)
set_option maxRecDepth 20000 in
theorem gX7_tick_X7_record : GoodIn wsX7_tick (wsV RX7 92 RX7 yX7_record wsX7_record) := goodIn_app (goodIn_r _ [5, 6, 7, 3] (by rfl) (by decide +kernel)) ggX7_tick_X7_record
set_option maxRecDepth 20000 in
theorem ggX7_tick_X7_doTick : GoodIn wsX7_tick wsX7_doTick := goodIn_r _ [18, 11, 19, 20, 21, 3, 22, 23, 24, 25, 26, 27, 28, 29, 30, 31, 32, 33, 34, 35, 36, 37, 38, 39, 40, 41, 42, 43, 44, 45, 46, 47, 48, 49, 50, 51, 52, 53, 54, 55, 56, 57, 58, 59, 60, 61, 62] (by rfl) (by decide +kernel)
set_option maxRecDepth 20000 in
theorem gX7_tick_X7_doTick : GoodIn wsX7_tick (wsV RX7 107 RX7 yX7_doTick wsX7_doTick) := goodIn_app (goodIn_r _ [15, 16, 17, 3] (by rfl) (by decide +kernel)) ggX7_tick_X7_doTick
theorem dX7_tick_0 : decode cX7_tick 0 = .ok (.iload_n 1, 1) := by decide +kernel
theorem dX7_tick_1 : decode cX7_tick 1 = .ok (.iconst 1, 1) := by decide +kernel
theorem dX7_tick_2 : decode cX7_tick 2 = .ok (.bipush 99, 2) := by decide +kernel
theorem dX7_tick_4 : decode cX7_tick 4 = .ok (.invokestatic 25, 3) := by decide +kernel
theorem dX7_tick_7 : decode cX7_tick 7 = .ok (.ifCond .ne 6, 3) := by decide +kernel
theorem dX7_tick_10 : decode cX7_tick 10 = .ok (.bipush (-2), 2) := by decide +kernel
theorem dX7_tick_12 : decode cX7_tick 12 = .ok (.ireturn, 1) := by decide +kernel
theorem dX7_tick_13 : decode cX7_tick 13 = .ok (.aload_n 0, 1) := by decide +kernel
theorem dX7_tick_14 : decode cX7_tick 14 = .ok (.invokevirtual 92, 3) := by decide +kernel
theorem dX7_tick_17 : decode cX7_tick 17 = .ok (.aload_n 0, 1) := by decide +kernel
theorem dX7_tick_18 : decode cX7_tick 18 = .ok (.iload_n 1, 1) := by decide +kernel
theorem dX7_tick_19 : decode cX7_tick 19 = .ok (.invokevirtual 107, 3) := by decide +kernel
theorem dX7_tick_22 : decode cX7_tick 22 = .ok (.ireturn, 1) := by decide +kernel
set_option maxRecDepth 20000 in
theorem ggX7_lock_X7_phaseError : GoodIn wsX7_lock wsX7_phaseError := goodIn_r _ [5, 6, 20, 21, 22, 23, 24, 25, 26, 27, 28, 29, 30, 31, 32] (by rfl) (by decide +kernel)
set_option maxRecDepth 20000 in
theorem gX7_lock_X7_phaseError : GoodIn wsX7_lock (wsV RX7 110 RX7 yX7_phaseError wsX7_phaseError) := goodIn_app (goodIn_r _ [1, 2, 3, 4] (by rfl) (by decide +kernel)) ggX7_lock_X7_phaseError
set_option maxRecDepth 20000 in
theorem ggX7_lock_X7_record : GoodIn wsX7_lock wsX7_record := goodIn_r _ [10, 11, 12, 6, 13, 14, 4, 15, 20, 21, 22, 23, 24, 25, 26, 27, 28, 29, 30, 31, 32] (by rfl) (by decide +kernel)
set_option maxRecDepth 20000 in
theorem gX7_lock_X7_record : GoodIn wsX7_lock (wsV RX7 92 RX7 yX7_record wsX7_record) := goodIn_app (goodIn_r _ [7, 8, 9, 4] (by rfl) (by decide +kernel)) ggX7_lock_X7_record
set_option maxRecDepth 20000 in
theorem ggX7_lock_X7_doLock : GoodIn wsX7_lock wsX7_doLock := goodIn_r _ [19, 6, 20, 21, 22, 23, 24, 25, 26, 27, 28, 29, 30, 31, 32] (by rfl) (by decide +kernel)
set_option maxRecDepth 20000 in
theorem gX7_lock_X7_doLock : GoodIn wsX7_lock (wsV RX7 113 RX7 yX7_doLock wsX7_doLock) := goodIn_app (goodIn_r _ [16, 17, 18, 4] (by rfl) (by decide +kernel)) ggX7_lock_X7_doLock
theorem dX7_lock_0 : decode cX7_lock 0 = .ok (.aload_n 0, 1) := by decide +kernel
theorem dX7_lock_1 : decode cX7_lock 1 = .ok (.iconst 2, 1) := by decide +kernel
theorem dX7_lock_2 : decode cX7_lock 2 = .ok (.invokevirtual 110, 3) := by decide +kernel
theorem dX7_lock_5 : decode cX7_lock 5 = .ok (.istore_n 1, 1) := by decide +kernel
theorem dX7_lock_6 : decode cX7_lock 6 = .ok (.iload_n 1, 1) := by decide +kernel
theorem dX7_lock_7 : decode cX7_lock 7 = .ok (.ifCond .ge 5, 3) := by decide +kernel
theorem dX7_lock_10 : decode cX7_lock 10 = .ok (.iload_n 1, 1) := by decide +kernel
theorem dX7_lock_11 : decode cX7_lock 11 = .ok (.ireturn, 1) := by decide +kernel
theorem dX7_lock_12 : decode cX7_lock 12 = .ok (.aload_n 0, 1) := by decide +kernel
theorem dX7_lock_13 : decode cX7_lock 13 = .ok (.invokevirtual 92, 3) := by decide +kernel
theorem dX7_lock_16 : decode cX7_lock 16 = .ok (.aload_n 0, 1) := by decide +kernel
theorem dX7_lock_17 : decode cX7_lock 17 = .ok (.invokevirtual 113, 3) := by decide +kernel
theorem dX7_lock_20 : decode cX7_lock 20 = .ok (.ireturn, 1) := by decide +kernel
set_option maxRecDepth 20000 in
theorem ggX7_unlock_X7_phaseError : GoodIn wsX7_unlock wsX7_phaseError := goodIn_r _ [5, 6, 20, 21, 22, 23, 24, 25, 26, 27, 28, 29, 30, 31, 32] (by rfl) (by decide +kernel)
set_option maxRecDepth 20000 in
theorem gX7_unlock_X7_phaseError : GoodIn wsX7_unlock (wsV RX7 110 RX7 yX7_phaseError wsX7_phaseError) := goodIn_app (goodIn_r _ [1, 2, 3, 4] (by rfl) (by decide +kernel)) ggX7_unlock_X7_phaseError
set_option maxRecDepth 20000 in
theorem ggX7_unlock_X7_record : GoodIn wsX7_unlock wsX7_record := goodIn_r _ [10, 11, 12, 6, 13, 14, 4, 15, 20, 21, 22, 23, 24, 25, 26, 27, 28, 29, 30, 31, 32] (by rfl) (by decide +kernel)
set_option maxRecDepth 20000 in
theorem gX7_unlock_X7_record : GoodIn wsX7_unlock (wsV RX7 92 RX7 yX7_record wsX7_record) := goodIn_app (goodIn_r _ [7, 8, 9, 4] (by rfl) (by decide +kernel)) ggX7_unlock_X7_record
set_option maxRecDepth 20000 in
theorem ggX7_unlock_X7_doUnlock : GoodIn wsX7_unlock wsX7_doUnlock := goodIn_r _ [19, 6, 20, 21, 22, 23, 24, 25, 26, 27, 28, 29, 30, 31, 32] (by rfl) (by decide +kernel)
set_option maxRecDepth 20000 in
theorem gX7_unlock_X7_doUnlock : GoodIn wsX7_unlock (wsV RX7 116 RX7 yX7_doUnlock wsX7_doUnlock) := goodIn_app (goodIn_r _ [16, 17, 18, 4] (by rfl) (by decide +kernel)) ggX7_unlock_X7_doUnlock
theorem dX7_unlock_0 : decode cX7_unlock 0 = .ok (.aload_n 0, 1) := by decide +kernel
theorem dX7_unlock_1 : decode cX7_unlock 1 = .ok (.iconst 3, 1) := by decide +kernel
theorem dX7_unlock_2 : decode cX7_unlock 2 = .ok (.invokevirtual 110, 3) := by decide +kernel
theorem dX7_unlock_5 : decode cX7_unlock 5 = .ok (.istore_n 1, 1) := by decide +kernel
theorem dX7_unlock_6 : decode cX7_unlock 6 = .ok (.iload_n 1, 1) := by decide +kernel
theorem dX7_unlock_7 : decode cX7_unlock 7 = .ok (.ifCond .ge 5, 3) := by decide +kernel
theorem dX7_unlock_10 : decode cX7_unlock 10 = .ok (.iload_n 1, 1) := by decide +kernel
theorem dX7_unlock_11 : decode cX7_unlock 11 = .ok (.ireturn, 1) := by decide +kernel
theorem dX7_unlock_12 : decode cX7_unlock 12 = .ok (.aload_n 0, 1) := by decide +kernel
theorem dX7_unlock_13 : decode cX7_unlock 13 = .ok (.invokevirtual 92, 3) := by decide +kernel
theorem dX7_unlock_16 : decode cX7_unlock 16 = .ok (.aload_n 0, 1) := by decide +kernel
theorem dX7_unlock_17 : decode cX7_unlock 17 = .ok (.invokevirtual 116, 3) := by decide +kernel
theorem dX7_unlock_20 : decode cX7_unlock 20 = .ok (.ireturn, 1) := by decide +kernel
set_option maxRecDepth 20000 in
theorem ggX7_swap_X7_swapError : GoodIn wsX7_swap wsX7_swapError := goodIn_r _ [5, 6, 36, 37, 38, 39, 40, 41, 42, 43, 44, 45, 46, 47, 48] (by rfl) (by decide +kernel)
set_option maxRecDepth 20000 in
theorem gX7_swap_X7_swapError : GoodIn wsX7_swap (wsV RX7 119 RX7 yX7_swapError wsX7_swapError) := goodIn_app (goodIn_r _ [1, 2, 3, 4] (by rfl) (by decide +kernel)) ggX7_swap_X7_swapError
set_option maxRecDepth 20000 in
theorem ggX7_swap_X7_record : GoodIn wsX7_swap wsX7_record := goodIn_r _ [10, 11, 12, 6, 13, 14, 4, 15, 36, 37, 38, 39, 40, 41, 42, 43, 44, 45, 46, 47, 48] (by rfl) (by decide +kernel)
set_option maxRecDepth 20000 in
theorem gX7_swap_X7_record : GoodIn wsX7_swap (wsV RX7 92 RX7 yX7_record wsX7_record) := goodIn_app (goodIn_r _ [7, 8, 9, 4] (by rfl) (by decide +kernel)) ggX7_swap_X7_record
set_option maxRecDepth 20000 in
theorem ggX7_swap_X7_doSwap : GoodIn wsX7_swap wsX7_doSwap := goodIn_r _ [19, 6, 20, 21, 22, 4, 23, 24, 25, 26, 27, 28, 29, 30, 31, 32, 33, 34, 35, 36, 37, 38, 39, 40, 41, 42, 43, 44, 45, 46, 47, 48] (by rfl) (by decide +kernel)
set_option maxRecDepth 20000 in
theorem gX7_swap_X7_doSwap : GoodIn wsX7_swap (wsV RX7 122 RX7 yX7_doSwap wsX7_doSwap) := goodIn_app (goodIn_r _ [16, 17, 18, 4] (by rfl) (by decide +kernel)) ggX7_swap_X7_doSwap
theorem dX7_swap_0 : decode cX7_swap 0 = .ok (.aload_n 0, 1) := by decide +kernel
theorem dX7_swap_1 : decode cX7_swap 1 = .ok (.invokevirtual 119, 3) := by decide +kernel
theorem dX7_swap_4 : decode cX7_swap 4 = .ok (.istore_n 1, 1) := by decide +kernel
theorem dX7_swap_5 : decode cX7_swap 5 = .ok (.iload_n 1, 1) := by decide +kernel
theorem dX7_swap_6 : decode cX7_swap 6 = .ok (.ifCond .ge 5, 3) := by decide +kernel
theorem dX7_swap_9 : decode cX7_swap 9 = .ok (.iload_n 1, 1) := by decide +kernel
theorem dX7_swap_10 : decode cX7_swap 10 = .ok (.ireturn, 1) := by decide +kernel
theorem dX7_swap_11 : decode cX7_swap 11 = .ok (.aload_n 0, 1) := by decide +kernel
theorem dX7_swap_12 : decode cX7_swap 12 = .ok (.invokevirtual 92, 3) := by decide +kernel
theorem dX7_swap_15 : decode cX7_swap 15 = .ok (.aload_n 0, 1) := by decide +kernel
theorem dX7_swap_16 : decode cX7_swap 16 = .ok (.invokevirtual 122, 3) := by decide +kernel
theorem dX7_swap_19 : decode cX7_swap 19 = .ok (.ireturn, 1) := by decide +kernel
set_option maxRecDepth 20000 in
theorem ggX7_giveUp_X7_isCopy : GoodIn wsX7_giveUp wsX7_isCopy := goodIn_r _ [5, 6, 32, 33, 34, 35, 36, 37, 38, 39, 40, 41, 42, 43, 44] (by rfl) (by decide +kernel)
set_option maxRecDepth 20000 in
theorem gX7_giveUp_X7_isCopy : GoodIn wsX7_giveUp (wsV RX7 33 RX7 yX7_isCopy wsX7_isCopy) := goodIn_app (goodIn_r _ [1, 2, 3, 4] (by rfl) (by decide +kernel)) ggX7_giveUp_X7_isCopy
set_option maxRecDepth 20000 in
theorem ggX7_giveUp_X7_record : GoodIn wsX7_giveUp wsX7_record := goodIn_r _ [10, 11, 12, 6, 13, 14, 4, 15, 32, 33, 34, 35, 36, 37, 38, 39, 40, 41, 42, 43, 44] (by rfl) (by decide +kernel)
set_option maxRecDepth 20000 in
theorem gX7_giveUp_X7_record : GoodIn wsX7_giveUp (wsV RX7 92 RX7 yX7_record wsX7_record) := goodIn_app (goodIn_r _ [7, 8, 9, 4] (by rfl) (by decide +kernel)) ggX7_giveUp_X7_record
set_option maxRecDepth 20000 in
theorem ggX7_giveUp_X7_doGiveUp : GoodIn wsX7_giveUp wsX7_doGiveUp := goodIn_r _ [19, 6, 20, 21, 22, 4, 23, 24, 25, 26, 27, 28, 29, 30, 31, 32, 33, 34, 35, 36, 37, 38, 39, 40, 41, 42, 43, 44] (by rfl) (by decide +kernel)
set_option maxRecDepth 20000 in
theorem gX7_giveUp_X7_doGiveUp : GoodIn wsX7_giveUp (wsV RX7 125 RX7 yX7_doGiveUp wsX7_doGiveUp) := goodIn_app (goodIn_r _ [16, 17, 18, 4] (by rfl) (by decide +kernel)) ggX7_giveUp_X7_doGiveUp
theorem dX7_giveUp_0 : decode cX7_giveUp 0 = .ok (.aload_n 0, 1) := by decide +kernel
theorem dX7_giveUp_1 : decode cX7_giveUp 1 = .ok (.invokevirtual 33, 3) := by decide +kernel
theorem dX7_giveUp_4 : decode cX7_giveUp 4 = .ok (.ifCond .ne 6, 3) := by decide +kernel
theorem dX7_giveUp_7 : decode cX7_giveUp 7 = .ok (.bipush (-4), 2) := by decide +kernel
theorem dX7_giveUp_9 : decode cX7_giveUp 9 = .ok (.ireturn, 1) := by decide +kernel
theorem dX7_giveUp_10 : decode cX7_giveUp 10 = .ok (.aload_n 0, 1) := by decide +kernel
theorem dX7_giveUp_11 : decode cX7_giveUp 11 = .ok (.invokevirtual 92, 3) := by decide +kernel
theorem dX7_giveUp_14 : decode cX7_giveUp 14 = .ok (.aload_n 0, 1) := by decide +kernel
theorem dX7_giveUp_15 : decode cX7_giveUp 15 = .ok (.invokevirtual 125, 3) := by decide +kernel
theorem dX7_giveUp_18 : decode cX7_giveUp 18 = .ok (.ireturn, 1) := by decide +kernel
set_option maxRecDepth 20000 in
theorem ggX7_fits_X7_in : GoodIn wsX7_fits wsX7_in := goodIn_r _ [4] (by rfl) (by decide +kernel)
set_option maxRecDepth 20000 in
theorem gX7_fits_X7_in : GoodIn wsX7_fits (va_wsS RX7 25 yX7_in wsX7_in) := goodIn_app (goodIn_r _ [1, 2, 3] (by rfl) (by decide +kernel)) ggX7_fits_X7_in
theorem dX7_fits_0 : decode cX7_fits 0 = .ok (.iload_n 0, 1) := by decide +kernel
theorem dX7_fits_1 : decode cX7_fits 1 = .ok (.ifCond .ne 13, 3) := by decide +kernel
theorem dX7_fits_4 : decode cX7_fits 4 = .ok (.iload_n 1, 1) := by decide +kernel
theorem dX7_fits_5 : decode cX7_fits 5 = .ok (.iconst 1, 1) := by decide +kernel
theorem dX7_fits_6 : decode cX7_fits 6 = .ok (.bipush 8, 2) := by decide +kernel
theorem dX7_fits_8 : decode cX7_fits 8 = .ok (.invokestatic 25, 3) := by decide +kernel
theorem dX7_fits_11 : decode cX7_fits 11 = .ok (.goto 39, 3) := by decide +kernel
theorem dX7_fits_14 : decode cX7_fits 14 = .ok (.iload_n 0, 1) := by decide +kernel
theorem dX7_fits_15 : decode cX7_fits 15 = .ok (.iconst 1, 1) := by decide +kernel
theorem dX7_fits_16 : decode cX7_fits 16 = .ok (.if_icmp .ne 13, 3) := by decide +kernel
theorem dX7_fits_19 : decode cX7_fits 19 = .ok (.iload_n 1, 1) := by decide +kernel
theorem dX7_fits_20 : decode cX7_fits 20 = .ok (.iconst 0, 1) := by decide +kernel
theorem dX7_fits_21 : decode cX7_fits 21 = .ok (.bipush 24, 2) := by decide +kernel
theorem dX7_fits_23 : decode cX7_fits 23 = .ok (.invokestatic 25, 3) := by decide +kernel
theorem dX7_fits_26 : decode cX7_fits 26 = .ok (.goto 24, 3) := by decide +kernel
theorem dX7_fits_29 : decode cX7_fits 29 = .ok (.iload_n 0, 1) := by decide +kernel
theorem dX7_fits_30 : decode cX7_fits 30 = .ok (.iconst 2, 1) := by decide +kernel
theorem dX7_fits_31 : decode cX7_fits 31 = .ok (.if_icmp .ne 13, 3) := by decide +kernel
theorem dX7_fits_34 : decode cX7_fits 34 = .ok (.iload_n 1, 1) := by decide +kernel
theorem dX7_fits_35 : decode cX7_fits 35 = .ok (.iconst 1, 1) := by decide +kernel
theorem dX7_fits_36 : decode cX7_fits 36 = .ok (.bipush 20, 2) := by decide +kernel
theorem dX7_fits_38 : decode cX7_fits 38 = .ok (.invokestatic 25, 3) := by decide +kernel
theorem dX7_fits_41 : decode cX7_fits 41 = .ok (.goto 9, 3) := by decide +kernel
theorem dX7_fits_44 : decode cX7_fits 44 = .ok (.iload_n 1, 1) := by decide +kernel
theorem dX7_fits_45 : decode cX7_fits 45 = .ok (.iconst 0, 1) := by decide +kernel
theorem dX7_fits_46 : decode cX7_fits 46 = .ok (.iconst 1, 1) := by decide +kernel
theorem dX7_fits_47 : decode cX7_fits 47 = .ok (.invokestatic 25, 3) := by decide +kernel
theorem dX7_fits_50 : decode cX7_fits 50 = .ok (.ireturn, 1) := by decide +kernel
set_option maxRecDepth 20000 in
theorem ggX7_set_X7_in : GoodIn wsX7_set wsX7_in := goodIn_r _ [5] (by rfl) (by decide +kernel)
set_option maxRecDepth 20000 in
theorem gX7_set_X7_in : GoodIn wsX7_set (va_wsS RX7 25 yX7_in wsX7_in) := goodIn_app (goodIn_r _ [2, 3, 4] (by rfl) (by decide +kernel)) ggX7_set_X7_in
set_option maxRecDepth 20000 in
theorem ggX7_set_X7_fits : GoodIn wsX7_set wsX7_fits := goodIn_r _ [8, 2, 3, 4, 5] (by rfl) (by decide +kernel)
set_option maxRecDepth 20000 in
theorem gX7_set_X7_fits : GoodIn wsX7_set (va_wsS RX7 128 yX7_fits wsX7_fits) := goodIn_app (goodIn_r _ [6, 7, 4] (by rfl) (by decide +kernel)) ggX7_set_X7_fits
set_option maxRecDepth 20000 in
theorem ggX7_set_X7_record : GoodIn wsX7_set wsX7_record := goodIn_r _ [12, 13, 14, 1, 15, 16, 4, 17, 18, 19, 20, 21, 22, 23, 24, 25, 26, 27, 28, 29, 30] (by rfl) (by decide +kernel)
set_option maxRecDepth 20000 in
theorem gX7_set_X7_record : GoodIn wsX7_set (wsV RX7 92 RX7 yX7_record wsX7_record) := goodIn_app (goodIn_r _ [9, 10, 11, 4] (by rfl) (by decide +kernel)) ggX7_set_X7_record
theorem dX7_set_0 : decode cX7_set 0 = .ok (.iload_n 1, 1) := by decide +kernel
theorem dX7_set_1 : decode cX7_set 1 = .ok (.iconst 0, 1) := by decide +kernel
theorem dX7_set_2 : decode cX7_set 2 = .ok (.iconst 3, 1) := by decide +kernel
theorem dX7_set_3 : decode cX7_set 3 = .ok (.invokestatic 25, 3) := by decide +kernel
theorem dX7_set_6 : decode cX7_set 6 = .ok (.ifCond .ne 5, 3) := by decide +kernel
theorem dX7_set_9 : decode cX7_set 9 = .ok (.iconst (-1), 1) := by decide +kernel
theorem dX7_set_10 : decode cX7_set 10 = .ok (.ireturn, 1) := by decide +kernel
theorem dX7_set_11 : decode cX7_set 11 = .ok (.iload_n 1, 1) := by decide +kernel
theorem dX7_set_12 : decode cX7_set 12 = .ok (.iload_n 2, 1) := by decide +kernel
theorem dX7_set_13 : decode cX7_set 13 = .ok (.invokestatic 128, 3) := by decide +kernel
theorem dX7_set_16 : decode cX7_set 16 = .ok (.ifCond .ne 6, 3) := by decide +kernel
theorem dX7_set_19 : decode cX7_set 19 = .ok (.bipush (-2), 2) := by decide +kernel
theorem dX7_set_21 : decode cX7_set 21 = .ok (.ireturn, 1) := by decide +kernel
theorem dX7_set_22 : decode cX7_set 22 = .ok (.aload_n 0, 1) := by decide +kernel
theorem dX7_set_23 : decode cX7_set 23 = .ok (.invokevirtual 92, 3) := by decide +kernel
theorem dX7_set_26 : decode cX7_set 26 = .ok (.aload_n 0, 1) := by decide +kernel
theorem dX7_set_27 : decode cX7_set 27 = .ok (.getfield 7, 3) := by decide +kernel
theorem dX7_set_30 : decode cX7_set 30 = .ok (.bipush 7, 2) := by decide +kernel
theorem dX7_set_32 : decode cX7_set 32 = .ok (.iload_n 1, 1) := by decide +kernel
theorem dX7_set_33 : decode cX7_set 33 = .ok (.iadd, 1) := by decide +kernel
theorem dX7_set_34 : decode cX7_set 34 = .ok (.iaload, 1) := by decide +kernel
theorem dX7_set_35 : decode cX7_set 35 = .ok (.istore_n 3, 1) := by decide +kernel
theorem dX7_set_36 : decode cX7_set 36 = .ok (.aload_n 0, 1) := by decide +kernel
theorem dX7_set_37 : decode cX7_set 37 = .ok (.getfield 7, 3) := by decide +kernel
theorem dX7_set_40 : decode cX7_set 40 = .ok (.bipush 7, 2) := by decide +kernel
theorem dX7_set_42 : decode cX7_set 42 = .ok (.iload_n 1, 1) := by decide +kernel
theorem dX7_set_43 : decode cX7_set 43 = .ok (.iadd, 1) := by decide +kernel
theorem dX7_set_44 : decode cX7_set 44 = .ok (.iload_n 2, 1) := by decide +kernel
theorem dX7_set_45 : decode cX7_set 45 = .ok (.iastore, 1) := by decide +kernel
theorem dX7_set_46 : decode cX7_set 46 = .ok (.iload_n 3, 1) := by decide +kernel
theorem dX7_set_47 : decode cX7_set 47 = .ok (.ireturn, 1) := by decide +kernel
set_option maxRecDepth 20000 in
theorem ggX7_append_X7_in : GoodIn wsX7_append wsX7_in := goodIn_r _ [6] (by rfl) (by decide +kernel)
set_option maxRecDepth 20000 in
theorem gX7_append_X7_in : GoodIn wsX7_append (va_wsS RX7 25 yX7_in wsX7_in) := goodIn_app (goodIn_r _ [3, 4, 5] (by rfl) (by decide +kernel)) ggX7_append_X7_in
theorem dX7_append_0 : decode cX7_append 0 = .ok (.iload_n 1, 1) := by decide +kernel
theorem dX7_append_1 : decode cX7_append 1 = .ok (.bipush 32, 2) := by decide +kernel
theorem dX7_append_3 : decode cX7_append 3 = .ok (.bipush 126, 2) := by decide +kernel
theorem dX7_append_5 : decode cX7_append 5 = .ok (.invokestatic 25, 3) := by decide +kernel
theorem dX7_append_8 : decode cX7_append 8 = .ok (.ifCond .ne 6, 3) := by decide +kernel
theorem dX7_append_11 : decode cX7_append 11 = .ok (.bipush (-2), 2) := by decide +kernel
theorem dX7_append_13 : decode cX7_append 13 = .ok (.ireturn, 1) := by decide +kernel
theorem dX7_append_14 : decode cX7_append 14 = .ok (.aload_n 0, 1) := by decide +kernel
theorem dX7_append_15 : decode cX7_append 15 = .ok (.getfield 132, 3) := by decide +kernel
theorem dX7_append_18 : decode cX7_append 18 = .ok (.bipush 80, 2) := by decide +kernel
theorem dX7_append_20 : decode cX7_append 20 = .ok (.if_icmp .ne 6, 3) := by decide +kernel
theorem dX7_append_23 : decode cX7_append 23 = .ok (.bipush (-3), 2) := by decide +kernel
theorem dX7_append_25 : decode cX7_append 25 = .ok (.ireturn, 1) := by decide +kernel
theorem dX7_append_26 : decode cX7_append 26 = .ok (.aload_n 0, 1) := by decide +kernel
theorem dX7_append_27 : decode cX7_append 27 = .ok (.getfield 22, 3) := by decide +kernel
theorem dX7_append_30 : decode cX7_append 30 = .ok (.aload_n 0, 1) := by decide +kernel
theorem dX7_append_31 : decode cX7_append 31 = .ok (.getfield 132, 3) := by decide +kernel
theorem dX7_append_34 : decode cX7_append 34 = .ok (.iload_n 1, 1) := by decide +kernel
theorem dX7_append_35 : decode cX7_append 35 = .ok (.iastore, 1) := by decide +kernel
theorem dX7_append_36 : decode cX7_append 36 = .ok (.aload_n 0, 1) := by decide +kernel
theorem dX7_append_37 : decode cX7_append 37 = .ok (.dup, 1) := by decide +kernel
theorem dX7_append_38 : decode cX7_append 38 = .ok (.getfield 132, 3) := by decide +kernel
theorem dX7_append_41 : decode cX7_append 41 = .ok (.iconst 1, 1) := by decide +kernel
theorem dX7_append_42 : decode cX7_append 42 = .ok (.iadd, 1) := by decide +kernel
theorem dX7_append_43 : decode cX7_append 43 = .ok (.putfield 132, 3) := by decide +kernel
theorem dX7_append_46 : decode cX7_append 46 = .ok (.aload_n 0, 1) := by decide +kernel
theorem dX7_append_47 : decode cX7_append 47 = .ok (.getfield 132, 3) := by decide +kernel
theorem dX7_append_50 : decode cX7_append 50 = .ok (.ireturn, 1) := by decide +kernel
theorem dX7_clearText_0 : decode cX7_clearText 0 = .ok (.aload_n 0, 1) := by decide +kernel
theorem dX7_clearText_1 : decode cX7_clearText 1 = .ok (.getfield 132, 3) := by decide +kernel
theorem dX7_clearText_4 : decode cX7_clearText 4 = .ok (.istore_n 1, 1) := by decide +kernel
theorem dX7_clearText_5 : decode cX7_clearText 5 = .ok (.aload_n 0, 1) := by decide +kernel
theorem dX7_clearText_6 : decode cX7_clearText 6 = .ok (.iconst 0, 1) := by decide +kernel
theorem dX7_clearText_7 : decode cX7_clearText 7 = .ok (.putfield 132, 3) := by decide +kernel
theorem dX7_clearText_10 : decode cX7_clearText 10 = .ok (.iload_n 1, 1) := by decide +kernel
theorem dX7_clearText_11 : decode cX7_clearText 11 = .ok (.ireturn, 1) := by decide +kernel
set_option maxRecDepth 20000 in
theorem ggX7_isNext_X7_in : GoodIn wsX7_isNext wsX7_in := goodIn_r _ [7] (by rfl) (by decide +kernel)
set_option maxRecDepth 20000 in
theorem gX7_isNext_X7_in : GoodIn wsX7_isNext (va_wsS RX7 25 yX7_in wsX7_in) := goodIn_app (goodIn_r _ [4, 5, 6] (by rfl) (by decide +kernel)) ggX7_isNext_X7_in
theorem dX7_isNext_0 : decode cX7_isNext 0 = .ok (.aload_n 0, 1) := by decide +kernel
theorem dX7_isNext_1 : decode cX7_isNext 1 = .ok (.getfield 135, 3) := by decide +kernel
theorem dX7_isNext_4 : decode cX7_isNext 4 = .ok (.aload_n 0, 1) := by decide +kernel
theorem dX7_isNext_5 : decode cX7_isNext 5 = .ok (.getfield 132, 3) := by decide +kernel
theorem dX7_isNext_8 : decode cX7_isNext 8 = .ok (.if_icmp .ge 24, 3) := by decide +kernel
theorem dX7_isNext_11 : decode cX7_isNext 11 = .ok (.aload_n 0, 1) := by decide +kernel
theorem dX7_isNext_12 : decode cX7_isNext 12 = .ok (.getfield 22, 3) := by decide +kernel
theorem dX7_isNext_15 : decode cX7_isNext 15 = .ok (.aload_n 0, 1) := by decide +kernel
theorem dX7_isNext_16 : decode cX7_isNext 16 = .ok (.getfield 135, 3) := by decide +kernel
theorem dX7_isNext_19 : decode cX7_isNext 19 = .ok (.iaload, 1) := by decide +kernel
theorem dX7_isNext_20 : decode cX7_isNext 20 = .ok (.iload_n 1, 1) := by decide +kernel
theorem dX7_isNext_21 : decode cX7_isNext 21 = .ok (.iload_n 2, 1) := by decide +kernel
theorem dX7_isNext_22 : decode cX7_isNext 22 = .ok (.invokestatic 25, 3) := by decide +kernel
theorem dX7_isNext_25 : decode cX7_isNext 25 = .ok (.ifCond .eq 7, 3) := by decide +kernel
theorem dX7_isNext_28 : decode cX7_isNext 28 = .ok (.iconst 1, 1) := by decide +kernel
theorem dX7_isNext_29 : decode cX7_isNext 29 = .ok (.goto 4, 3) := by decide +kernel
theorem dX7_isNext_32 : decode cX7_isNext 32 = .ok (.iconst 0, 1) := by decide +kernel
theorem dX7_isNext_33 : decode cX7_isNext 33 = .ok (.ireturn, 1) := by decide +kernel
set_option maxRecDepth 20000 in
theorem ggX7_takes_X7_isNext : GoodIn wsX7_takes wsX7_isNext := goodIn_r _ [6, 1, 7, 8, 9, 10, 5, 11, 12, 13, 14, 15, 16, 17, 18, 19, 20, 21, 22, 23, 24] (by rfl) (by decide +kernel)
set_option maxRecDepth 20000 in
theorem gX7_takes_X7_isNext : GoodIn wsX7_takes (wsV RX7 138 RX7 yX7_isNext wsX7_isNext) := goodIn_app (goodIn_r _ [2, 3, 4, 5] (by rfl) (by decide +kernel)) ggX7_takes_X7_isNext
theorem dX7_takes_0 : decode cX7_takes 0 = .ok (.aload_n 0, 1) := by decide +kernel
theorem dX7_takes_1 : decode cX7_takes 1 = .ok (.iload_n 1, 1) := by decide +kernel
theorem dX7_takes_2 : decode cX7_takes 2 = .ok (.iload_n 1, 1) := by decide +kernel
theorem dX7_takes_3 : decode cX7_takes 3 = .ok (.invokevirtual 138, 3) := by decide +kernel
theorem dX7_takes_6 : decode cX7_takes 6 = .ok (.istore_n 2, 1) := by decide +kernel
theorem dX7_takes_7 : decode cX7_takes 7 = .ok (.aload_n 0, 1) := by decide +kernel
theorem dX7_takes_8 : decode cX7_takes 8 = .ok (.dup, 1) := by decide +kernel
theorem dX7_takes_9 : decode cX7_takes 9 = .ok (.getfield 135, 3) := by decide +kernel
theorem dX7_takes_12 : decode cX7_takes 12 = .ok (.iload_n 2, 1) := by decide +kernel
theorem dX7_takes_13 : decode cX7_takes 13 = .ok (.ifCond .eq 7, 3) := by decide +kernel
theorem dX7_takes_16 : decode cX7_takes 16 = .ok (.iconst 1, 1) := by decide +kernel
theorem dX7_takes_17 : decode cX7_takes 17 = .ok (.goto 4, 3) := by decide +kernel
theorem dX7_takes_20 : decode cX7_takes 20 = .ok (.iconst 0, 1) := by decide +kernel
theorem dX7_takes_21 : decode cX7_takes 21 = .ok (.iadd, 1) := by decide +kernel
theorem dX7_takes_22 : decode cX7_takes 22 = .ok (.putfield 135, 3) := by decide +kernel
theorem dX7_takes_25 : decode cX7_takes 25 = .ok (.iload_n 2, 1) := by decide +kernel
theorem dX7_takes_26 : decode cX7_takes 26 = .ok (.ireturn, 1) := by decide +kernel
set_option maxRecDepth 20000 in
theorem ggX7_readNumber_X7_isNext : GoodIn wsX7_readNumber wsX7_isNext := goodIn_r _ [7, 2, 8, 1, 9, 10, 6, 11, 12, 13, 14, 15, 16, 17, 18, 19, 20, 21, 22, 23, 24] (by rfl) (by decide +kernel)
set_option maxRecDepth 20000 in
theorem gX7_readNumber_X7_isNext : GoodIn wsX7_readNumber (wsV RX7 138 RX7 yX7_isNext wsX7_isNext) := goodIn_app (goodIn_r _ [3, 4, 5, 6] (by rfl) (by decide +kernel)) ggX7_readNumber_X7_isNext
theorem dX7_readNumber_0 : decode cX7_readNumber 0 = .ok (.aload_n 0, 1) := by decide +kernel
theorem dX7_readNumber_1 : decode cX7_readNumber 1 = .ok (.bipush 48, 2) := by decide +kernel
theorem dX7_readNumber_3 : decode cX7_readNumber 3 = .ok (.iload_n 1, 1) := by decide +kernel
theorem dX7_readNumber_4 : decode cX7_readNumber 4 = .ok (.iadd, 1) := by decide +kernel
theorem dX7_readNumber_5 : decode cX7_readNumber 5 = .ok (.bipush 57, 2) := by decide +kernel
theorem dX7_readNumber_7 : decode cX7_readNumber 7 = .ok (.invokevirtual 138, 3) := by decide +kernel
theorem dX7_readNumber_10 : decode cX7_readNumber 10 = .ok (.ifCond .eq 19, 3) := by decide +kernel
theorem dX7_readNumber_13 : decode cX7_readNumber 13 = .ok (.aload_n 0, 1) := by decide +kernel
theorem dX7_readNumber_14 : decode cX7_readNumber 14 = .ok (.getfield 22, 3) := by decide +kernel
theorem dX7_readNumber_17 : decode cX7_readNumber 17 = .ok (.aload_n 0, 1) := by decide +kernel
theorem dX7_readNumber_18 : decode cX7_readNumber 18 = .ok (.getfield 135, 3) := by decide +kernel
theorem dX7_readNumber_21 : decode cX7_readNumber 21 = .ok (.iaload, 1) := by decide +kernel
theorem dX7_readNumber_22 : decode cX7_readNumber 22 = .ok (.bipush 48, 2) := by decide +kernel
theorem dX7_readNumber_24 : decode cX7_readNumber 24 = .ok (.isub, 1) := by decide +kernel
theorem dX7_readNumber_25 : decode cX7_readNumber 25 = .ok (.iload_n 2, 1) := by decide +kernel
theorem dX7_readNumber_26 : decode cX7_readNumber 26 = .ok (.if_icmp .le 6, 3) := by decide +kernel
theorem dX7_readNumber_29 : decode cX7_readNumber 29 = .ok (.bipush (-5), 2) := by decide +kernel
theorem dX7_readNumber_31 : decode cX7_readNumber 31 = .ok (.ireturn, 1) := by decide +kernel
theorem dX7_readNumber_32 : decode cX7_readNumber 32 = .ok (.aload_n 0, 1) := by decide +kernel
theorem dX7_readNumber_33 : decode cX7_readNumber 33 = .ok (.getfield 22, 3) := by decide +kernel
theorem dX7_readNumber_36 : decode cX7_readNumber 36 = .ok (.aload_n 0, 1) := by decide +kernel
theorem dX7_readNumber_37 : decode cX7_readNumber 37 = .ok (.getfield 135, 3) := by decide +kernel
theorem dX7_readNumber_40 : decode cX7_readNumber 40 = .ok (.iaload, 1) := by decide +kernel
theorem dX7_readNumber_41 : decode cX7_readNumber 41 = .ok (.bipush 48, 2) := by decide +kernel
theorem dX7_readNumber_43 : decode cX7_readNumber 43 = .ok (.isub, 1) := by decide +kernel
theorem dX7_readNumber_44 : decode cX7_readNumber 44 = .ok (.istore_n 3, 1) := by decide +kernel
theorem dX7_readNumber_45 : decode cX7_readNumber 45 = .ok (.aload_n 0, 1) := by decide +kernel
theorem dX7_readNumber_46 : decode cX7_readNumber 46 = .ok (.dup, 1) := by decide +kernel
theorem dX7_readNumber_47 : decode cX7_readNumber 47 = .ok (.getfield 135, 3) := by decide +kernel
theorem dX7_readNumber_50 : decode cX7_readNumber 50 = .ok (.iconst 1, 1) := by decide +kernel
theorem dX7_readNumber_51 : decode cX7_readNumber 51 = .ok (.iadd, 1) := by decide +kernel
theorem dX7_readNumber_52 : decode cX7_readNumber 52 = .ok (.putfield 135, 3) := by decide +kernel
theorem dX7_readNumber_55 : decode cX7_readNumber 55 = .ok (.iload_n 3, 1) := by decide +kernel
theorem dX7_readNumber_56 : decode cX7_readNumber 56 = .ok (.ifCond .le 66, 3) := by decide +kernel
theorem dX7_readNumber_59 : decode cX7_readNumber 59 = .ok (.aload_n 0, 1) := by decide +kernel
theorem dX7_readNumber_60 : decode cX7_readNumber 60 = .ok (.bipush 48, 2) := by decide +kernel
theorem dX7_readNumber_62 : decode cX7_readNumber 62 = .ok (.bipush 57, 2) := by decide +kernel
theorem dX7_readNumber_64 : decode cX7_readNumber 64 = .ok (.invokevirtual 138, 3) := by decide +kernel
theorem dX7_readNumber_67 : decode cX7_readNumber 67 = .ok (.ifCond .eq 55, 3) := by decide +kernel
theorem dX7_readNumber_70 : decode cX7_readNumber 70 = .ok (.bipush 10, 2) := by decide +kernel
theorem dX7_readNumber_72 : decode cX7_readNumber 72 = .ok (.iload_n 3, 1) := by decide +kernel
theorem dX7_readNumber_73 : decode cX7_readNumber 73 = .ok (.imul, 1) := by decide +kernel
theorem dX7_readNumber_74 : decode cX7_readNumber 74 = .ok (.aload_n 0, 1) := by decide +kernel
theorem dX7_readNumber_75 : decode cX7_readNumber 75 = .ok (.getfield 22, 3) := by decide +kernel
theorem dX7_readNumber_78 : decode cX7_readNumber 78 = .ok (.aload_n 0, 1) := by decide +kernel
theorem dX7_readNumber_79 : decode cX7_readNumber 79 = .ok (.getfield 135, 3) := by decide +kernel
theorem dX7_readNumber_82 : decode cX7_readNumber 82 = .ok (.iaload, 1) := by decide +kernel
theorem dX7_readNumber_83 : decode cX7_readNumber 83 = .ok (.iadd, 1) := by decide +kernel
theorem dX7_readNumber_84 : decode cX7_readNumber 84 = .ok (.bipush 48, 2) := by decide +kernel
theorem dX7_readNumber_86 : decode cX7_readNumber 86 = .ok (.isub, 1) := by decide +kernel
theorem dX7_readNumber_87 : decode cX7_readNumber 87 = .ok (.iload_n 2, 1) := by decide +kernel
theorem dX7_readNumber_88 : decode cX7_readNumber 88 = .ok (.if_icmp .gt 34, 3) := by decide +kernel
theorem dX7_readNumber_91 : decode cX7_readNumber 91 = .ok (.bipush 10, 2) := by decide +kernel
theorem dX7_readNumber_93 : decode cX7_readNumber 93 = .ok (.iload_n 3, 1) := by decide +kernel
theorem dX7_readNumber_94 : decode cX7_readNumber 94 = .ok (.imul, 1) := by decide +kernel
theorem dX7_readNumber_95 : decode cX7_readNumber 95 = .ok (.aload_n 0, 1) := by decide +kernel
theorem dX7_readNumber_96 : decode cX7_readNumber 96 = .ok (.getfield 22, 3) := by decide +kernel
theorem dX7_readNumber_99 : decode cX7_readNumber 99 = .ok (.aload_n 0, 1) := by decide +kernel
theorem dX7_readNumber_100 : decode cX7_readNumber 100 = .ok (.getfield 135, 3) := by decide +kernel
theorem dX7_readNumber_103 : decode cX7_readNumber 103 = .ok (.iaload, 1) := by decide +kernel
theorem dX7_readNumber_104 : decode cX7_readNumber 104 = .ok (.iadd, 1) := by decide +kernel
theorem dX7_readNumber_105 : decode cX7_readNumber 105 = .ok (.bipush 48, 2) := by decide +kernel
theorem dX7_readNumber_107 : decode cX7_readNumber 107 = .ok (.isub, 1) := by decide +kernel
theorem dX7_readNumber_108 : decode cX7_readNumber 108 = .ok (.istore_n 3, 1) := by decide +kernel
theorem dX7_readNumber_109 : decode cX7_readNumber 109 = .ok (.aload_n 0, 1) := by decide +kernel
theorem dX7_readNumber_110 : decode cX7_readNumber 110 = .ok (.dup, 1) := by decide +kernel
theorem dX7_readNumber_111 : decode cX7_readNumber 111 = .ok (.getfield 135, 3) := by decide +kernel
theorem dX7_readNumber_114 : decode cX7_readNumber 114 = .ok (.iconst 1, 1) := by decide +kernel
theorem dX7_readNumber_115 : decode cX7_readNumber 115 = .ok (.iadd, 1) := by decide +kernel
theorem dX7_readNumber_116 : decode cX7_readNumber 116 = .ok (.putfield 135, 3) := by decide +kernel
theorem dX7_readNumber_119 : decode cX7_readNumber 119 = .ok (.goto (-64), 3) := by decide +kernel
theorem dX7_readNumber_122 : decode cX7_readNumber 122 = .ok (.iload_n 3, 1) := by decide +kernel
theorem dX7_readNumber_123 : decode cX7_readNumber 123 = .ok (.ireturn, 1) := by decide +kernel
set_option maxRecDepth 20000 in
theorem ggX7_readOrder_X7_readNumber : GoodIn wsX7_readOrder wsX7_readNumber := goodIn_r _ [11, 3, 1, 12, 13, 14, 10, 15, 2, 16, 17, 18, 23, 24, 25, 26, 27, 28, 29, 30, 31, 32, 33, 34, 35] (by rfl) (by decide +kernel)
set_option maxRecDepth 20000 in
theorem gX7_readOrder_X7_readNumber : GoodIn wsX7_readOrder (wsV RX7 144 RX7 yX7_readNumber wsX7_readNumber) := goodIn_app (goodIn_r _ [7, 8, 9, 10] (by rfl) (by decide +kernel)) ggX7_readOrder_X7_readNumber
set_option maxRecDepth 20000 in
theorem ggX7_readOrder_X7_takes : GoodIn wsX7_readOrder wsX7_takes := goodIn_r _ [22, 1, 12, 13, 14, 10, 15, 2, 3, 16, 17, 18, 23, 24, 25, 26, 27, 28, 29, 30, 31, 32, 33, 34, 35] (by rfl) (by decide +kernel)
set_option maxRecDepth 20000 in
theorem gX7_readOrder_X7_takes : GoodIn wsX7_readOrder (wsV RX7 150 RX7 yX7_takes wsX7_takes) := goodIn_app (goodIn_r _ [19, 20, 21, 10] (by rfl) (by decide +kernel)) ggX7_readOrder_X7_takes
set_option maxRecDepth 20000 in
theorem ggX7_readOrder_X7_isNext : GoodIn wsX7_readOrder wsX7_isNext := goodIn_r _ [15, 1, 2, 3, 16, 17, 10, 18, 23, 24, 25, 26, 27, 28, 29, 30, 31, 32, 33, 34, 35] (by rfl) (by decide +kernel)
set_option maxRecDepth 20000 in
theorem gX7_readOrder_X7_isNext : GoodIn wsX7_readOrder (wsV RX7 138 RX7 yX7_isNext wsX7_isNext) := goodIn_app (goodIn_r _ [12, 13, 14, 10] (by rfl) (by decide +kernel)) ggX7_readOrder_X7_isNext
theorem dX7_readOrder_0 : decode cX7_readOrder 0 = .ok (.aload_n 0, 1) := by decide +kernel
theorem dX7_readOrder_1 : decode cX7_readOrder 1 = .ok (.aload_n 0, 1) := by decide +kernel
theorem dX7_readOrder_2 : decode cX7_readOrder 2 = .ok (.getfield 135, 3) := by decide +kernel
theorem dX7_readOrder_5 : decode cX7_readOrder 5 = .ok (.aload_n 0, 1) := by decide +kernel
theorem dX7_readOrder_6 : decode cX7_readOrder 6 = .ok (.getfield 132, 3) := by decide +kernel
theorem dX7_readOrder_9 : decode cX7_readOrder 9 = .ok (.if_icmp .ge 15, 3) := by decide +kernel
theorem dX7_readOrder_12 : decode cX7_readOrder 12 = .ok (.aload_n 0, 1) := by decide +kernel
theorem dX7_readOrder_13 : decode cX7_readOrder 13 = .ok (.getfield 22, 3) := by decide +kernel
theorem dX7_readOrder_16 : decode cX7_readOrder 16 = .ok (.aload_n 0, 1) := by decide +kernel
theorem dX7_readOrder_17 : decode cX7_readOrder 17 = .ok (.getfield 135, 3) := by decide +kernel
theorem dX7_readOrder_20 : decode cX7_readOrder 20 = .ok (.iaload, 1) := by decide +kernel
theorem dX7_readOrder_21 : decode cX7_readOrder 21 = .ok (.goto 4, 3) := by decide +kernel
theorem dX7_readOrder_24 : decode cX7_readOrder 24 = .ok (.iconst 0, 1) := by decide +kernel
theorem dX7_readOrder_25 : decode cX7_readOrder 25 = .ok (.putfield 141, 3) := by decide +kernel
theorem dX7_readOrder_28 : decode cX7_readOrder 28 = .ok (.aload_n 0, 1) := by decide +kernel
theorem dX7_readOrder_29 : decode cX7_readOrder 29 = .ok (.dup, 1) := by decide +kernel
theorem dX7_readOrder_30 : decode cX7_readOrder 30 = .ok (.getfield 135, 3) := by decide +kernel
theorem dX7_readOrder_33 : decode cX7_readOrder 33 = .ok (.iconst 1, 1) := by decide +kernel
theorem dX7_readOrder_34 : decode cX7_readOrder 34 = .ok (.iadd, 1) := by decide +kernel
theorem dX7_readOrder_35 : decode cX7_readOrder 35 = .ok (.putfield 135, 3) := by decide +kernel
theorem dX7_readOrder_38 : decode cX7_readOrder 38 = .ok (.aload_n 0, 1) := by decide +kernel
theorem dX7_readOrder_39 : decode cX7_readOrder 39 = .ok (.getfield 141, 3) := by decide +kernel
theorem dX7_readOrder_42 : decode cX7_readOrder 42 = .ok (.tableswitch 267 98 117 #[177, 267, 267, 151, 267, 265, 267, 267, 267, 267, 265, 267, 267, 267, 94, 267, 267, 265, 224, 265], 94) := by decide +kernel
theorem dX7_readOrder_136 : decode cX7_readOrder 136 = .ok (.aload_n 0, 1) := by decide +kernel
theorem dX7_readOrder_137 : decode cX7_readOrder 137 = .ok (.aload_n 0, 1) := by decide +kernel
theorem dX7_readOrder_138 : decode cX7_readOrder 138 = .ok (.iconst 0, 1) := by decide +kernel
theorem dX7_readOrder_139 : decode cX7_readOrder 139 = .ok (.bipush 31, 2) := by decide +kernel
theorem dX7_readOrder_141 : decode cX7_readOrder 141 = .ok (.invokevirtual 144, 3) := by decide +kernel
theorem dX7_readOrder_144 : decode cX7_readOrder 144 = .ok (.putfield 147, 3) := by decide +kernel
theorem dX7_readOrder_147 : decode cX7_readOrder 147 = .ok (.aload_n 0, 1) := by decide +kernel
theorem dX7_readOrder_148 : decode cX7_readOrder 148 = .ok (.getfield 147, 3) := by decide +kernel
theorem dX7_readOrder_151 : decode cX7_readOrder 151 = .ok (.bipush (-5), 2) := by decide +kernel
theorem dX7_readOrder_153 : decode cX7_readOrder 153 = .ok (.if_icmp .eq 12, 3) := by decide +kernel
theorem dX7_readOrder_156 : decode cX7_readOrder 156 = .ok (.aload_n 0, 1) := by decide +kernel
theorem dX7_readOrder_157 : decode cX7_readOrder 157 = .ok (.bipush 61, 2) := by decide +kernel
theorem dX7_readOrder_159 : decode cX7_readOrder 159 = .ok (.invokevirtual 150, 3) := by decide +kernel
theorem dX7_readOrder_162 : decode cX7_readOrder 162 = .ok (.ifCond .ne 5, 3) := by decide +kernel
theorem dX7_readOrder_165 : decode cX7_readOrder 165 = .ok (.iconst 0, 1) := by decide +kernel
theorem dX7_readOrder_166 : decode cX7_readOrder 166 = .ok (.ireturn, 1) := by decide +kernel
theorem dX7_readOrder_167 : decode cX7_readOrder 167 = .ok (.aload_n 0, 1) := by decide +kernel
theorem dX7_readOrder_168 : decode cX7_readOrder 168 = .ok (.aload_n 0, 1) := by decide +kernel
theorem dX7_readOrder_169 : decode cX7_readOrder 169 = .ok (.iconst 0, 1) := by decide +kernel
theorem dX7_readOrder_170 : decode cX7_readOrder 170 = .ok (.bipush 99, 2) := by decide +kernel
theorem dX7_readOrder_172 : decode cX7_readOrder 172 = .ok (.invokevirtual 144, 3) := by decide +kernel
theorem dX7_readOrder_175 : decode cX7_readOrder 175 = .ok (.putfield 153, 3) := by decide +kernel
theorem dX7_readOrder_178 : decode cX7_readOrder 178 = .ok (.aload_n 0, 1) := by decide +kernel
theorem dX7_readOrder_179 : decode cX7_readOrder 179 = .ok (.getfield 153, 3) := by decide +kernel
theorem dX7_readOrder_182 : decode cX7_readOrder 182 = .ok (.bipush (-5), 2) := by decide +kernel
theorem dX7_readOrder_184 : decode cX7_readOrder 184 = .ok (.if_icmp .eq 7, 3) := by decide +kernel
theorem dX7_readOrder_187 : decode cX7_readOrder 187 = .ok (.iconst 1, 1) := by decide +kernel
theorem dX7_readOrder_188 : decode cX7_readOrder 188 = .ok (.goto 4, 3) := by decide +kernel
theorem dX7_readOrder_191 : decode cX7_readOrder 191 = .ok (.iconst 0, 1) := by decide +kernel
theorem dX7_readOrder_192 : decode cX7_readOrder 192 = .ok (.ireturn, 1) := by decide +kernel
theorem dX7_readOrder_193 : decode cX7_readOrder 193 = .ok (.aload_n 0, 1) := by decide +kernel
theorem dX7_readOrder_194 : decode cX7_readOrder 194 = .ok (.aload_n 0, 1) := by decide +kernel
theorem dX7_readOrder_195 : decode cX7_readOrder 195 = .ok (.iconst 0, 1) := by decide +kernel
theorem dX7_readOrder_196 : decode cX7_readOrder 196 = .ok (.bipush 31, 2) := by decide +kernel
theorem dX7_readOrder_198 : decode cX7_readOrder 198 = .ok (.invokevirtual 144, 3) := by decide +kernel
theorem dX7_readOrder_201 : decode cX7_readOrder 201 = .ok (.putfield 147, 3) := by decide +kernel
theorem dX7_readOrder_204 : decode cX7_readOrder 204 = .ok (.aload_n 0, 1) := by decide +kernel
theorem dX7_readOrder_205 : decode cX7_readOrder 205 = .ok (.getfield 147, 3) := by decide +kernel
theorem dX7_readOrder_208 : decode cX7_readOrder 208 = .ok (.bipush (-5), 2) := by decide +kernel
theorem dX7_readOrder_210 : decode cX7_readOrder 210 = .ok (.if_icmp .eq 7, 3) := by decide +kernel
theorem dX7_readOrder_213 : decode cX7_readOrder 213 = .ok (.iconst 1, 1) := by decide +kernel
theorem dX7_readOrder_214 : decode cX7_readOrder 214 = .ok (.goto 4, 3) := by decide +kernel
theorem dX7_readOrder_217 : decode cX7_readOrder 217 = .ok (.iconst 0, 1) := by decide +kernel
theorem dX7_readOrder_218 : decode cX7_readOrder 218 = .ok (.ireturn, 1) := by decide +kernel
theorem dX7_readOrder_219 : decode cX7_readOrder 219 = .ok (.aload_n 0, 1) := by decide +kernel
theorem dX7_readOrder_220 : decode cX7_readOrder 220 = .ok (.aload_n 0, 1) := by decide +kernel
theorem dX7_readOrder_221 : decode cX7_readOrder 221 = .ok (.iconst 0, 1) := by decide +kernel
theorem dX7_readOrder_222 : decode cX7_readOrder 222 = .ok (.iconst 4, 1) := by decide +kernel
theorem dX7_readOrder_223 : decode cX7_readOrder 223 = .ok (.invokevirtual 144, 3) := by decide +kernel
theorem dX7_readOrder_226 : decode cX7_readOrder 226 = .ok (.putfield 147, 3) := by decide +kernel
theorem dX7_readOrder_229 : decode cX7_readOrder 229 = .ok (.aload_n 0, 1) := by decide +kernel
theorem dX7_readOrder_230 : decode cX7_readOrder 230 = .ok (.getfield 147, 3) := by decide +kernel
theorem dX7_readOrder_233 : decode cX7_readOrder 233 = .ok (.bipush (-5), 2) := by decide +kernel
theorem dX7_readOrder_235 : decode cX7_readOrder 235 = .ok (.if_icmp .ne 5, 3) := by decide +kernel
theorem dX7_readOrder_238 : decode cX7_readOrder 238 = .ok (.iconst 0, 1) := by decide +kernel
theorem dX7_readOrder_239 : decode cX7_readOrder 239 = .ok (.ireturn, 1) := by decide +kernel
theorem dX7_readOrder_240 : decode cX7_readOrder 240 = .ok (.aload_n 0, 1) := by decide +kernel
theorem dX7_readOrder_241 : decode cX7_readOrder 241 = .ok (.aload_n 0, 1) := by decide +kernel
theorem dX7_readOrder_242 : decode cX7_readOrder 242 = .ok (.iconst 1, 1) := by decide +kernel
theorem dX7_readOrder_243 : decode cX7_readOrder 243 = .ok (.bipush 8, 2) := by decide +kernel
theorem dX7_readOrder_245 : decode cX7_readOrder 245 = .ok (.invokevirtual 144, 3) := by decide +kernel
theorem dX7_readOrder_248 : decode cX7_readOrder 248 = .ok (.putfield 153, 3) := by decide +kernel
theorem dX7_readOrder_251 : decode cX7_readOrder 251 = .ok (.aload_n 0, 1) := by decide +kernel
theorem dX7_readOrder_252 : decode cX7_readOrder 252 = .ok (.getfield 153, 3) := by decide +kernel
theorem dX7_readOrder_255 : decode cX7_readOrder 255 = .ok (.bipush (-5), 2) := by decide +kernel
theorem dX7_readOrder_257 : decode cX7_readOrder 257 = .ok (.if_icmp .eq 7, 3) := by decide +kernel
theorem dX7_readOrder_260 : decode cX7_readOrder 260 = .ok (.iconst 1, 1) := by decide +kernel
theorem dX7_readOrder_261 : decode cX7_readOrder 261 = .ok (.goto 4, 3) := by decide +kernel
theorem dX7_readOrder_264 : decode cX7_readOrder 264 = .ok (.iconst 0, 1) := by decide +kernel
theorem dX7_readOrder_265 : decode cX7_readOrder 265 = .ok (.ireturn, 1) := by decide +kernel
theorem dX7_readOrder_266 : decode cX7_readOrder 266 = .ok (.aload_n 0, 1) := by decide +kernel
theorem dX7_readOrder_267 : decode cX7_readOrder 267 = .ok (.aload_n 0, 1) := by decide +kernel
theorem dX7_readOrder_268 : decode cX7_readOrder 268 = .ok (.bipush 48, 2) := by decide +kernel
theorem dX7_readOrder_270 : decode cX7_readOrder 270 = .ok (.bipush 57, 2) := by decide +kernel
theorem dX7_readOrder_272 : decode cX7_readOrder 272 = .ok (.invokevirtual 138, 3) := by decide +kernel
theorem dX7_readOrder_275 : decode cX7_readOrder 275 = .ok (.ifCond .eq 13, 3) := by decide +kernel
theorem dX7_readOrder_278 : decode cX7_readOrder 278 = .ok (.aload_n 0, 1) := by decide +kernel
theorem dX7_readOrder_279 : decode cX7_readOrder 279 = .ok (.iconst 1, 1) := by decide +kernel
theorem dX7_readOrder_280 : decode cX7_readOrder 280 = .ok (.bipush 99, 2) := by decide +kernel
theorem dX7_readOrder_282 : decode cX7_readOrder 282 = .ok (.invokevirtual 144, 3) := by decide +kernel
theorem dX7_readOrder_285 : decode cX7_readOrder 285 = .ok (.goto 4, 3) := by decide +kernel
theorem dX7_readOrder_288 : decode cX7_readOrder 288 = .ok (.iconst 1, 1) := by decide +kernel
theorem dX7_readOrder_289 : decode cX7_readOrder 289 = .ok (.putfield 147, 3) := by decide +kernel
theorem dX7_readOrder_292 : decode cX7_readOrder 292 = .ok (.aload_n 0, 1) := by decide +kernel
theorem dX7_readOrder_293 : decode cX7_readOrder 293 = .ok (.getfield 147, 3) := by decide +kernel
theorem dX7_readOrder_296 : decode cX7_readOrder 296 = .ok (.bipush (-5), 2) := by decide +kernel
theorem dX7_readOrder_298 : decode cX7_readOrder 298 = .ok (.if_icmp .eq 7, 3) := by decide +kernel
theorem dX7_readOrder_301 : decode cX7_readOrder 301 = .ok (.iconst 1, 1) := by decide +kernel
theorem dX7_readOrder_302 : decode cX7_readOrder 302 = .ok (.goto 4, 3) := by decide +kernel
theorem dX7_readOrder_305 : decode cX7_readOrder 305 = .ok (.iconst 0, 1) := by decide +kernel
theorem dX7_readOrder_306 : decode cX7_readOrder 306 = .ok (.ireturn, 1) := by decide +kernel
theorem dX7_readOrder_307 : decode cX7_readOrder 307 = .ok (.iconst 1, 1) := by decide +kernel
theorem dX7_readOrder_308 : decode cX7_readOrder 308 = .ok (.ireturn, 1) := by decide +kernel
theorem dX7_readOrder_309 : decode cX7_readOrder 309 = .ok (.aload_n 0, 1) := by decide +kernel
theorem dX7_readOrder_310 : decode cX7_readOrder 310 = .ok (.dup, 1) := by decide +kernel
theorem dX7_readOrder_311 : decode cX7_readOrder 311 = .ok (.getfield 135, 3) := by decide +kernel
theorem dX7_readOrder_314 : decode cX7_readOrder 314 = .ok (.iconst 1, 1) := by decide +kernel
theorem dX7_readOrder_315 : decode cX7_readOrder 315 = .ok (.isub, 1) := by decide +kernel
theorem dX7_readOrder_316 : decode cX7_readOrder 316 = .ok (.putfield 135, 3) := by decide +kernel
theorem dX7_readOrder_319 : decode cX7_readOrder 319 = .ok (.iconst 0, 1) := by decide +kernel
theorem dX7_readOrder_320 : decode cX7_readOrder 320 = .ok (.ireturn, 1) := by decide +kernel
set_option maxRecDepth 20000 in
theorem ggX7_errorOfOrder_X7_putError : GoodIn wsX7_errorOfOrder wsX7_putError := goodIn_r _ [8, 9, 10, 7, 11, 12, 13, 14, 15, 16, 17, 18, 19, 20, 21, 22, 23, 24, 25, 26, 27, 48, 49, 50, 51, 52, 53, 54, 55, 56, 57, 58, 59, 60] (by rfl) (by decide +kernel)
set_option maxRecDepth 20000 in
theorem gX7_errorOfOrder_X7_putError : GoodIn wsX7_errorOfOrder (wsV RX7 89 RX7 yX7_putError wsX7_putError) := goodIn_app (goodIn_r _ [4, 5, 6, 7] (by rfl) (by decide +kernel)) ggX7_errorOfOrder_X7_putError
set_option maxRecDepth 20000 in
theorem ggX7_errorOfOrder_X7_eraseError : GoodIn wsX7_errorOfOrder wsX7_eraseError := goodIn_r _ [31, 19, 9, 10, 7, 11, 12, 13, 14, 32, 33, 34, 35, 15, 16, 17, 18, 20, 21, 22, 23, 24, 25, 26, 27, 48, 49, 50, 51, 52, 53, 54, 55, 56, 57, 58, 59, 60] (by rfl) (by decide +kernel)
set_option maxRecDepth 20000 in
theorem gX7_errorOfOrder_X7_eraseError : GoodIn wsX7_errorOfOrder (wsV RX7 95 RX7 yX7_eraseError wsX7_eraseError) := goodIn_app (goodIn_r _ [28, 29, 30, 7] (by rfl) (by decide +kernel)) ggX7_errorOfOrder_X7_eraseError
set_option maxRecDepth 20000 in
theorem ggX7_errorOfOrder_X7_beginError : GoodIn wsX7_errorOfOrder wsX7_beginError := goodIn_r _ [39, 12, 13, 7, 14, 24, 25, 26, 27, 19, 48, 49, 50, 51, 52, 53, 54, 55, 56, 57, 58, 59, 60] (by rfl) (by decide +kernel)
set_option maxRecDepth 20000 in
theorem gX7_errorOfOrder_X7_beginError : GoodIn wsX7_errorOfOrder (wsV RX7 101 RX7 yX7_beginError wsX7_beginError) := goodIn_app (goodIn_r _ [36, 37, 38, 7] (by rfl) (by decide +kernel)) ggX7_errorOfOrder_X7_beginError
set_option maxRecDepth 20000 in
theorem ggX7_errorOfOrder_X7_phaseError : GoodIn wsX7_errorOfOrder wsX7_phaseError := goodIn_r _ [43, 19, 48, 49, 50, 51, 52, 53, 54, 55, 56, 57, 58, 59, 60] (by rfl) (by decide +kernel)
set_option maxRecDepth 20000 in
theorem gX7_errorOfOrder_X7_phaseError : GoodIn wsX7_errorOfOrder (wsV RX7 110 RX7 yX7_phaseError wsX7_phaseError) := goodIn_app (goodIn_r _ [40, 41, 42, 7] (by rfl) (by decide +kernel)) ggX7_errorOfOrder_X7_phaseError
set_option maxRecDepth 20000 in
theorem ggX7_errorOfOrder_X7_swapError : GoodIn wsX7_errorOfOrder wsX7_swapError := goodIn_r _ [47, 19, 48, 49, 50, 51, 52, 53, 54, 55, 56, 57, 58, 59, 60] (by rfl) (by decide +kernel)
set_option maxRecDepth 20000 in
theorem gX7_errorOfOrder_X7_swapError : GoodIn wsX7_errorOfOrder (wsV RX7 119 RX7 yX7_swapError wsX7_swapError) := goodIn_app (goodIn_r _ [44, 45, 46, 7] (by rfl) (by decide +kernel)) ggX7_errorOfOrder_X7_swapError
set_option maxRecDepth 20000 in
theorem ggX7_errorOfOrder_X7_isCopy : GoodIn wsX7_errorOfOrder wsX7_isCopy := goodIn_r _ [27, 19, 48, 49, 50, 51, 52, 53, 54, 55, 56, 57, 58, 59, 60] (by rfl) (by decide +kernel)
set_option maxRecDepth 20000 in
theorem gX7_errorOfOrder_X7_isCopy : GoodIn wsX7_errorOfOrder (wsV RX7 33 RX7 yX7_isCopy wsX7_isCopy) := goodIn_app (goodIn_r _ [24, 25, 26, 7] (by rfl) (by decide +kernel)) ggX7_errorOfOrder_X7_isCopy
theorem dX7_errorOfOrder_0 : decode cX7_errorOfOrder 0 = .ok (.aload_n 0, 1) := by decide +kernel
theorem dX7_errorOfOrder_1 : decode cX7_errorOfOrder 1 = .ok (.getfield 141, 3) := by decide +kernel
theorem dX7_errorOfOrder_4 : decode cX7_errorOfOrder 4 = .ok (.tableswitch 162 98 117 #[118, 162, 162, 109, 162, 148, 162, 162, 162, 162, 131, 162, 162, 162, 96, 162, 162, 143, 162, 137], 96) := by decide +kernel
theorem dX7_errorOfOrder_100 : decode cX7_errorOfOrder 100 = .ok (.aload_n 0, 1) := by decide +kernel
theorem dX7_errorOfOrder_101 : decode cX7_errorOfOrder 101 = .ok (.aload_n 0, 1) := by decide +kernel
theorem dX7_errorOfOrder_102 : decode cX7_errorOfOrder 102 = .ok (.getfield 147, 3) := by decide +kernel
theorem dX7_errorOfOrder_105 : decode cX7_errorOfOrder 105 = .ok (.aload_n 0, 1) := by decide +kernel
theorem dX7_errorOfOrder_106 : decode cX7_errorOfOrder 106 = .ok (.getfield 153, 3) := by decide +kernel
theorem dX7_errorOfOrder_109 : decode cX7_errorOfOrder 109 = .ok (.invokevirtual 89, 3) := by decide +kernel
theorem dX7_errorOfOrder_112 : decode cX7_errorOfOrder 112 = .ok (.ireturn, 1) := by decide +kernel
theorem dX7_errorOfOrder_113 : decode cX7_errorOfOrder 113 = .ok (.aload_n 0, 1) := by decide +kernel
theorem dX7_errorOfOrder_114 : decode cX7_errorOfOrder 114 = .ok (.aload_n 0, 1) := by decide +kernel
theorem dX7_errorOfOrder_115 : decode cX7_errorOfOrder 115 = .ok (.getfield 147, 3) := by decide +kernel
theorem dX7_errorOfOrder_118 : decode cX7_errorOfOrder 118 = .ok (.invokevirtual 95, 3) := by decide +kernel
theorem dX7_errorOfOrder_121 : decode cX7_errorOfOrder 121 = .ok (.ireturn, 1) := by decide +kernel
theorem dX7_errorOfOrder_122 : decode cX7_errorOfOrder 122 = .ok (.aload_n 0, 1) := by decide +kernel
theorem dX7_errorOfOrder_123 : decode cX7_errorOfOrder 123 = .ok (.aload_n 0, 1) := by decide +kernel
theorem dX7_errorOfOrder_124 : decode cX7_errorOfOrder 124 = .ok (.getfield 147, 3) := by decide +kernel
theorem dX7_errorOfOrder_127 : decode cX7_errorOfOrder 127 = .ok (.aload_n 0, 1) := by decide +kernel
theorem dX7_errorOfOrder_128 : decode cX7_errorOfOrder 128 = .ok (.getfield 153, 3) := by decide +kernel
theorem dX7_errorOfOrder_131 : decode cX7_errorOfOrder 131 = .ok (.invokevirtual 101, 3) := by decide +kernel
theorem dX7_errorOfOrder_134 : decode cX7_errorOfOrder 134 = .ok (.ireturn, 1) := by decide +kernel
theorem dX7_errorOfOrder_135 : decode cX7_errorOfOrder 135 = .ok (.aload_n 0, 1) := by decide +kernel
theorem dX7_errorOfOrder_136 : decode cX7_errorOfOrder 136 = .ok (.iconst 2, 1) := by decide +kernel
theorem dX7_errorOfOrder_137 : decode cX7_errorOfOrder 137 = .ok (.invokevirtual 110, 3) := by decide +kernel
theorem dX7_errorOfOrder_140 : decode cX7_errorOfOrder 140 = .ok (.ireturn, 1) := by decide +kernel
theorem dX7_errorOfOrder_141 : decode cX7_errorOfOrder 141 = .ok (.aload_n 0, 1) := by decide +kernel
theorem dX7_errorOfOrder_142 : decode cX7_errorOfOrder 142 = .ok (.iconst 3, 1) := by decide +kernel
theorem dX7_errorOfOrder_143 : decode cX7_errorOfOrder 143 = .ok (.invokevirtual 110, 3) := by decide +kernel
theorem dX7_errorOfOrder_146 : decode cX7_errorOfOrder 146 = .ok (.ireturn, 1) := by decide +kernel
theorem dX7_errorOfOrder_147 : decode cX7_errorOfOrder 147 = .ok (.aload_n 0, 1) := by decide +kernel
theorem dX7_errorOfOrder_148 : decode cX7_errorOfOrder 148 = .ok (.invokevirtual 119, 3) := by decide +kernel
theorem dX7_errorOfOrder_151 : decode cX7_errorOfOrder 151 = .ok (.ireturn, 1) := by decide +kernel
theorem dX7_errorOfOrder_152 : decode cX7_errorOfOrder 152 = .ok (.aload_n 0, 1) := by decide +kernel
theorem dX7_errorOfOrder_153 : decode cX7_errorOfOrder 153 = .ok (.invokevirtual 33, 3) := by decide +kernel
theorem dX7_errorOfOrder_156 : decode cX7_errorOfOrder 156 = .ok (.ifCond .eq 7, 3) := by decide +kernel
theorem dX7_errorOfOrder_159 : decode cX7_errorOfOrder 159 = .ok (.iconst 0, 1) := by decide +kernel
theorem dX7_errorOfOrder_160 : decode cX7_errorOfOrder 160 = .ok (.goto 5, 3) := by decide +kernel
theorem dX7_errorOfOrder_163 : decode cX7_errorOfOrder 163 = .ok (.bipush (-4), 2) := by decide +kernel
theorem dX7_errorOfOrder_165 : decode cX7_errorOfOrder 165 = .ok (.ireturn, 1) := by decide +kernel
theorem dX7_errorOfOrder_166 : decode cX7_errorOfOrder 166 = .ok (.iconst 0, 1) := by decide +kernel
theorem dX7_errorOfOrder_167 : decode cX7_errorOfOrder 167 = .ok (.ireturn, 1) := by decide +kernel
set_option maxRecDepth 20000 in
theorem ggX7_carryOut_X7_doChange : GoodIn wsX7_carryOut wsX7_doChange := goodIn_r _ [8, 9, 10, 11, 12, 7, 13, 14, 15, 16, 17, 18, 19, 20, 21, 22, 23, 24, 25, 26, 27, 28, 29, 30, 31, 32, 84, 85, 86, 87, 88, 89, 90, 91, 92, 93, 94, 95, 96] (by rfl) (by decide +kernel)
set_option maxRecDepth 20000 in
theorem gX7_carryOut_X7_doChange : GoodIn wsX7_carryOut (wsV RX7 80 RX7 yX7_doChange wsX7_doChange) := goodIn_app (goodIn_r _ [4, 5, 6, 7] (by rfl) (by decide +kernel)) ggX7_carryOut_X7_doChange
set_option maxRecDepth 20000 in
theorem ggX7_carryOut_X7_doErase : GoodIn wsX7_carryOut wsX7_doErase := goodIn_r _ [36, 10, 11, 12, 7, 13, 9, 4, 5, 6, 8, 14, 15, 16, 17, 18, 19, 20, 21, 22, 23, 24, 25, 26, 27, 28, 29, 30, 31, 32, 84, 85, 86, 87, 88, 89, 90, 91, 92, 93, 94, 95, 96] (by rfl) (by decide +kernel)
set_option maxRecDepth 20000 in
theorem gX7_carryOut_X7_doErase : GoodIn wsX7_carryOut (wsV RX7 98 RX7 yX7_doErase wsX7_doErase) := goodIn_app (goodIn_r _ [33, 34, 35, 7] (by rfl) (by decide +kernel)) ggX7_carryOut_X7_doErase
set_option maxRecDepth 20000 in
theorem ggX7_carryOut_X7_doBegin : GoodIn wsX7_carryOut wsX7_doBegin := goodIn_r _ [40, 9, 26, 27, 28, 7, 29, 41, 42, 43, 44, 10, 11, 12, 13, 84, 85, 86, 87, 88, 89, 90, 91, 92, 93, 94, 95, 96] (by rfl) (by decide +kernel)
set_option maxRecDepth 20000 in
theorem gX7_carryOut_X7_doBegin : GoodIn wsX7_carryOut (wsV RX7 104 RX7 yX7_doBegin wsX7_doBegin) := goodIn_app (goodIn_r _ [37, 38, 39, 7] (by rfl) (by decide +kernel)) ggX7_carryOut_X7_doBegin
set_option maxRecDepth 20000 in
theorem ggX7_carryOut_X7_doLock : GoodIn wsX7_carryOut wsX7_doLock := goodIn_r _ [48, 9, 84, 85, 86, 87, 88, 89, 90, 91, 92, 93, 94, 95, 96] (by rfl) (by decide +kernel)
set_option maxRecDepth 20000 in
theorem gX7_carryOut_X7_doLock : GoodIn wsX7_carryOut (wsV RX7 113 RX7 yX7_doLock wsX7_doLock) := goodIn_app (goodIn_r _ [45, 46, 47, 7] (by rfl) (by decide +kernel)) ggX7_carryOut_X7_doLock
set_option maxRecDepth 20000 in
theorem ggX7_carryOut_X7_doUnlock : GoodIn wsX7_carryOut wsX7_doUnlock := goodIn_r _ [52, 9, 84, 85, 86, 87, 88, 89, 90, 91, 92, 93, 94, 95, 96] (by rfl) (by decide +kernel)
set_option maxRecDepth 20000 in
theorem gX7_carryOut_X7_doUnlock : GoodIn wsX7_carryOut (wsV RX7 116 RX7 yX7_doUnlock wsX7_doUnlock) := goodIn_app (goodIn_r _ [49, 50, 51, 7] (by rfl) (by decide +kernel)) ggX7_carryOut_X7_doUnlock
set_option maxRecDepth 20000 in
theorem ggX7_carryOut_X7_doSwap : GoodIn wsX7_carryOut wsX7_doSwap := goodIn_r _ [56, 9, 10, 11, 12, 7, 13, 26, 27, 28, 29, 22, 23, 24, 25, 41, 42, 43, 44, 84, 85, 86, 87, 88, 89, 90, 91, 92, 93, 94, 95, 96] (by rfl) (by decide +kernel)
set_option maxRecDepth 20000 in
theorem gX7_carryOut_X7_doSwap : GoodIn wsX7_carryOut (wsV RX7 122 RX7 yX7_doSwap wsX7_doSwap) := goodIn_app (goodIn_r _ [53, 54, 55, 7] (by rfl) (by decide +kernel)) ggX7_carryOut_X7_doSwap
set_option maxRecDepth 20000 in
theorem ggX7_carryOut_X7_doGiveUp : GoodIn wsX7_carryOut wsX7_doGiveUp := goodIn_r _ [60, 9, 41, 42, 43, 7, 44, 10, 11, 12, 13, 22, 23, 24, 25, 84, 85, 86, 87, 88, 89, 90, 91, 92, 93, 94, 95, 96] (by rfl) (by decide +kernel)
set_option maxRecDepth 20000 in
theorem gX7_carryOut_X7_doGiveUp : GoodIn wsX7_carryOut (wsV RX7 125 RX7 yX7_doGiveUp wsX7_doGiveUp) := goodIn_app (goodIn_r _ [57, 58, 59, 7] (by rfl) (by decide +kernel)) ggX7_carryOut_X7_doGiveUp
set_option maxRecDepth 20000 in
theorem ggX7_carryOut_X7_doTick : GoodIn wsX7_carryOut wsX7_doTick := goodIn_r _ [64, 9, 65, 66, 67, 7, 68, 18, 19, 20, 21, 69, 70, 71, 72, 73, 74, 75, 26, 27, 28, 29, 76, 77, 78, 79, 10, 11, 12, 13, 80, 81, 82, 83, 84, 85, 86, 87, 88, 89, 90, 91, 92, 93, 94, 95, 96] (by rfl) (by decide +kernel)
set_option maxRecDepth 20000 in
theorem gX7_carryOut_X7_doTick : GoodIn wsX7_carryOut (wsV RX7 107 RX7 yX7_doTick wsX7_doTick) := goodIn_app (goodIn_r _ [61, 62, 63, 7] (by rfl) (by decide +kernel)) ggX7_carryOut_X7_doTick
theorem dX7_carryOut_0 : decode cX7_carryOut 0 = .ok (.aload_n 0, 1) := by decide +kernel
theorem dX7_carryOut_1 : decode cX7_carryOut 1 = .ok (.getfield 141, 3) := by decide +kernel
theorem dX7_carryOut_4 : decode cX7_carryOut 4 = .ok (.tableswitch 151 98 117 #[118, 151, 151, 109, 151, 146, 151, 151, 151, 151, 131, 151, 151, 151, 96, 151, 151, 141, 151, 136], 96) := by decide +kernel
theorem dX7_carryOut_100 : decode cX7_carryOut 100 = .ok (.aload_n 0, 1) := by decide +kernel
theorem dX7_carryOut_101 : decode cX7_carryOut 101 = .ok (.aload_n 0, 1) := by decide +kernel
theorem dX7_carryOut_102 : decode cX7_carryOut 102 = .ok (.getfield 147, 3) := by decide +kernel
theorem dX7_carryOut_105 : decode cX7_carryOut 105 = .ok (.aload_n 0, 1) := by decide +kernel
theorem dX7_carryOut_106 : decode cX7_carryOut 106 = .ok (.getfield 153, 3) := by decide +kernel
theorem dX7_carryOut_109 : decode cX7_carryOut 109 = .ok (.invokevirtual 80, 3) := by decide +kernel
theorem dX7_carryOut_112 : decode cX7_carryOut 112 = .ok (.ireturn, 1) := by decide +kernel
theorem dX7_carryOut_113 : decode cX7_carryOut 113 = .ok (.aload_n 0, 1) := by decide +kernel
theorem dX7_carryOut_114 : decode cX7_carryOut 114 = .ok (.aload_n 0, 1) := by decide +kernel
theorem dX7_carryOut_115 : decode cX7_carryOut 115 = .ok (.getfield 147, 3) := by decide +kernel
theorem dX7_carryOut_118 : decode cX7_carryOut 118 = .ok (.invokevirtual 98, 3) := by decide +kernel
theorem dX7_carryOut_121 : decode cX7_carryOut 121 = .ok (.ireturn, 1) := by decide +kernel
theorem dX7_carryOut_122 : decode cX7_carryOut 122 = .ok (.aload_n 0, 1) := by decide +kernel
theorem dX7_carryOut_123 : decode cX7_carryOut 123 = .ok (.aload_n 0, 1) := by decide +kernel
theorem dX7_carryOut_124 : decode cX7_carryOut 124 = .ok (.getfield 147, 3) := by decide +kernel
theorem dX7_carryOut_127 : decode cX7_carryOut 127 = .ok (.aload_n 0, 1) := by decide +kernel
theorem dX7_carryOut_128 : decode cX7_carryOut 128 = .ok (.getfield 153, 3) := by decide +kernel
theorem dX7_carryOut_131 : decode cX7_carryOut 131 = .ok (.invokevirtual 104, 3) := by decide +kernel
theorem dX7_carryOut_134 : decode cX7_carryOut 134 = .ok (.ireturn, 1) := by decide +kernel
theorem dX7_carryOut_135 : decode cX7_carryOut 135 = .ok (.aload_n 0, 1) := by decide +kernel
theorem dX7_carryOut_136 : decode cX7_carryOut 136 = .ok (.invokevirtual 113, 3) := by decide +kernel
theorem dX7_carryOut_139 : decode cX7_carryOut 139 = .ok (.ireturn, 1) := by decide +kernel
theorem dX7_carryOut_140 : decode cX7_carryOut 140 = .ok (.aload_n 0, 1) := by decide +kernel
theorem dX7_carryOut_141 : decode cX7_carryOut 141 = .ok (.invokevirtual 116, 3) := by decide +kernel
theorem dX7_carryOut_144 : decode cX7_carryOut 144 = .ok (.ireturn, 1) := by decide +kernel
theorem dX7_carryOut_145 : decode cX7_carryOut 145 = .ok (.aload_n 0, 1) := by decide +kernel
theorem dX7_carryOut_146 : decode cX7_carryOut 146 = .ok (.invokevirtual 122, 3) := by decide +kernel
theorem dX7_carryOut_149 : decode cX7_carryOut 149 = .ok (.ireturn, 1) := by decide +kernel
theorem dX7_carryOut_150 : decode cX7_carryOut 150 = .ok (.aload_n 0, 1) := by decide +kernel
theorem dX7_carryOut_151 : decode cX7_carryOut 151 = .ok (.invokevirtual 125, 3) := by decide +kernel
theorem dX7_carryOut_154 : decode cX7_carryOut 154 = .ok (.ireturn, 1) := by decide +kernel
theorem dX7_carryOut_155 : decode cX7_carryOut 155 = .ok (.aload_n 0, 1) := by decide +kernel
theorem dX7_carryOut_156 : decode cX7_carryOut 156 = .ok (.aload_n 0, 1) := by decide +kernel
theorem dX7_carryOut_157 : decode cX7_carryOut 157 = .ok (.getfield 147, 3) := by decide +kernel
theorem dX7_carryOut_160 : decode cX7_carryOut 160 = .ok (.invokevirtual 107, 3) := by decide +kernel
theorem dX7_carryOut_163 : decode cX7_carryOut 163 = .ok (.ireturn, 1) := by decide +kernel
set_option maxRecDepth 20000 in
theorem ggX7_readText_X7_readOrder : GoodIn wsX7_readText wsX7_readOrder := goodIn_r _ [8, 1, 3, 9, 10, 11, 12, 13, 14, 15, 7, 16, 17, 18, 19, 20, 21, 22, 23, 24, 25, 26, 27, 142, 143, 144, 145, 146, 147, 148, 149, 150, 151, 152, 153, 154] (by rfl) (by decide +kernel)
set_option maxRecDepth 20000 in
theorem gX7_readText_X7_readOrder : GoodIn wsX7_readText (wsV RX7 159 RX7 yX7_readOrder wsX7_readOrder) := goodIn_app (goodIn_r _ [4, 5, 6, 7] (by rfl) (by decide +kernel)) ggX7_readText_X7_readOrder
set_option maxRecDepth 20000 in
theorem ggX7_readText_X7_errorOfOrder : GoodIn wsX7_readText wsX7_errorOfOrder := goodIn_r _ [31, 10, 11, 12, 32, 33, 34, 7, 35, 36, 37, 38, 21, 22, 23, 39, 40, 41, 42, 43, 44, 45, 46, 47, 48, 49, 50, 51, 52, 53, 54, 55, 56, 57, 58, 59, 60, 61, 62, 63, 64, 65, 66, 67, 68, 69, 70, 71, 142, 143, 144, 145, 146, 147, 148, 149, 150, 151, 152, 153, 154] (by rfl) (by decide +kernel)
set_option maxRecDepth 20000 in
theorem gX7_readText_X7_errorOfOrder : GoodIn wsX7_readText (wsV RX7 162 RX7 yX7_errorOfOrder wsX7_errorOfOrder) := goodIn_app (goodIn_r _ [28, 29, 30, 7] (by rfl) (by decide +kernel)) ggX7_readText_X7_errorOfOrder
set_option maxRecDepth 20000 in
theorem ggX7_readText_X7_carryOut : GoodIn wsX7_readText wsX7_carryOut := goodIn_r _ [75, 10, 11, 12, 76, 77, 78, 7, 79, 43, 56, 57, 58, 59, 44, 45, 46, 47, 48, 49, 50, 51, 80, 81, 82, 83, 84, 85, 86, 87, 88, 89, 90, 91, 92, 93, 94, 95, 96, 97, 98, 99, 100, 101, 102, 103, 104, 105, 106, 107, 108, 109, 110, 111, 112, 113, 114, 115, 116, 117, 118, 119, 120, 121, 122, 123, 124, 125, 126, 127, 128, 129, 130, 131, 132, 133, 134, 135, 136, 137, 138, 139, 140, 141, 142, 143, 144, 145, 146, 147, 148, 149, 150, 151, 152, 153, 154] (by rfl) (by decide +kernel)
set_option maxRecDepth 20000 in
theorem gX7_readText_X7_carryOut : GoodIn wsX7_readText (wsV RX7 165 RX7 yX7_carryOut wsX7_carryOut) := goodIn_app (goodIn_r _ [72, 73, 74, 7] (by rfl) (by decide +kernel)) ggX7_readText_X7_carryOut
set_option maxRecDepth 20000 in
theorem ggX7_readText_X7_takes : GoodIn wsX7_readText wsX7_takes := goodIn_r _ [27, 1, 17, 18, 19, 7, 20, 3, 9, 21, 22, 23, 142, 143, 144, 145, 146, 147, 148, 149, 150, 151, 152, 153, 154] (by rfl) (by decide +kernel)
set_option maxRecDepth 20000 in
theorem gX7_readText_X7_takes : GoodIn wsX7_readText (wsV RX7 150 RX7 yX7_takes wsX7_takes) := goodIn_app (goodIn_r _ [24, 25, 26, 7] (by rfl) (by decide +kernel)) ggX7_readText_X7_takes
theorem dX7_readText_0 : decode cX7_readText 0 = .ok (.aload_n 0, 1) := by decide +kernel
theorem dX7_readText_1 : decode cX7_readText 1 = .ok (.iconst 0, 1) := by decide +kernel
theorem dX7_readText_2 : decode cX7_readText 2 = .ok (.putfield 135, 3) := by decide +kernel
theorem dX7_readText_5 : decode cX7_readText 5 = .ok (.aload_n 0, 1) := by decide +kernel
theorem dX7_readText_6 : decode cX7_readText 6 = .ok (.iconst 0, 1) := by decide +kernel
theorem dX7_readText_7 : decode cX7_readText 7 = .ok (.putfield 156, 3) := by decide +kernel
theorem dX7_readText_10 : decode cX7_readText 10 = .ok (.aload_n 0, 1) := by decide +kernel
theorem dX7_readText_11 : decode cX7_readText 11 = .ok (.invokevirtual 159, 3) := by decide +kernel
theorem dX7_readText_14 : decode cX7_readText 14 = .ok (.istore_n 2, 1) := by decide +kernel
theorem dX7_readText_15 : decode cX7_readText 15 = .ok (.iload_n 2, 1) := by decide +kernel
theorem dX7_readText_16 : decode cX7_readText 16 = .ok (.ifCond .eq 69, 3) := by decide +kernel
theorem dX7_readText_19 : decode cX7_readText 19 = .ok (.iload_n 1, 1) := by decide +kernel
theorem dX7_readText_20 : decode cX7_readText 20 = .ok (.ifCond .eq 17, 3) := by decide +kernel
theorem dX7_readText_23 : decode cX7_readText 23 = .ok (.aload_n 0, 1) := by decide +kernel
theorem dX7_readText_24 : decode cX7_readText 24 = .ok (.invokevirtual 162, 3) := by decide +kernel
theorem dX7_readText_27 : decode cX7_readText 27 = .ok (.ifCond .ge 5, 3) := by decide +kernel
theorem dX7_readText_30 : decode cX7_readText 30 = .ok (.iconst 1, 1) := by decide +kernel
theorem dX7_readText_31 : decode cX7_readText 31 = .ok (.ireturn, 1) := by decide +kernel
theorem dX7_readText_32 : decode cX7_readText 32 = .ok (.aload_n 0, 1) := by decide +kernel
theorem dX7_readText_33 : decode cX7_readText 33 = .ok (.invokevirtual 165, 3) := by decide +kernel
theorem dX7_readText_36 : decode cX7_readText 36 = .ok (.pop, 1) := by decide +kernel
theorem dX7_readText_37 : decode cX7_readText 37 = .ok (.aload_n 0, 1) := by decide +kernel
theorem dX7_readText_38 : decode cX7_readText 38 = .ok (.dup, 1) := by decide +kernel
theorem dX7_readText_39 : decode cX7_readText 39 = .ok (.getfield 156, 3) := by decide +kernel
theorem dX7_readText_42 : decode cX7_readText 42 = .ok (.iconst 1, 1) := by decide +kernel
theorem dX7_readText_43 : decode cX7_readText 43 = .ok (.iadd, 1) := by decide +kernel
theorem dX7_readText_44 : decode cX7_readText 44 = .ok (.putfield 156, 3) := by decide +kernel
theorem dX7_readText_47 : decode cX7_readText 47 = .ok (.aload_n 0, 1) := by decide +kernel
theorem dX7_readText_48 : decode cX7_readText 48 = .ok (.getfield 135, 3) := by decide +kernel
theorem dX7_readText_51 : decode cX7_readText 51 = .ok (.aload_n 0, 1) := by decide +kernel
theorem dX7_readText_52 : decode cX7_readText 52 = .ok (.getfield 132, 3) := by decide +kernel
theorem dX7_readText_55 : decode cX7_readText 55 = .ok (.if_icmp .ne 5, 3) := by decide +kernel
theorem dX7_readText_58 : decode cX7_readText 58 = .ok (.iconst 1, 1) := by decide +kernel
theorem dX7_readText_59 : decode cX7_readText 59 = .ok (.ireturn, 1) := by decide +kernel
theorem dX7_readText_60 : decode cX7_readText 60 = .ok (.aload_n 0, 1) := by decide +kernel
theorem dX7_readText_61 : decode cX7_readText 61 = .ok (.bipush 44, 2) := by decide +kernel
theorem dX7_readText_63 : decode cX7_readText 63 = .ok (.invokevirtual 150, 3) := by decide +kernel
theorem dX7_readText_66 : decode cX7_readText 66 = .ok (.ifCond .eq 14, 3) := by decide +kernel
theorem dX7_readText_69 : decode cX7_readText 69 = .ok (.aload_n 0, 1) := by decide +kernel
theorem dX7_readText_70 : decode cX7_readText 70 = .ok (.invokevirtual 159, 3) := by decide +kernel
theorem dX7_readText_73 : decode cX7_readText 73 = .ok (.ifCond .eq 7, 3) := by decide +kernel
theorem dX7_readText_76 : decode cX7_readText 76 = .ok (.iconst 1, 1) := by decide +kernel
theorem dX7_readText_77 : decode cX7_readText 77 = .ok (.goto 4, 3) := by decide +kernel
theorem dX7_readText_80 : decode cX7_readText 80 = .ok (.iconst 0, 1) := by decide +kernel
theorem dX7_readText_81 : decode cX7_readText 81 = .ok (.istore_n 2, 1) := by decide +kernel
theorem dX7_readText_82 : decode cX7_readText 82 = .ok (.goto (-67), 3) := by decide +kernel
theorem dX7_readText_85 : decode cX7_readText 85 = .ok (.iconst 0, 1) := by decide +kernel
theorem dX7_readText_86 : decode cX7_readText 86 = .ok (.ireturn, 1) := by decide +kernel
set_option maxRecDepth 20000 in
theorem ggX7_fault_X7_readText : GoodIn wsX7_fault wsX7_readText := goodIn_r _ [6, 1, 7, 8, 9, 10, 11, 5, 12, 13, 14, 15, 16, 17, 18, 19, 20, 21, 22, 23, 24, 25, 26, 27, 28, 29, 30, 31, 32, 33, 34, 35, 36, 37, 38, 39, 40, 41, 42, 43, 44, 45, 46, 47, 48, 49, 50, 51, 52, 53, 54, 55, 56, 57, 58, 59, 60, 61, 62, 63, 64, 65, 66, 67, 68, 69, 70, 71, 72, 73, 74, 75, 76, 77, 78, 79, 80, 81, 82, 83, 84, 85, 86, 87, 88, 89, 90, 91, 92, 93, 94, 95, 96, 97, 98, 99, 100, 101, 102, 103, 104, 105, 106, 107, 108, 109, 110, 111, 112, 113, 114, 115, 116, 117, 118, 119, 120, 121, 122, 123, 124, 125, 126, 127, 128, 129, 130, 131, 132, 133, 134, 135, 136, 137, 138, 139, 140, 141, 142, 143, 144, 145, 146, 147, 148, 149, 150, 151, 152, 153, 154, 155, 156, 157, 158] (by rfl) (by decide +kernel)
set_option maxRecDepth 20000 in
theorem gX7_fault_X7_readText : GoodIn wsX7_fault (wsV RX7 168 RX7 yX7_readText wsX7_readText) := goodIn_app (goodIn_r _ [2, 3, 4, 5] (by rfl) (by decide +kernel)) ggX7_fault_X7_readText
theorem dX7_fault_0 : decode cX7_fault 0 = .ok (.aload_n 0, 1) := by decide +kernel
theorem dX7_fault_1 : decode cX7_fault 1 = .ok (.iconst 0, 1) := by decide +kernel
theorem dX7_fault_2 : decode cX7_fault 2 = .ok (.invokevirtual 168, 3) := by decide +kernel
theorem dX7_fault_5 : decode cX7_fault 5 = .ok (.ifCond .eq 8, 3) := by decide +kernel
theorem dX7_fault_8 : decode cX7_fault 8 = .ok (.bipush (-5), 2) := by decide +kernel
theorem dX7_fault_10 : decode cX7_fault 10 = .ok (.goto 7, 3) := by decide +kernel
theorem dX7_fault_13 : decode cX7_fault 13 = .ok (.aload_n 0, 1) := by decide +kernel
theorem dX7_fault_14 : decode cX7_fault 14 = .ok (.getfield 135, 3) := by decide +kernel
theorem dX7_fault_17 : decode cX7_fault 17 = .ok (.ireturn, 1) := by decide +kernel
set_option maxRecDepth 20000 in
theorem ggX7_run_X7_readText : GoodIn wsX7_run wsX7_readText := goodIn_r _ [7, 1, 2, 8, 9, 10, 11, 6, 12, 13, 14, 15, 16, 17, 18, 19, 20, 21, 22, 23, 24, 25, 26, 27, 28, 29, 30, 31, 32, 33, 34, 35, 36, 37, 38, 39, 40, 41, 42, 43, 44, 45, 46, 47, 48, 49, 50, 51, 52, 53, 54, 55, 56, 57, 58, 59, 60, 61, 62, 63, 64, 65, 66, 67, 68, 69, 70, 71, 72, 73, 74, 75, 76, 77, 78, 79, 80, 81, 82, 83, 84, 85, 86, 87, 88, 89, 90, 91, 92, 93, 94, 95, 96, 97, 98, 99, 100, 101, 102, 103, 104, 105, 106, 107, 108, 109, 110, 111, 112, 113, 114, 115, 116, 117, 118, 119, 120, 121, 122, 123, 124, 125, 126, 127, 128, 129, 130, 131, 132, 133, 134, 135, 136, 137, 138, 139, 140, 141, 142, 143, 144, 145, 155, 156, 157, 158, 159, 160, 161, 162, 163, 164, 165, 166, 167] (by rfl) (by decide +kernel)
set_option maxRecDepth 20000 in
theorem gX7_run_X7_readText : GoodIn wsX7_run (wsV RX7 168 RX7 yX7_readText wsX7_readText) := goodIn_app (goodIn_r _ [3, 4, 5, 6] (by rfl) (by decide +kernel)) ggX7_run_X7_readText
set_option maxRecDepth 20000 in
theorem ggX7_run_X7_record : GoodIn wsX7_run wsX7_record := goodIn_r _ [149, 150, 151, 47, 152, 153, 6, 154, 155, 156, 157, 158, 159, 160, 161, 162, 163, 164, 165, 166, 167] (by rfl) (by decide +kernel)
set_option maxRecDepth 20000 in
theorem gX7_run_X7_record : GoodIn wsX7_run (wsV RX7 92 RX7 yX7_record wsX7_record) := goodIn_app (goodIn_r _ [146, 147, 148, 6] (by rfl) (by decide +kernel)) ggX7_run_X7_record
theorem dX7_run_0 : decode cX7_run 0 = .ok (.aload_n 0, 1) := by decide +kernel
theorem dX7_run_1 : decode cX7_run 1 = .ok (.iconst 0, 1) := by decide +kernel
theorem dX7_run_2 : decode cX7_run 2 = .ok (.invokevirtual 168, 3) := by decide +kernel
theorem dX7_run_5 : decode cX7_run 5 = .ok (.ifCond .ne 11, 3) := by decide +kernel
theorem dX7_run_8 : decode cX7_run 8 = .ok (.bipush (-100), 2) := by decide +kernel
theorem dX7_run_10 : decode cX7_run 10 = .ok (.aload_n 0, 1) := by decide +kernel
theorem dX7_run_11 : decode cX7_run 11 = .ok (.getfield 135, 3) := by decide +kernel
theorem dX7_run_14 : decode cX7_run 14 = .ok (.isub, 1) := by decide +kernel
theorem dX7_run_15 : decode cX7_run 15 = .ok (.ireturn, 1) := by decide +kernel
theorem dX7_run_16 : decode cX7_run 16 = .ok (.aload_n 0, 1) := by decide +kernel
theorem dX7_run_17 : decode cX7_run 17 = .ok (.invokevirtual 92, 3) := by decide +kernel
theorem dX7_run_20 : decode cX7_run 20 = .ok (.aload_n 0, 1) := by decide +kernel
theorem dX7_run_21 : decode cX7_run 21 = .ok (.iconst 1, 1) := by decide +kernel
theorem dX7_run_22 : decode cX7_run 22 = .ok (.invokevirtual 168, 3) := by decide +kernel
theorem dX7_run_25 : decode cX7_run 25 = .ok (.ifCond .eq 10, 3) := by decide +kernel
theorem dX7_run_28 : decode cX7_run 28 = .ok (.aload_n 0, 1) := by decide +kernel
theorem dX7_run_29 : decode cX7_run 29 = .ok (.getfield 156, 3) := by decide +kernel
theorem dX7_run_32 : decode cX7_run 32 = .ok (.goto 4, 3) := by decide +kernel
theorem dX7_run_35 : decode cX7_run 35 = .ok (.iconst 0, 1) := by decide +kernel
theorem dX7_run_36 : decode cX7_run 36 = .ok (.ireturn, 1) := by decide +kernel
set_option maxRecDepth 20000 in
theorem ggX7_undo_X7_copyAll : GoodIn wsX7_undo wsX7_copyAll := goodIn_r _ [7] (by rfl) (by decide +kernel)
set_option maxRecDepth 20000 in
theorem gX7_undo_X7_copyAll : GoodIn wsX7_undo (va_wsS RX7 41 yX7_copyAll wsX7_copyAll) := goodIn_app (goodIn_r _ [4, 5, 6] (by rfl) (by decide +kernel)) ggX7_undo_X7_copyAll
theorem dX7_undo_0 : decode cX7_undo 0 = .ok (.aload_n 0, 1) := by decide +kernel
theorem dX7_undo_1 : decode cX7_undo 1 = .ok (.getfield 37, 3) := by decide +kernel
theorem dX7_undo_4 : decode cX7_undo 4 = .ok (.ifCond .ne 6, 3) := by decide +kernel
theorem dX7_undo_7 : decode cX7_undo 7 = .ok (.bipush (-5), 2) := by decide +kernel
theorem dX7_undo_9 : decode cX7_undo 9 = .ok (.ireturn, 1) := by decide +kernel
theorem dX7_undo_10 : decode cX7_undo 10 = .ok (.aload_n 0, 1) := by decide +kernel
theorem dX7_undo_11 : decode cX7_undo 11 = .ok (.dup, 1) := by decide +kernel
theorem dX7_undo_12 : decode cX7_undo 12 = .ok (.getfield 37, 3) := by decide +kernel
theorem dX7_undo_15 : decode cX7_undo 15 = .ok (.iconst 1, 1) := by decide +kernel
theorem dX7_undo_16 : decode cX7_undo 16 = .ok (.isub, 1) := by decide +kernel
theorem dX7_undo_17 : decode cX7_undo 17 = .ok (.putfield 37, 3) := by decide +kernel
theorem dX7_undo_20 : decode cX7_undo 20 = .ok (.aload_n 0, 1) := by decide +kernel
theorem dX7_undo_21 : decode cX7_undo 21 = .ok (.getfield 13, 3) := by decide +kernel
theorem dX7_undo_24 : decode cX7_undo 24 = .ok (.sipush 163, 3) := by decide +kernel
theorem dX7_undo_27 : decode cX7_undo 27 = .ok (.aload_n 0, 1) := by decide +kernel
theorem dX7_undo_28 : decode cX7_undo 28 = .ok (.getfield 37, 3) := by decide +kernel
theorem dX7_undo_31 : decode cX7_undo 31 = .ok (.imul, 1) := by decide +kernel
theorem dX7_undo_32 : decode cX7_undo 32 = .ok (.aload_n 0, 1) := by decide +kernel
theorem dX7_undo_33 : decode cX7_undo 33 = .ok (.getfield 7, 3) := by decide +kernel
theorem dX7_undo_36 : decode cX7_undo 36 = .ok (.iconst 0, 1) := by decide +kernel
theorem dX7_undo_37 : decode cX7_undo 37 = .ok (.invokestatic 41, 3) := by decide +kernel
theorem dX7_undo_40 : decode cX7_undo 40 = .ok (.aload_n 0, 1) := by decide +kernel
theorem dX7_undo_41 : decode cX7_undo 41 = .ok (.getfield 37, 3) := by decide +kernel
theorem dX7_undo_44 : decode cX7_undo 44 = .ok (.ireturn, 1) := by decide +kernel
set_option maxRecDepth 20000 in
theorem ggX7_save_X7_copyAll : GoodIn wsX7_save wsX7_copyAll := goodIn_r _ [7] (by rfl) (by decide +kernel)
set_option maxRecDepth 20000 in
theorem gX7_save_X7_copyAll : GoodIn wsX7_save (va_wsS RX7 41 yX7_copyAll wsX7_copyAll) := goodIn_app (goodIn_r _ [4, 5, 6] (by rfl) (by decide +kernel)) ggX7_save_X7_copyAll
set_option maxRecDepth 20000 in
theorem ggX7_save_X7_rows : GoodIn wsX7_save wsX7_rows := goodIn_r _ [11, 12, 13, 14, 6, 15, 1, 16, 17, 18, 19, 20, 21, 22, 23, 24, 25, 26, 27, 28] (by rfl) (by decide +kernel)
set_option maxRecDepth 20000 in
theorem gX7_save_X7_rows : GoodIn wsX7_save (wsV RX7 83 RX7 yX7_rows wsX7_rows) := goodIn_app (goodIn_r _ [8, 9, 10, 6] (by rfl) (by decide +kernel)) ggX7_save_X7_rows
theorem dX7_save_0 : decode cX7_save 0 = .ok (.aload_n 0, 1) := by decide +kernel
theorem dX7_save_1 : decode cX7_save 1 = .ok (.getfield 7, 3) := by decide +kernel
theorem dX7_save_4 : decode cX7_save 4 = .ok (.iconst 0, 1) := by decide +kernel
theorem dX7_save_5 : decode cX7_save 5 = .ok (.aload_n 0, 1) := by decide +kernel
theorem dX7_save_6 : decode cX7_save 6 = .ok (.getfield 16, 3) := by decide +kernel
theorem dX7_save_9 : decode cX7_save 9 = .ok (.iconst 0, 1) := by decide +kernel
theorem dX7_save_10 : decode cX7_save 10 = .ok (.invokestatic 41, 3) := by decide +kernel
theorem dX7_save_13 : decode cX7_save 13 = .ok (.aload_n 0, 1) := by decide +kernel
theorem dX7_save_14 : decode cX7_save 14 = .ok (.iconst 1, 1) := by decide +kernel
theorem dX7_save_15 : decode cX7_save 15 = .ok (.putfield 172, 3) := by decide +kernel
theorem dX7_save_18 : decode cX7_save 18 = .ok (.aload_n 0, 1) := by decide +kernel
theorem dX7_save_19 : decode cX7_save 19 = .ok (.iconst 0, 1) := by decide +kernel
theorem dX7_save_20 : decode cX7_save 20 = .ok (.invokevirtual 83, 3) := by decide +kernel
theorem dX7_save_23 : decode cX7_save 23 = .ok (.ireturn, 1) := by decide +kernel
set_option maxRecDepth 20000 in
theorem ggX7_restore_X7_record : GoodIn wsX7_restore wsX7_record := goodIn_r _ [8, 9, 10, 3, 11, 12, 7, 13, 22, 23, 24, 25, 26, 27, 28, 29, 30, 31, 32, 33, 34] (by rfl) (by decide +kernel)
set_option maxRecDepth 20000 in
theorem gX7_restore_X7_record : GoodIn wsX7_restore (wsV RX7 92 RX7 yX7_record wsX7_record) := goodIn_app (goodIn_r _ [4, 5, 6, 7] (by rfl) (by decide +kernel)) ggX7_restore_X7_record
set_option maxRecDepth 20000 in
theorem ggX7_restore_X7_copyAll : GoodIn wsX7_restore wsX7_copyAll := goodIn_r _ [13] (by rfl) (by decide +kernel)
set_option maxRecDepth 20000 in
theorem gX7_restore_X7_copyAll : GoodIn wsX7_restore (va_wsS RX7 41 yX7_copyAll wsX7_copyAll) := goodIn_app (goodIn_r _ [11, 12, 7] (by rfl) (by decide +kernel)) ggX7_restore_X7_copyAll
set_option maxRecDepth 20000 in
theorem ggX7_restore_X7_rows : GoodIn wsX7_restore wsX7_rows := goodIn_r _ [17, 18, 19, 20, 7, 21, 3, 22, 23, 24, 25, 26, 27, 28, 29, 30, 31, 32, 33, 34] (by rfl) (by decide +kernel)
set_option maxRecDepth 20000 in
theorem gX7_restore_X7_rows : GoodIn wsX7_restore (wsV RX7 83 RX7 yX7_rows wsX7_rows) := goodIn_app (goodIn_r _ [14, 15, 16, 7] (by rfl) (by decide +kernel)) ggX7_restore_X7_rows
theorem dX7_restore_0 : decode cX7_restore 0 = .ok (.aload_n 0, 1) := by decide +kernel
theorem dX7_restore_1 : decode cX7_restore 1 = .ok (.getfield 172, 3) := by decide +kernel
theorem dX7_restore_4 : decode cX7_restore 4 = .ok (.ifCond .ne 6, 3) := by decide +kernel
theorem dX7_restore_7 : decode cX7_restore 7 = .ok (.bipush (-4), 2) := by decide +kernel
theorem dX7_restore_9 : decode cX7_restore 9 = .ok (.ireturn, 1) := by decide +kernel
theorem dX7_restore_10 : decode cX7_restore 10 = .ok (.aload_n 0, 1) := by decide +kernel
theorem dX7_restore_11 : decode cX7_restore 11 = .ok (.invokevirtual 92, 3) := by decide +kernel
theorem dX7_restore_14 : decode cX7_restore 14 = .ok (.aload_n 0, 1) := by decide +kernel
theorem dX7_restore_15 : decode cX7_restore 15 = .ok (.getfield 16, 3) := by decide +kernel
theorem dX7_restore_18 : decode cX7_restore 18 = .ok (.iconst 0, 1) := by decide +kernel
theorem dX7_restore_19 : decode cX7_restore 19 = .ok (.aload_n 0, 1) := by decide +kernel
theorem dX7_restore_20 : decode cX7_restore 20 = .ok (.getfield 7, 3) := by decide +kernel
theorem dX7_restore_23 : decode cX7_restore 23 = .ok (.iconst 0, 1) := by decide +kernel
theorem dX7_restore_24 : decode cX7_restore 24 = .ok (.invokestatic 41, 3) := by decide +kernel
theorem dX7_restore_27 : decode cX7_restore 27 = .ok (.aload_n 0, 1) := by decide +kernel
theorem dX7_restore_28 : decode cX7_restore 28 = .ok (.iconst 0, 1) := by decide +kernel
theorem dX7_restore_29 : decode cX7_restore 29 = .ok (.invokevirtual 83, 3) := by decide +kernel
theorem dX7_restore_32 : decode cX7_restore 32 = .ok (.ireturn, 1) := by decide +kernel
set_option maxRecDepth 20000 in
theorem ggX7_value_X7_isKey : GoodIn wsX7_value wsX7_isKey := goodIn_r _ [4, 5, 6, 3, 7] (by rfl) (by decide +kernel)
set_option maxRecDepth 20000 in
theorem gX7_value_X7_isKey : GoodIn wsX7_value (va_wsS RX7 66 yX7_isKey wsX7_isKey) := goodIn_app (goodIn_r _ [1, 2, 3] (by rfl) (by decide +kernel)) ggX7_value_X7_isKey
set_option maxRecDepth 20000 in
theorem ggX7_value_X7_in : GoodIn wsX7_value wsX7_in := goodIn_r _ [7] (by rfl) (by decide +kernel)
set_option maxRecDepth 20000 in
theorem gX7_value_X7_in : GoodIn wsX7_value (va_wsS RX7 25 yX7_in wsX7_in) := goodIn_app (goodIn_r _ [5, 6, 3] (by rfl) (by decide +kernel)) ggX7_value_X7_in
set_option maxRecDepth 20000 in
theorem ggX7_value_X7_isTable : GoodIn wsX7_value wsX7_isTable := goodIn_r _ [11, 12, 13, 14, 15, 3, 16, 24, 25, 26, 27, 28, 29, 30, 31, 32, 33, 34, 35, 36] (by rfl) (by decide +kernel)
set_option maxRecDepth 20000 in
theorem gX7_value_X7_isTable : GoodIn wsX7_value (wsV RX7 176 RX7 yX7_isTable wsX7_isTable) := goodIn_app (goodIn_r _ [8, 9, 10, 3] (by rfl) (by decide +kernel)) ggX7_value_X7_isTable
set_option maxRecDepth 20000 in
theorem ggX7_value_X7_row : GoodIn wsX7_value wsX7_row := goodIn_r _ [20, 12, 24, 25, 26, 27, 28, 29, 30, 31, 32, 33, 34, 35, 36] (by rfl) (by decide +kernel)
set_option maxRecDepth 20000 in
theorem gX7_value_X7_row : GoodIn wsX7_value (wsV RX7 29 RX7 yX7_row wsX7_row) := goodIn_app (goodIn_r _ [17, 18, 19, 3] (by rfl) (by decide +kernel)) ggX7_value_X7_row
set_option maxRecDepth 20000 in
theorem ggX7_value_X7_outside : GoodIn wsX7_value wsX7_outside := goodIn_r _ [23] (by rfl) (by decide +kernel)
set_option maxRecDepth 20000 in
theorem gX7_value_X7_outside : GoodIn wsX7_value (va_wsS RX7 77 yX7_outside wsX7_outside) := goodIn_app (goodIn_r _ [21, 22, 3] (by rfl) (by decide +kernel)) ggX7_value_X7_outside
theorem dX7_value_0 : decode cX7_value 0 = .ok (.iload_n 2, 1) := by decide +kernel
theorem dX7_value_1 : decode cX7_value 1 = .ok (.invokestatic 66, 3) := by decide +kernel
theorem dX7_value_4 : decode cX7_value 4 = .ok (.ifCond .ne 5, 3) := by decide +kernel
theorem dX7_value_7 : decode cX7_value 7 = .ok (.iconst (-1), 1) := by decide +kernel
theorem dX7_value_8 : decode cX7_value 8 = .ok (.ireturn, 1) := by decide +kernel
theorem dX7_value_9 : decode cX7_value 9 = .ok (.iload_n 1, 1) := by decide +kernel
theorem dX7_value_10 : decode cX7_value 10 = .ok (.iconst 0, 1) := by decide +kernel
theorem dX7_value_11 : decode cX7_value 11 = .ok (.iconst 2, 1) := by decide +kernel
theorem dX7_value_12 : decode cX7_value 12 = .ok (.invokestatic 25, 3) := by decide +kernel
theorem dX7_value_15 : decode cX7_value 15 = .ok (.ifCond .ne 6, 3) := by decide +kernel
theorem dX7_value_18 : decode cX7_value 18 = .ok (.bipush (-2), 2) := by decide +kernel
theorem dX7_value_20 : decode cX7_value 20 = .ok (.ireturn, 1) := by decide +kernel
theorem dX7_value_21 : decode cX7_value 21 = .ok (.aload_n 0, 1) := by decide +kernel
theorem dX7_value_22 : decode cX7_value 22 = .ok (.iload_n 1, 1) := by decide +kernel
theorem dX7_value_23 : decode cX7_value 23 = .ok (.invokevirtual 176, 3) := by decide +kernel
theorem dX7_value_26 : decode cX7_value 26 = .ok (.ifCond .eq 15, 3) := by decide +kernel
theorem dX7_value_29 : decode cX7_value 29 = .ok (.aload_n 0, 1) := by decide +kernel
theorem dX7_value_30 : decode cX7_value 30 = .ok (.iload_n 1, 1) := by decide +kernel
theorem dX7_value_31 : decode cX7_value 31 = .ok (.iload_n 2, 1) := by decide +kernel
theorem dX7_value_32 : decode cX7_value 32 = .ok (.invokevirtual 29, 3) := by decide +kernel
theorem dX7_value_35 : decode cX7_value 35 = .ok (.invokestatic 77, 3) := by decide +kernel
theorem dX7_value_38 : decode cX7_value 38 = .ok (.goto 5, 3) := by decide +kernel
theorem dX7_value_41 : decode cX7_value 41 = .ok (.bipush (-5), 2) := by decide +kernel
theorem dX7_value_43 : decode cX7_value 43 = .ok (.ireturn, 1) := by decide +kernel
set_option maxRecDepth 20000 in
theorem ggX7_sum_X7_row : GoodIn wsX7_sum wsX7_row := goodIn_r _ [5, 6, 7, 8, 9, 10, 11, 12, 13, 14, 15, 16, 17, 18, 19] (by rfl) (by decide +kernel)
set_option maxRecDepth 20000 in
theorem gX7_sum_X7_row : GoodIn wsX7_sum (wsV RX7 29 RX7 yX7_row wsX7_row) := goodIn_app (goodIn_r _ [1, 2, 3, 4] (by rfl) (by decide +kernel)) ggX7_sum_X7_row
theorem dX7_sum_0 : decode cX7_sum 0 = .ok (.iconst 0, 1) := by decide +kernel
theorem dX7_sum_1 : decode cX7_sum 1 = .ok (.istore_n 2, 1) := by decide +kernel
theorem dX7_sum_2 : decode cX7_sum 2 = .ok (.iconst 0, 1) := by decide +kernel
theorem dX7_sum_3 : decode cX7_sum 3 = .ok (.istore_n 3, 1) := by decide +kernel
theorem dX7_sum_4 : decode cX7_sum 4 = .ok (.iload_n 3, 1) := by decide +kernel
theorem dX7_sum_5 : decode cX7_sum 5 = .ok (.bipush 32, 2) := by decide +kernel
theorem dX7_sum_7 : decode cX7_sum 7 = .ok (.if_icmp .ge 32, 3) := by decide +kernel
theorem dX7_sum_10 : decode cX7_sum 10 = .ok (.iload_n 2, 1) := by decide +kernel
theorem dX7_sum_11 : decode cX7_sum 11 = .ok (.aload_n 0, 1) := by decide +kernel
theorem dX7_sum_12 : decode cX7_sum 12 = .ok (.iload_n 1, 1) := by decide +kernel
theorem dX7_sum_13 : decode cX7_sum 13 = .ok (.iload_n 3, 1) := by decide +kernel
theorem dX7_sum_14 : decode cX7_sum 14 = .ok (.invokevirtual 29, 3) := by decide +kernel
theorem dX7_sum_17 : decode cX7_sum 17 = .ok (.iconst (-1), 1) := by decide +kernel
theorem dX7_sum_18 : decode cX7_sum 18 = .ok (.if_icmp .ne 7, 3) := by decide +kernel
theorem dX7_sum_21 : decode cX7_sum 21 = .ok (.iconst 0, 1) := by decide +kernel
theorem dX7_sum_22 : decode cX7_sum 22 = .ok (.goto 9, 3) := by decide +kernel
theorem dX7_sum_25 : decode cX7_sum 25 = .ok (.aload_n 0, 1) := by decide +kernel
theorem dX7_sum_26 : decode cX7_sum 26 = .ok (.iload_n 1, 1) := by decide +kernel
theorem dX7_sum_27 : decode cX7_sum 27 = .ok (.iload_n 3, 1) := by decide +kernel
theorem dX7_sum_28 : decode cX7_sum 28 = .ok (.invokevirtual 29, 3) := by decide +kernel
theorem dX7_sum_31 : decode cX7_sum 31 = .ok (.iadd, 1) := by decide +kernel
theorem dX7_sum_32 : decode cX7_sum 32 = .ok (.istore_n 2, 1) := by decide +kernel
theorem dX7_sum_33 : decode cX7_sum 33 = .ok (.iinc 3 1, 3) := by decide +kernel
theorem dX7_sum_36 : decode cX7_sum 36 = .ok (.goto (-32), 3) := by decide +kernel
theorem dX7_sum_39 : decode cX7_sum 39 = .ok (.iload_n 2, 1) := by decide +kernel
theorem dX7_sum_40 : decode cX7_sum 40 = .ok (.ireturn, 1) := by decide +kernel
set_option maxRecDepth 20000 in
theorem ggX7_endKey_X7_row : GoodIn wsX7_endKey wsX7_row := goodIn_r _ [5, 6, 7, 8, 9, 10, 11, 12, 13, 14, 15, 16, 17, 18, 19] (by rfl) (by decide +kernel)
set_option maxRecDepth 20000 in
theorem gX7_endKey_X7_row : GoodIn wsX7_endKey (wsV RX7 29 RX7 yX7_row wsX7_row) := goodIn_app (goodIn_r _ [1, 2, 3, 4] (by rfl) (by decide +kernel)) ggX7_endKey_X7_row
theorem dX7_endKey_0 : decode cX7_endKey 0 = .ok (.bipush (-5), 2) := by decide +kernel
theorem dX7_endKey_2 : decode cX7_endKey 2 = .ok (.istore_n 3, 1) := by decide +kernel
theorem dX7_endKey_3 : decode cX7_endKey 3 = .ok (.iconst 0, 1) := by decide +kernel
theorem dX7_endKey_4 : decode cX7_endKey 4 = .ok (.istore 4, 2) := by decide +kernel
theorem dX7_endKey_6 : decode cX7_endKey 6 = .ok (.iload 4, 2) := by decide +kernel
theorem dX7_endKey_8 : decode cX7_endKey 8 = .ok (.bipush 32, 2) := by decide +kernel
theorem dX7_endKey_10 : decode cX7_endKey 10 = .ok (.if_icmp .ge 37, 3) := by decide +kernel
theorem dX7_endKey_13 : decode cX7_endKey 13 = .ok (.aload_n 0, 1) := by decide +kernel
theorem dX7_endKey_14 : decode cX7_endKey 14 = .ok (.iload_n 1, 1) := by decide +kernel
theorem dX7_endKey_15 : decode cX7_endKey 15 = .ok (.iload 4, 2) := by decide +kernel
theorem dX7_endKey_17 : decode cX7_endKey 17 = .ok (.invokevirtual 29, 3) := by decide +kernel
theorem dX7_endKey_20 : decode cX7_endKey 20 = .ok (.iconst (-1), 1) := by decide +kernel
theorem dX7_endKey_21 : decode cX7_endKey 21 = .ok (.if_icmp .eq 18, 3) := by decide +kernel
theorem dX7_endKey_24 : decode cX7_endKey 24 = .ok (.iload_n 2, 1) := by decide +kernel
theorem dX7_endKey_25 : decode cX7_endKey 25 = .ok (.ifCond .ne 9, 3) := by decide +kernel
theorem dX7_endKey_28 : decode cX7_endKey 28 = .ok (.iload_n 3, 1) := by decide +kernel
theorem dX7_endKey_29 : decode cX7_endKey 29 = .ok (.bipush (-5), 2) := by decide +kernel
theorem dX7_endKey_31 : decode cX7_endKey 31 = .ok (.if_icmp .ne 8, 3) := by decide +kernel
theorem dX7_endKey_34 : decode cX7_endKey 34 = .ok (.iload 4, 2) := by decide +kernel
theorem dX7_endKey_36 : decode cX7_endKey 36 = .ok (.goto 4, 3) := by decide +kernel
theorem dX7_endKey_39 : decode cX7_endKey 39 = .ok (.iload_n 3, 1) := by decide +kernel
theorem dX7_endKey_40 : decode cX7_endKey 40 = .ok (.istore_n 3, 1) := by decide +kernel
theorem dX7_endKey_41 : decode cX7_endKey 41 = .ok (.iinc 4 1, 3) := by decide +kernel
theorem dX7_endKey_44 : decode cX7_endKey 44 = .ok (.goto (-38), 3) := by decide +kernel
theorem dX7_endKey_47 : decode cX7_endKey 47 = .ok (.iload_n 3, 1) := by decide +kernel
theorem dX7_endKey_48 : decode cX7_endKey 48 = .ok (.ireturn, 1) := by decide +kernel
set_option maxRecDepth 20000 in
theorem ggX7_table_X7_in : GoodIn wsX7_table wsX7_in := goodIn_r _ [4] (by rfl) (by decide +kernel)
set_option maxRecDepth 20000 in
theorem gX7_table_X7_in : GoodIn wsX7_table (va_wsS RX7 25 yX7_in wsX7_in) := goodIn_app (goodIn_r _ [1, 2, 3] (by rfl) (by decide +kernel)) ggX7_table_X7_in
set_option maxRecDepth 20000 in
theorem ggX7_table_X7_isTable : GoodIn wsX7_table wsX7_isTable := goodIn_r _ [8, 9, 10, 11, 12, 3, 13, 30, 31, 32, 33, 34, 35, 36, 37, 38, 39, 40, 41, 42] (by rfl) (by decide +kernel)
set_option maxRecDepth 20000 in
theorem gX7_table_X7_isTable : GoodIn wsX7_table (wsV RX7 176 RX7 yX7_isTable wsX7_isTable) := goodIn_app (goodIn_r _ [5, 6, 7, 3] (by rfl) (by decide +kernel)) ggX7_table_X7_isTable
set_option maxRecDepth 20000 in
theorem ggX7_table_X7_rows : GoodIn wsX7_table wsX7_rows := goodIn_r _ [17, 18, 19, 20, 3, 21, 9, 30, 31, 32, 33, 34, 35, 36, 37, 38, 39, 40, 41, 42] (by rfl) (by decide +kernel)
set_option maxRecDepth 20000 in
theorem gX7_table_X7_rows : GoodIn wsX7_table (wsV RX7 83 RX7 yX7_rows wsX7_rows) := goodIn_app (goodIn_r _ [14, 15, 16, 3] (by rfl) (by decide +kernel)) ggX7_table_X7_rows
set_option maxRecDepth 20000 in
theorem ggX7_table_X7_sum : GoodIn wsX7_table wsX7_sum := goodIn_r _ [25, 18, 19, 20, 3, 21, 9, 30, 31, 32, 33, 34, 35, 36, 37, 38, 39, 40, 41, 42] (by rfl) (by decide +kernel)
set_option maxRecDepth 20000 in
theorem gX7_table_X7_sum : GoodIn wsX7_table (wsV RX7 179 RX7 yX7_sum wsX7_sum) := goodIn_app (goodIn_r _ [22, 23, 24, 3] (by rfl) (by decide +kernel)) ggX7_table_X7_sum
set_option maxRecDepth 20000 in
theorem ggX7_table_X7_endKey : GoodIn wsX7_table wsX7_endKey := goodIn_r _ [29, 18, 19, 20, 3, 21, 9, 30, 31, 32, 33, 34, 35, 36, 37, 38, 39, 40, 41, 42] (by rfl) (by decide +kernel)
set_option maxRecDepth 20000 in
theorem gX7_table_X7_endKey : GoodIn wsX7_table (wsV RX7 182 RX7 yX7_endKey wsX7_endKey) := goodIn_app (goodIn_r _ [26, 27, 28, 3] (by rfl) (by decide +kernel)) ggX7_table_X7_endKey
theorem dX7_table_0 : decode cX7_table 0 = .ok (.iload_n 1, 1) := by decide +kernel
theorem dX7_table_1 : decode cX7_table 1 = .ok (.iconst 0, 1) := by decide +kernel
theorem dX7_table_2 : decode cX7_table 2 = .ok (.iconst 2, 1) := by decide +kernel
theorem dX7_table_3 : decode cX7_table 3 = .ok (.invokestatic 25, 3) := by decide +kernel
theorem dX7_table_6 : decode cX7_table 6 = .ok (.ifCond .eq 12, 3) := by decide +kernel
theorem dX7_table_9 : decode cX7_table 9 = .ok (.iload_n 2, 1) := by decide +kernel
theorem dX7_table_10 : decode cX7_table 10 = .ok (.iconst 0, 1) := by decide +kernel
theorem dX7_table_11 : decode cX7_table 11 = .ok (.iconst 3, 1) := by decide +kernel
theorem dX7_table_12 : decode cX7_table 12 = .ok (.invokestatic 25, 3) := by decide +kernel
theorem dX7_table_15 : decode cX7_table 15 = .ok (.ifCond .ne 6, 3) := by decide +kernel
theorem dX7_table_18 : decode cX7_table 18 = .ok (.bipush (-2), 2) := by decide +kernel
theorem dX7_table_20 : decode cX7_table 20 = .ok (.ireturn, 1) := by decide +kernel
theorem dX7_table_21 : decode cX7_table 21 = .ok (.aload_n 0, 1) := by decide +kernel
theorem dX7_table_22 : decode cX7_table 22 = .ok (.iload_n 1, 1) := by decide +kernel
theorem dX7_table_23 : decode cX7_table 23 = .ok (.invokevirtual 176, 3) := by decide +kernel
theorem dX7_table_26 : decode cX7_table 26 = .ok (.ifCond .ne 6, 3) := by decide +kernel
theorem dX7_table_29 : decode cX7_table 29 = .ok (.bipush (-5), 2) := by decide +kernel
theorem dX7_table_31 : decode cX7_table 31 = .ok (.ireturn, 1) := by decide +kernel
theorem dX7_table_32 : decode cX7_table 32 = .ok (.iload_n 2, 1) := by decide +kernel
theorem dX7_table_33 : decode cX7_table 33 = .ok (.ifCond .ne 11, 3) := by decide +kernel
theorem dX7_table_36 : decode cX7_table 36 = .ok (.aload_n 0, 1) := by decide +kernel
theorem dX7_table_37 : decode cX7_table 37 = .ok (.iload_n 1, 1) := by decide +kernel
theorem dX7_table_38 : decode cX7_table 38 = .ok (.invokevirtual 83, 3) := by decide +kernel
theorem dX7_table_41 : decode cX7_table 41 = .ok (.goto 31, 3) := by decide +kernel
theorem dX7_table_44 : decode cX7_table 44 = .ok (.iload_n 2, 1) := by decide +kernel
theorem dX7_table_45 : decode cX7_table 45 = .ok (.iconst 1, 1) := by decide +kernel
theorem dX7_table_46 : decode cX7_table 46 = .ok (.if_icmp .ne 11, 3) := by decide +kernel
theorem dX7_table_49 : decode cX7_table 49 = .ok (.aload_n 0, 1) := by decide +kernel
theorem dX7_table_50 : decode cX7_table 50 = .ok (.iload_n 1, 1) := by decide +kernel
theorem dX7_table_51 : decode cX7_table 51 = .ok (.invokevirtual 179, 3) := by decide +kernel
theorem dX7_table_54 : decode cX7_table 54 = .ok (.goto 18, 3) := by decide +kernel
theorem dX7_table_57 : decode cX7_table 57 = .ok (.aload_n 0, 1) := by decide +kernel
theorem dX7_table_58 : decode cX7_table 58 = .ok (.iload_n 1, 1) := by decide +kernel
theorem dX7_table_59 : decode cX7_table 59 = .ok (.iload_n 2, 1) := by decide +kernel
theorem dX7_table_60 : decode cX7_table 60 = .ok (.iconst 3, 1) := by decide +kernel
theorem dX7_table_61 : decode cX7_table 61 = .ok (.if_icmp .ne 7, 3) := by decide +kernel
theorem dX7_table_64 : decode cX7_table 64 = .ok (.iconst 1, 1) := by decide +kernel
theorem dX7_table_65 : decode cX7_table 65 = .ok (.goto 4, 3) := by decide +kernel
theorem dX7_table_68 : decode cX7_table 68 = .ok (.iconst 0, 1) := by decide +kernel
theorem dX7_table_69 : decode cX7_table 69 = .ok (.invokevirtual 182, 3) := by decide +kernel
theorem dX7_table_72 : decode cX7_table 72 = .ok (.ireturn, 1) := by decide +kernel
set_option maxRecDepth 20000 in
theorem ggX7_copy_X7_in : GoodIn wsX7_copy wsX7_in := goodIn_r _ [5] (by rfl) (by decide +kernel)
set_option maxRecDepth 20000 in
theorem gX7_copy_X7_in : GoodIn wsX7_copy (va_wsS RX7 25 yX7_in wsX7_in) := goodIn_app (goodIn_r _ [2, 3, 4] (by rfl) (by decide +kernel)) ggX7_copy_X7_in
set_option maxRecDepth 20000 in
theorem ggX7_copy_X7_isCopy : GoodIn wsX7_copy wsX7_isCopy := goodIn_r _ [9, 1, 10, 11, 12, 13, 14, 15, 16, 17, 18, 19, 20, 21, 22] (by rfl) (by decide +kernel)
set_option maxRecDepth 20000 in
theorem gX7_copy_X7_isCopy : GoodIn wsX7_copy (wsV RX7 33 RX7 yX7_isCopy wsX7_isCopy) := goodIn_app (goodIn_r _ [6, 7, 8, 4] (by rfl) (by decide +kernel)) ggX7_copy_X7_isCopy
theorem dX7_copy_0 : decode cX7_copy 0 = .ok (.iload_n 1, 1) := by decide +kernel
theorem dX7_copy_1 : decode cX7_copy 1 = .ok (.iconst 0, 1) := by decide +kernel
theorem dX7_copy_2 : decode cX7_copy 2 = .ok (.iconst 5, 1) := by decide +kernel
theorem dX7_copy_3 : decode cX7_copy 3 = .ok (.invokestatic 25, 3) := by decide +kernel
theorem dX7_copy_6 : decode cX7_copy 6 = .ok (.ifCond .ne 6, 3) := by decide +kernel
theorem dX7_copy_9 : decode cX7_copy 9 = .ok (.bipush (-2), 2) := by decide +kernel
theorem dX7_copy_11 : decode cX7_copy 11 = .ok (.ireturn, 1) := by decide +kernel
theorem dX7_copy_12 : decode cX7_copy 12 = .ok (.iload_n 1, 1) := by decide +kernel
theorem dX7_copy_13 : decode cX7_copy 13 = .ok (.ifCond .eq 25, 3) := by decide +kernel
theorem dX7_copy_16 : decode cX7_copy 16 = .ok (.aload_n 0, 1) := by decide +kernel
theorem dX7_copy_17 : decode cX7_copy 17 = .ok (.invokevirtual 33, 3) := by decide +kernel
theorem dX7_copy_20 : decode cX7_copy 20 = .ok (.ifCond .eq 22, 3) := by decide +kernel
theorem dX7_copy_23 : decode cX7_copy 23 = .ok (.iload_n 1, 1) := by decide +kernel
theorem dX7_copy_24 : decode cX7_copy 24 = .ok (.iconst 5, 1) := by decide +kernel
theorem dX7_copy_25 : decode cX7_copy 25 = .ok (.if_icmp .lt 13, 3) := by decide +kernel
theorem dX7_copy_28 : decode cX7_copy 28 = .ok (.aload_n 0, 1) := by decide +kernel
theorem dX7_copy_29 : decode cX7_copy 29 = .ok (.getfield 7, 3) := by decide +kernel
theorem dX7_copy_32 : decode cX7_copy 32 = .ok (.iconst 0, 1) := by decide +kernel
theorem dX7_copy_33 : decode cX7_copy 33 = .ok (.iaload, 1) := by decide +kernel
theorem dX7_copy_34 : decode cX7_copy 34 = .ok (.iconst 3, 1) := by decide +kernel
theorem dX7_copy_35 : decode cX7_copy 35 = .ok (.if_icmp .ne 7, 3) := by decide +kernel
theorem dX7_copy_38 : decode cX7_copy 38 = .ok (.iconst 1, 1) := by decide +kernel
theorem dX7_copy_39 : decode cX7_copy 39 = .ok (.goto 4, 3) := by decide +kernel
theorem dX7_copy_42 : decode cX7_copy 42 = .ok (.iconst 0, 1) := by decide +kernel
theorem dX7_copy_43 : decode cX7_copy 43 = .ok (.istore_n 2, 1) := by decide +kernel
theorem dX7_copy_44 : decode cX7_copy 44 = .ok (.iload_n 2, 1) := by decide +kernel
theorem dX7_copy_45 : decode cX7_copy 45 = .ok (.ifCond .eq 12, 3) := by decide +kernel
theorem dX7_copy_48 : decode cX7_copy 48 = .ok (.aload_n 0, 1) := by decide +kernel
theorem dX7_copy_49 : decode cX7_copy 49 = .ok (.getfield 7, 3) := by decide +kernel
theorem dX7_copy_52 : decode cX7_copy 52 = .ok (.iload_n 1, 1) := by decide +kernel
theorem dX7_copy_53 : decode cX7_copy 53 = .ok (.iaload, 1) := by decide +kernel
theorem dX7_copy_54 : decode cX7_copy 54 = .ok (.goto 5, 3) := by decide +kernel
theorem dX7_copy_57 : decode cX7_copy 57 = .ok (.bipush (-5), 2) := by decide +kernel
theorem dX7_copy_59 : decode cX7_copy 59 = .ok (.ireturn, 1) := by decide +kernel
set_option maxRecDepth 20000 in
theorem ggX7_entry_X7_in : GoodIn wsX7_entry wsX7_in := goodIn_r _ [5] (by rfl) (by decide +kernel)
set_option maxRecDepth 20000 in
theorem gX7_entry_X7_in : GoodIn wsX7_entry (va_wsS RX7 25 yX7_in wsX7_in) := goodIn_app (goodIn_r _ [2, 3, 4] (by rfl) (by decide +kernel)) ggX7_entry_X7_in
set_option maxRecDepth 20000 in
theorem ggX7_entry_X7_isCopy : GoodIn wsX7_entry wsX7_isCopy := goodIn_r _ [9, 1, 13, 14, 15, 16, 17, 18, 19, 20, 21, 22, 23, 24, 25] (by rfl) (by decide +kernel)
set_option maxRecDepth 20000 in
theorem gX7_entry_X7_isCopy : GoodIn wsX7_entry (wsV RX7 33 RX7 yX7_isCopy wsX7_isCopy) := goodIn_app (goodIn_r _ [6, 7, 8, 4] (by rfl) (by decide +kernel)) ggX7_entry_X7_isCopy
set_option maxRecDepth 20000 in
theorem ggX7_entry_X7_outside : GoodIn wsX7_entry wsX7_outside := goodIn_r _ [12] (by rfl) (by decide +kernel)
set_option maxRecDepth 20000 in
theorem gX7_entry_X7_outside : GoodIn wsX7_entry (va_wsS RX7 77 yX7_outside wsX7_outside) := goodIn_app (goodIn_r _ [10, 11, 4] (by rfl) (by decide +kernel)) ggX7_entry_X7_outside
theorem dX7_entry_0 : decode cX7_entry 0 = .ok (.iload_n 1, 1) := by decide +kernel
theorem dX7_entry_1 : decode cX7_entry 1 = .ok (.ifCond .lt 12, 3) := by decide +kernel
theorem dX7_entry_4 : decode cX7_entry 4 = .ok (.iload_n 2, 1) := by decide +kernel
theorem dX7_entry_5 : decode cX7_entry 5 = .ok (.iconst 0, 1) := by decide +kernel
theorem dX7_entry_6 : decode cX7_entry 6 = .ok (.iconst 1, 1) := by decide +kernel
theorem dX7_entry_7 : decode cX7_entry 7 = .ok (.invokestatic 25, 3) := by decide +kernel
theorem dX7_entry_10 : decode cX7_entry 10 = .ok (.ifCond .ne 6, 3) := by decide +kernel
theorem dX7_entry_13 : decode cX7_entry 13 = .ok (.bipush (-2), 2) := by decide +kernel
theorem dX7_entry_15 : decode cX7_entry 15 = .ok (.ireturn, 1) := by decide +kernel
theorem dX7_entry_16 : decode cX7_entry 16 = .ok (.aload_n 0, 1) := by decide +kernel
theorem dX7_entry_17 : decode cX7_entry 17 = .ok (.invokevirtual 33, 3) := by decide +kernel
theorem dX7_entry_20 : decode cX7_entry 20 = .ok (.ifCond .eq 13, 3) := by decide +kernel
theorem dX7_entry_23 : decode cX7_entry 23 = .ok (.iload_n 1, 1) := by decide +kernel
theorem dX7_entry_24 : decode cX7_entry 24 = .ok (.aload_n 0, 1) := by decide +kernel
theorem dX7_entry_25 : decode cX7_entry 25 = .ok (.getfield 7, 3) := by decide +kernel
theorem dX7_entry_28 : decode cX7_entry 28 = .ok (.iconst 4, 1) := by decide +kernel
theorem dX7_entry_29 : decode cX7_entry 29 = .ok (.iaload, 1) := by decide +kernel
theorem dX7_entry_30 : decode cX7_entry 30 = .ok (.if_icmp .lt 6, 3) := by decide +kernel
theorem dX7_entry_33 : decode cX7_entry 33 = .ok (.bipush (-5), 2) := by decide +kernel
theorem dX7_entry_35 : decode cX7_entry 35 = .ok (.ireturn, 1) := by decide +kernel
theorem dX7_entry_36 : decode cX7_entry 36 = .ok (.aload_n 0, 1) := by decide +kernel
theorem dX7_entry_37 : decode cX7_entry 37 = .ok (.getfield 7, 3) := by decide +kernel
theorem dX7_entry_40 : decode cX7_entry 40 = .ok (.bipush 115, 2) := by decide +kernel
theorem dX7_entry_42 : decode cX7_entry 42 = .ok (.iconst 2, 1) := by decide +kernel
theorem dX7_entry_43 : decode cX7_entry 43 = .ok (.iload_n 1, 1) := by decide +kernel
theorem dX7_entry_44 : decode cX7_entry 44 = .ok (.imul, 1) := by decide +kernel
theorem dX7_entry_45 : decode cX7_entry 45 = .ok (.iadd, 1) := by decide +kernel
theorem dX7_entry_46 : decode cX7_entry 46 = .ok (.iload_n 2, 1) := by decide +kernel
theorem dX7_entry_47 : decode cX7_entry 47 = .ok (.iadd, 1) := by decide +kernel
theorem dX7_entry_48 : decode cX7_entry 48 = .ok (.iaload, 1) := by decide +kernel
theorem dX7_entry_49 : decode cX7_entry 49 = .ok (.invokestatic 77, 3) := by decide +kernel
theorem dX7_entry_52 : decode cX7_entry 52 = .ok (.ireturn, 1) := by decide +kernel
set_option maxRecDepth 20000 in
theorem ggX7_changed_X7_isKey : GoodIn wsX7_changed wsX7_isKey := goodIn_r _ [4, 5, 6, 3, 7] (by rfl) (by decide +kernel)
set_option maxRecDepth 20000 in
theorem gX7_changed_X7_isKey : GoodIn wsX7_changed (va_wsS RX7 66 yX7_isKey wsX7_isKey) := goodIn_app (goodIn_r _ [1, 2, 3] (by rfl) (by decide +kernel)) ggX7_changed_X7_isKey
set_option maxRecDepth 20000 in
theorem ggX7_changed_X7_in : GoodIn wsX7_changed wsX7_in := goodIn_r _ [7] (by rfl) (by decide +kernel)
set_option maxRecDepth 20000 in
theorem gX7_changed_X7_in : GoodIn wsX7_changed (va_wsS RX7 25 yX7_in wsX7_in) := goodIn_app (goodIn_r _ [5, 6, 3] (by rfl) (by decide +kernel)) ggX7_changed_X7_in
set_option maxRecDepth 20000 in
theorem ggX7_changed_X7_becomes : GoodIn wsX7_changed wsX7_becomes := goodIn_r _ [10] (by rfl) (by decide +kernel)
set_option maxRecDepth 20000 in
theorem gX7_changed_X7_becomes : GoodIn wsX7_changed (va_wsS RX7 45 yX7_becomes wsX7_becomes) := goodIn_app (goodIn_r _ [8, 9, 3] (by rfl) (by decide +kernel)) ggX7_changed_X7_becomes
set_option maxRecDepth 20000 in
theorem ggX7_changed_X7_outside : GoodIn wsX7_changed wsX7_outside := goodIn_r _ [13] (by rfl) (by decide +kernel)
set_option maxRecDepth 20000 in
theorem gX7_changed_X7_outside : GoodIn wsX7_changed (va_wsS RX7 77 yX7_outside wsX7_outside) := goodIn_app (goodIn_r _ [11, 12, 3] (by rfl) (by decide +kernel)) ggX7_changed_X7_outside
theorem dX7_changed_0 : decode cX7_changed 0 = .ok (.iload_n 2, 1) := by decide +kernel
theorem dX7_changed_1 : decode cX7_changed 1 = .ok (.invokestatic 66, 3) := by decide +kernel
theorem dX7_changed_4 : decode cX7_changed 4 = .ok (.ifCond .ne 5, 3) := by decide +kernel
theorem dX7_changed_7 : decode cX7_changed 7 = .ok (.iconst (-1), 1) := by decide +kernel
theorem dX7_changed_8 : decode cX7_changed 8 = .ok (.ireturn, 1) := by decide +kernel
theorem dX7_changed_9 : decode cX7_changed 9 = .ok (.iload_n 1, 1) := by decide +kernel
theorem dX7_changed_10 : decode cX7_changed 10 = .ok (.iconst 0, 1) := by decide +kernel
theorem dX7_changed_11 : decode cX7_changed 11 = .ok (.iconst 4, 1) := by decide +kernel
theorem dX7_changed_12 : decode cX7_changed 12 = .ok (.invokestatic 25, 3) := by decide +kernel
theorem dX7_changed_15 : decode cX7_changed 15 = .ok (.ifCond .eq 25, 3) := by decide +kernel
theorem dX7_changed_18 : decode cX7_changed 18 = .ok (.iload_n 3, 1) := by decide +kernel
theorem dX7_changed_19 : decode cX7_changed 19 = .ok (.iconst 0, 1) := by decide +kernel
theorem dX7_changed_20 : decode cX7_changed 20 = .ok (.bipush 99, 2) := by decide +kernel
theorem dX7_changed_22 : decode cX7_changed 22 = .ok (.invokestatic 25, 3) := by decide +kernel
theorem dX7_changed_25 : decode cX7_changed 25 = .ok (.ifCond .eq 15, 3) := by decide +kernel
theorem dX7_changed_28 : decode cX7_changed 28 = .ok (.iload_n 1, 1) := by decide +kernel
theorem dX7_changed_29 : decode cX7_changed 29 = .ok (.iload_n 2, 1) := by decide +kernel
theorem dX7_changed_30 : decode cX7_changed 30 = .ok (.iload_n 3, 1) := by decide +kernel
theorem dX7_changed_31 : decode cX7_changed 31 = .ok (.invokestatic 45, 3) := by decide +kernel
theorem dX7_changed_34 : decode cX7_changed 34 = .ok (.invokestatic 77, 3) := by decide +kernel
theorem dX7_changed_37 : decode cX7_changed 37 = .ok (.goto 5, 3) := by decide +kernel
theorem dX7_changed_40 : decode cX7_changed 40 = .ok (.bipush (-2), 2) := by decide +kernel
theorem dX7_changed_42 : decode cX7_changed 42 = .ok (.ireturn, 1) := by decide +kernel
set_option maxRecDepth 20000 in
theorem ggX7_differences_X7_isCopy : GoodIn wsX7_differences wsX7_isCopy := goodIn_r _ [5, 6, 22, 23, 24, 25, 26, 27, 28, 29, 30, 31, 32, 33, 34] (by rfl) (by decide +kernel)
set_option maxRecDepth 20000 in
theorem gX7_differences_X7_isCopy : GoodIn wsX7_differences (wsV RX7 33 RX7 yX7_isCopy wsX7_isCopy) := goodIn_app (goodIn_r _ [1, 2, 3, 4] (by rfl) (by decide +kernel)) ggX7_differences_X7_isCopy
set_option maxRecDepth 20000 in
theorem ggX7_differences_X7_differing : GoodIn wsX7_differences wsX7_differing := goodIn_r _ [10, 11, 12, 13, 4, 14, 6, 15, 16, 17, 18, 19, 20, 21, 22, 23, 24, 25, 26, 27, 28, 29, 30, 31, 32, 33, 34] (by rfl) (by decide +kernel)
set_option maxRecDepth 20000 in
theorem gX7_differences_X7_differing : GoodIn wsX7_differences (wsV RX7 186 RX7 yX7_differing wsX7_differing) := goodIn_app (goodIn_r _ [7, 8, 9, 4] (by rfl) (by decide +kernel)) ggX7_differences_X7_differing
theorem dX7_differences_0 : decode cX7_differences 0 = .ok (.aload_n 0, 1) := by decide +kernel
theorem dX7_differences_1 : decode cX7_differences 1 = .ok (.invokevirtual 33, 3) := by decide +kernel
theorem dX7_differences_4 : decode cX7_differences 4 = .ok (.ifCond .eq 11, 3) := by decide +kernel
theorem dX7_differences_7 : decode cX7_differences 7 = .ok (.aload_n 0, 1) := by decide +kernel
theorem dX7_differences_8 : decode cX7_differences 8 = .ok (.iconst 0, 1) := by decide +kernel
theorem dX7_differences_9 : decode cX7_differences 9 = .ok (.invokevirtual 186, 3) := by decide +kernel
theorem dX7_differences_12 : decode cX7_differences 12 = .ok (.goto 5, 3) := by decide +kernel
theorem dX7_differences_15 : decode cX7_differences 15 = .ok (.bipush (-5), 2) := by decide +kernel
theorem dX7_differences_17 : decode cX7_differences 17 = .ok (.ireturn, 1) := by decide +kernel
set_option maxRecDepth 20000 in
theorem ggX7_firstDifference_X7_isCopy : GoodIn wsX7_firstDifference wsX7_isCopy := goodIn_r _ [5, 6, 22, 23, 24, 25, 26, 27, 28, 29, 30, 31, 32, 33, 34] (by rfl) (by decide +kernel)
set_option maxRecDepth 20000 in
theorem gX7_firstDifference_X7_isCopy : GoodIn wsX7_firstDifference (wsV RX7 33 RX7 yX7_isCopy wsX7_isCopy) := goodIn_app (goodIn_r _ [1, 2, 3, 4] (by rfl) (by decide +kernel)) ggX7_firstDifference_X7_isCopy
set_option maxRecDepth 20000 in
theorem ggX7_firstDifference_X7_differing : GoodIn wsX7_firstDifference wsX7_differing := goodIn_r _ [10, 11, 12, 13, 4, 14, 6, 15, 16, 17, 18, 19, 20, 21, 22, 23, 24, 25, 26, 27, 28, 29, 30, 31, 32, 33, 34] (by rfl) (by decide +kernel)
set_option maxRecDepth 20000 in
theorem gX7_firstDifference_X7_differing : GoodIn wsX7_firstDifference (wsV RX7 186 RX7 yX7_differing wsX7_differing) := goodIn_app (goodIn_r _ [7, 8, 9, 4] (by rfl) (by decide +kernel)) ggX7_firstDifference_X7_differing
theorem dX7_firstDifference_0 : decode cX7_firstDifference 0 = .ok (.aload_n 0, 1) := by decide +kernel
theorem dX7_firstDifference_1 : decode cX7_firstDifference 1 = .ok (.invokevirtual 33, 3) := by decide +kernel
theorem dX7_firstDifference_4 : decode cX7_firstDifference 4 = .ok (.ifCond .eq 11, 3) := by decide +kernel
theorem dX7_firstDifference_7 : decode cX7_firstDifference 7 = .ok (.aload_n 0, 1) := by decide +kernel
theorem dX7_firstDifference_8 : decode cX7_firstDifference 8 = .ok (.iconst 1, 1) := by decide +kernel
theorem dX7_firstDifference_9 : decode cX7_firstDifference 9 = .ok (.invokevirtual 186, 3) := by decide +kernel
theorem dX7_firstDifference_12 : decode cX7_firstDifference 12 = .ok (.goto 5, 3) := by decide +kernel
theorem dX7_firstDifference_15 : decode cX7_firstDifference 15 = .ok (.bipush (-5), 2) := by decide +kernel
theorem dX7_firstDifference_17 : decode cX7_firstDifference 17 = .ok (.ireturn, 1) := by decide +kernel
set_option maxRecDepth 20000 in
theorem ggX7_setting_X7_in : GoodIn wsX7_setting wsX7_in := goodIn_r _ [5] (by rfl) (by decide +kernel)
set_option maxRecDepth 20000 in
theorem gX7_setting_X7_in : GoodIn wsX7_setting (va_wsS RX7 25 yX7_in wsX7_in) := goodIn_app (goodIn_r _ [2, 3, 4] (by rfl) (by decide +kernel)) ggX7_setting_X7_in
theorem dX7_setting_0 : decode cX7_setting 0 = .ok (.iload_n 1, 1) := by decide +kernel
theorem dX7_setting_1 : decode cX7_setting 1 = .ok (.iconst 0, 1) := by decide +kernel
theorem dX7_setting_2 : decode cX7_setting 2 = .ok (.iconst 3, 1) := by decide +kernel
theorem dX7_setting_3 : decode cX7_setting 3 = .ok (.invokestatic 25, 3) := by decide +kernel
theorem dX7_setting_6 : decode cX7_setting 6 = .ok (.ifCond .eq 15, 3) := by decide +kernel
theorem dX7_setting_9 : decode cX7_setting 9 = .ok (.aload_n 0, 1) := by decide +kernel
theorem dX7_setting_10 : decode cX7_setting 10 = .ok (.getfield 7, 3) := by decide +kernel
theorem dX7_setting_13 : decode cX7_setting 13 = .ok (.bipush 7, 2) := by decide +kernel
theorem dX7_setting_15 : decode cX7_setting 15 = .ok (.iload_n 1, 1) := by decide +kernel
theorem dX7_setting_16 : decode cX7_setting 16 = .ok (.iadd, 1) := by decide +kernel
theorem dX7_setting_17 : decode cX7_setting 17 = .ok (.iaload, 1) := by decide +kernel
theorem dX7_setting_18 : decode cX7_setting 18 = .ok (.goto 4, 3) := by decide +kernel
theorem dX7_setting_21 : decode cX7_setting 21 = .ok (.iconst (-1), 1) := by decide +kernel
theorem dX7_setting_22 : decode cX7_setting 22 = .ok (.ireturn, 1) := by decide +kernel
set_option maxRecDepth 20000 in
theorem ggX7_total_X7_in : GoodIn wsX7_total wsX7_in := goodIn_r _ [5] (by rfl) (by decide +kernel)
set_option maxRecDepth 20000 in
theorem gX7_total_X7_in : GoodIn wsX7_total (va_wsS RX7 25 yX7_in wsX7_in) := goodIn_app (goodIn_r _ [2, 3, 4] (by rfl) (by decide +kernel)) ggX7_total_X7_in
theorem dX7_total_0 : decode cX7_total 0 = .ok (.iload_n 1, 1) := by decide +kernel
theorem dX7_total_1 : decode cX7_total 1 = .ok (.iconst 0, 1) := by decide +kernel
theorem dX7_total_2 : decode cX7_total 2 = .ok (.bipush 7, 2) := by decide +kernel
theorem dX7_total_4 : decode cX7_total 4 = .ok (.invokestatic 25, 3) := by decide +kernel
theorem dX7_total_7 : decode cX7_total 7 = .ok (.ifCond .eq 15, 3) := by decide +kernel
theorem dX7_total_10 : decode cX7_total 10 = .ok (.aload_n 0, 1) := by decide +kernel
theorem dX7_total_11 : decode cX7_total 11 = .ok (.getfield 7, 3) := by decide +kernel
theorem dX7_total_14 : decode cX7_total 14 = .ok (.bipush 11, 2) := by decide +kernel
theorem dX7_total_16 : decode cX7_total 16 = .ok (.iload_n 1, 1) := by decide +kernel
theorem dX7_total_17 : decode cX7_total 17 = .ok (.iadd, 1) := by decide +kernel
theorem dX7_total_18 : decode cX7_total 18 = .ok (.iaload, 1) := by decide +kernel
theorem dX7_total_19 : decode cX7_total 19 = .ok (.goto 4, 3) := by decide +kernel
theorem dX7_total_22 : decode cX7_total 22 = .ok (.iconst (-1), 1) := by decide +kernel
theorem dX7_total_23 : decode cX7_total 23 = .ok (.ireturn, 1) := by decide +kernel
theorem dX7_states_0 : decode cX7_states 0 = .ok (.aload_n 0, 1) := by decide +kernel
theorem dX7_states_1 : decode cX7_states 1 = .ok (.getfield 37, 3) := by decide +kernel
theorem dX7_states_4 : decode cX7_states 4 = .ok (.ireturn, 1) := by decide +kernel
theorem dX7_isReady_0 : decode cX7_isReady 0 = .ok (.aload_n 0, 1) := by decide +kernel
theorem dX7_isReady_1 : decode cX7_isReady 1 = .ok (.getfield 7, 3) := by decide +kernel
theorem dX7_isReady_4 : decode cX7_isReady 4 = .ok (.iconst 0, 1) := by decide +kernel
theorem dX7_isReady_5 : decode cX7_isReady 5 = .ok (.iaload, 1) := by decide +kernel
theorem dX7_isReady_6 : decode cX7_isReady 6 = .ok (.iconst 2, 1) := by decide +kernel
theorem dX7_isReady_7 : decode cX7_isReady 7 = .ok (.if_icmp .ne 16, 3) := by decide +kernel
theorem dX7_isReady_10 : decode cX7_isReady 10 = .ok (.aload_n 0, 1) := by decide +kernel
theorem dX7_isReady_11 : decode cX7_isReady 11 = .ok (.getfield 7, 3) := by decide +kernel
theorem dX7_isReady_14 : decode cX7_isReady 14 = .ok (.iconst 4, 1) := by decide +kernel
theorem dX7_isReady_15 : decode cX7_isReady 15 = .ok (.iaload, 1) := by decide +kernel
theorem dX7_isReady_16 : decode cX7_isReady 16 = .ok (.ifCond .ne 7, 3) := by decide +kernel
theorem dX7_isReady_19 : decode cX7_isReady 19 = .ok (.iconst 1, 1) := by decide +kernel
theorem dX7_isReady_20 : decode cX7_isReady 20 = .ok (.goto 4, 3) := by decide +kernel
theorem dX7_isReady_23 : decode cX7_isReady 23 = .ok (.iconst 0, 1) := by decide +kernel
theorem dX7_isReady_24 : decode cX7_isReady 24 = .ok (.ireturn, 1) := by decide +kernel
set_option maxRecDepth 20000 in
theorem ggX7_until_X7_copyAll : GoodIn wsX7_until wsX7_copyAll := goodIn_r _ [6] (by rfl) (by decide +kernel)
set_option maxRecDepth 20000 in
theorem gX7_until_X7_copyAll : GoodIn wsX7_until (va_wsS RX7 41 yX7_copyAll wsX7_copyAll) := goodIn_app (goodIn_r _ [3, 4, 5] (by rfl) (by decide +kernel)) ggX7_until_X7_copyAll
set_option maxRecDepth 20000 in
theorem ggX7_until_X7_isReady : GoodIn wsX7_until wsX7_isReady := goodIn_r _ [10, 1, 42, 43, 44, 45, 46, 47, 48, 49, 50, 51, 52, 53, 54] (by rfl) (by decide +kernel)
set_option maxRecDepth 20000 in
theorem gX7_until_X7_isReady : GoodIn wsX7_until (wsV RX7 190 RX7 yX7_isReady wsX7_isReady) := goodIn_app (goodIn_r _ [7, 8, 9, 5] (by rfl) (by decide +kernel)) ggX7_until_X7_isReady
set_option maxRecDepth 20000 in
theorem ggX7_until_X7_tickOnce : GoodIn wsX7_until wsX7_tickOnce := goodIn_r _ [14, 1, 15, 16, 17, 5, 18, 19, 20, 21, 22, 23, 24, 25, 26, 27, 28, 29, 30, 31, 32, 33, 34, 35, 36, 37, 38, 39, 40, 41, 42, 43, 44, 45, 46, 47, 48, 49, 50, 51, 52, 53, 54] (by rfl) (by decide +kernel)
set_option maxRecDepth 20000 in
theorem gX7_until_X7_tickOnce : GoodIn wsX7_until (wsV RX7 86 RX7 yX7_tickOnce wsX7_tickOnce) := goodIn_app (goodIn_r _ [11, 12, 13, 5] (by rfl) (by decide +kernel)) ggX7_until_X7_tickOnce
theorem dX7_until_0 : decode cX7_until 0 = .ok (.aload_n 0, 1) := by decide +kernel
theorem dX7_until_1 : decode cX7_until 1 = .ok (.getfield 7, 3) := by decide +kernel
theorem dX7_until_4 : decode cX7_until 4 = .ok (.iconst 0, 1) := by decide +kernel
theorem dX7_until_5 : decode cX7_until 5 = .ok (.aload_n 0, 1) := by decide +kernel
theorem dX7_until_6 : decode cX7_until 6 = .ok (.getfield 19, 3) := by decide +kernel
theorem dX7_until_9 : decode cX7_until 9 = .ok (.iconst 0, 1) := by decide +kernel
theorem dX7_until_10 : decode cX7_until 10 = .ok (.invokestatic 41, 3) := by decide +kernel
theorem dX7_until_13 : decode cX7_until 13 = .ok (.aload_n 0, 1) := by decide +kernel
theorem dX7_until_14 : decode cX7_until 14 = .ok (.getfield 7, 3) := by decide +kernel
theorem dX7_until_17 : decode cX7_until 17 = .ok (.iconst 2, 1) := by decide +kernel
theorem dX7_until_18 : decode cX7_until 18 = .ok (.iload_n 2, 1) := by decide +kernel
theorem dX7_until_19 : decode cX7_until 19 = .ok (.iastore, 1) := by decide +kernel
theorem dX7_until_20 : decode cX7_until 20 = .ok (.iconst 0, 1) := by decide +kernel
theorem dX7_until_21 : decode cX7_until 21 = .ok (.istore_n 3, 1) := by decide +kernel
theorem dX7_until_22 : decode cX7_until 22 = .ok (.iload_n 3, 1) := by decide +kernel
theorem dX7_until_23 : decode cX7_until 23 = .ok (.iload_n 1, 1) := by decide +kernel
theorem dX7_until_24 : decode cX7_until 24 = .ok (.if_icmp .ge 20, 3) := by decide +kernel
theorem dX7_until_27 : decode cX7_until 27 = .ok (.aload_n 0, 1) := by decide +kernel
theorem dX7_until_28 : decode cX7_until 28 = .ok (.invokevirtual 190, 3) := by decide +kernel
theorem dX7_until_31 : decode cX7_until 31 = .ok (.ifCond .ne 13, 3) := by decide +kernel
theorem dX7_until_34 : decode cX7_until 34 = .ok (.aload_n 0, 1) := by decide +kernel
theorem dX7_until_35 : decode cX7_until 35 = .ok (.invokevirtual 86, 3) := by decide +kernel
theorem dX7_until_38 : decode cX7_until 38 = .ok (.iinc 3 1, 3) := by decide +kernel
theorem dX7_until_41 : decode cX7_until 41 = .ok (.goto (-19), 3) := by decide +kernel
theorem dX7_until_44 : decode cX7_until 44 = .ok (.aload_n 0, 1) := by decide +kernel
theorem dX7_until_45 : decode cX7_until 45 = .ok (.invokevirtual 190, 3) := by decide +kernel
theorem dX7_until_48 : decode cX7_until 48 = .ok (.istore 4, 2) := by decide +kernel
theorem dX7_until_50 : decode cX7_until 50 = .ok (.aload_n 0, 1) := by decide +kernel
theorem dX7_until_51 : decode cX7_until 51 = .ok (.getfield 19, 3) := by decide +kernel
theorem dX7_until_54 : decode cX7_until 54 = .ok (.iconst 0, 1) := by decide +kernel
theorem dX7_until_55 : decode cX7_until 55 = .ok (.aload_n 0, 1) := by decide +kernel
theorem dX7_until_56 : decode cX7_until 56 = .ok (.getfield 7, 3) := by decide +kernel
theorem dX7_until_59 : decode cX7_until 59 = .ok (.iconst 0, 1) := by decide +kernel
theorem dX7_until_60 : decode cX7_until 60 = .ok (.invokestatic 41, 3) := by decide +kernel
theorem dX7_until_63 : decode cX7_until 63 = .ok (.iload 4, 2) := by decide +kernel
theorem dX7_until_65 : decode cX7_until 65 = .ok (.ifCond .eq 7, 3) := by decide +kernel
theorem dX7_until_68 : decode cX7_until 68 = .ok (.iload_n 3, 1) := by decide +kernel
theorem dX7_until_69 : decode cX7_until 69 = .ok (.goto 5, 3) := by decide +kernel
theorem dX7_until_72 : decode cX7_until 72 = .ok (.bipush (-5), 2) := by decide +kernel
theorem dX7_until_74 : decode cX7_until 74 = .ok (.ireturn, 1) := by decide +kernel
theorem dX7_canAsk_0 : decode cX7_canAsk 0 = .ok (.aload_n 0, 1) := by decide +kernel
theorem dX7_canAsk_1 : decode cX7_canAsk 1 = .ok (.getfield 7, 3) := by decide +kernel
theorem dX7_canAsk_4 : decode cX7_canAsk 4 = .ok (.iconst 0, 1) := by decide +kernel
theorem dX7_canAsk_5 : decode cX7_canAsk 5 = .ok (.iaload, 1) := by decide +kernel
theorem dX7_canAsk_6 : decode cX7_canAsk 6 = .ok (.iconst 1, 1) := by decide +kernel
theorem dX7_canAsk_7 : decode cX7_canAsk 7 = .ok (.if_icmp .eq 13, 3) := by decide +kernel
theorem dX7_canAsk_10 : decode cX7_canAsk 10 = .ok (.aload_n 0, 1) := by decide +kernel
theorem dX7_canAsk_11 : decode cX7_canAsk 11 = .ok (.getfield 7, 3) := by decide +kernel
theorem dX7_canAsk_14 : decode cX7_canAsk 14 = .ok (.iconst 0, 1) := by decide +kernel
theorem dX7_canAsk_15 : decode cX7_canAsk 15 = .ok (.iaload, 1) := by decide +kernel
theorem dX7_canAsk_16 : decode cX7_canAsk 16 = .ok (.iconst 2, 1) := by decide +kernel
theorem dX7_canAsk_17 : decode cX7_canAsk 17 = .ok (.if_icmp .ne 7, 3) := by decide +kernel
theorem dX7_canAsk_20 : decode cX7_canAsk 20 = .ok (.iconst 1, 1) := by decide +kernel
theorem dX7_canAsk_21 : decode cX7_canAsk 21 = .ok (.goto 4, 3) := by decide +kernel
theorem dX7_canAsk_24 : decode cX7_canAsk 24 = .ok (.iconst 0, 1) := by decide +kernel
theorem dX7_canAsk_25 : decode cX7_canAsk 25 = .ok (.ireturn, 1) := by decide +kernel
set_option maxRecDepth 20000 in
theorem ggX7_readyIn_X7_canAsk : GoodIn wsX7_readyIn wsX7_canAsk := goodIn_r _ [6, 1, 50, 51, 52, 53, 54, 55, 56, 57, 58, 59, 60, 61, 62] (by rfl) (by decide +kernel)
set_option maxRecDepth 20000 in
theorem gX7_readyIn_X7_canAsk : GoodIn wsX7_readyIn (wsV RX7 193 RX7 yX7_canAsk wsX7_canAsk) := goodIn_app (goodIn_r _ [2, 3, 4, 5] (by rfl) (by decide +kernel)) ggX7_readyIn_X7_canAsk
set_option maxRecDepth 20000 in
theorem ggX7_readyIn_X7_until : GoodIn wsX7_readyIn wsX7_until := goodIn_r _ [10, 1, 11, 12, 13, 5, 14, 15, 16, 17, 18, 19, 20, 21, 22, 23, 24, 25, 26, 27, 28, 29, 30, 31, 32, 33, 34, 35, 36, 37, 38, 39, 40, 41, 42, 43, 44, 45, 46, 47, 48, 49, 50, 51, 52, 53, 54, 55, 56, 57, 58, 59, 60, 61, 62] (by rfl) (by decide +kernel)
set_option maxRecDepth 20000 in
theorem gX7_readyIn_X7_until : GoodIn wsX7_readyIn (wsV RX7 196 RX7 yX7_until wsX7_until) := goodIn_app (goodIn_r _ [7, 8, 9, 5] (by rfl) (by decide +kernel)) ggX7_readyIn_X7_until
theorem dX7_readyIn_0 : decode cX7_readyIn 0 = .ok (.aload_n 0, 1) := by decide +kernel
theorem dX7_readyIn_1 : decode cX7_readyIn 1 = .ok (.invokevirtual 193, 3) := by decide +kernel
theorem dX7_readyIn_4 : decode cX7_readyIn 4 = .ok (.ifCond .eq 19, 3) := by decide +kernel
theorem dX7_readyIn_7 : decode cX7_readyIn 7 = .ok (.aload_n 0, 1) := by decide +kernel
theorem dX7_readyIn_8 : decode cX7_readyIn 8 = .ok (.sipush 200, 3) := by decide +kernel
theorem dX7_readyIn_11 : decode cX7_readyIn 11 = .ok (.aload_n 0, 1) := by decide +kernel
theorem dX7_readyIn_12 : decode cX7_readyIn 12 = .ok (.getfield 7, 3) := by decide +kernel
theorem dX7_readyIn_15 : decode cX7_readyIn 15 = .ok (.iconst 2, 1) := by decide +kernel
theorem dX7_readyIn_16 : decode cX7_readyIn 16 = .ok (.iaload, 1) := by decide +kernel
theorem dX7_readyIn_17 : decode cX7_readyIn 17 = .ok (.invokevirtual 196, 3) := by decide +kernel
theorem dX7_readyIn_20 : decode cX7_readyIn 20 = .ok (.goto 5, 3) := by decide +kernel
theorem dX7_readyIn_23 : decode cX7_readyIn 23 = .ok (.bipush (-4), 2) := by decide +kernel
theorem dX7_readyIn_25 : decode cX7_readyIn 25 = .ok (.ireturn, 1) := by decide +kernel
set_option maxRecDepth 20000 in
theorem ggX7_leastLot_X7_in : GoodIn wsX7_leastLot wsX7_in := goodIn_r _ [4] (by rfl) (by decide +kernel)
set_option maxRecDepth 20000 in
theorem gX7_leastLot_X7_in : GoodIn wsX7_leastLot (va_wsS RX7 25 yX7_in wsX7_in) := goodIn_app (goodIn_r _ [1, 2, 3] (by rfl) (by decide +kernel)) ggX7_leastLot_X7_in
set_option maxRecDepth 20000 in
theorem ggX7_leastLot_X7_canAsk : GoodIn wsX7_leastLot wsX7_canAsk := goodIn_r _ [8, 9, 53, 54, 55, 56, 57, 58, 59, 60, 61, 62, 63, 64, 65] (by rfl) (by decide +kernel)
set_option maxRecDepth 20000 in
theorem gX7_leastLot_X7_canAsk : GoodIn wsX7_leastLot (wsV RX7 193 RX7 yX7_canAsk wsX7_canAsk) := goodIn_app (goodIn_r _ [5, 6, 7, 3] (by rfl) (by decide +kernel)) ggX7_leastLot_X7_canAsk
set_option maxRecDepth 20000 in
theorem ggX7_leastLot_X7_until : GoodIn wsX7_leastLot wsX7_until := goodIn_r _ [13, 9, 14, 15, 16, 3, 17, 18, 19, 20, 21, 22, 23, 24, 25, 26, 27, 28, 29, 30, 31, 32, 33, 34, 35, 36, 37, 38, 39, 40, 41, 42, 43, 44, 45, 46, 47, 48, 49, 50, 51, 52, 53, 54, 55, 56, 57, 58, 59, 60, 61, 62, 63, 64, 65] (by rfl) (by decide +kernel)
set_option maxRecDepth 20000 in
theorem gX7_leastLot_X7_until : GoodIn wsX7_leastLot (wsV RX7 196 RX7 yX7_until wsX7_until) := goodIn_app (goodIn_r _ [10, 11, 12, 3] (by rfl) (by decide +kernel)) ggX7_leastLot_X7_until
theorem dX7_leastLot_0 : decode cX7_leastLot 0 = .ok (.iload_n 1, 1) := by decide +kernel
theorem dX7_leastLot_1 : decode cX7_leastLot 1 = .ok (.iconst 1, 1) := by decide +kernel
theorem dX7_leastLot_2 : decode cX7_leastLot 2 = .ok (.bipush 99, 2) := by decide +kernel
theorem dX7_leastLot_4 : decode cX7_leastLot 4 = .ok (.invokestatic 25, 3) := by decide +kernel
theorem dX7_leastLot_7 : decode cX7_leastLot 7 = .ok (.ifCond .ne 6, 3) := by decide +kernel
theorem dX7_leastLot_10 : decode cX7_leastLot 10 = .ok (.bipush (-2), 2) := by decide +kernel
theorem dX7_leastLot_12 : decode cX7_leastLot 12 = .ok (.ireturn, 1) := by decide +kernel
theorem dX7_leastLot_13 : decode cX7_leastLot 13 = .ok (.aload_n 0, 1) := by decide +kernel
theorem dX7_leastLot_14 : decode cX7_leastLot 14 = .ok (.invokevirtual 193, 3) := by decide +kernel
theorem dX7_leastLot_17 : decode cX7_leastLot 17 = .ok (.ifCond .ne 6, 3) := by decide +kernel
theorem dX7_leastLot_20 : decode cX7_leastLot 20 = .ok (.bipush (-4), 2) := by decide +kernel
theorem dX7_leastLot_22 : decode cX7_leastLot 22 = .ok (.ireturn, 1) := by decide +kernel
theorem dX7_leastLot_23 : decode cX7_leastLot 23 = .ok (.iconst 1, 1) := by decide +kernel
theorem dX7_leastLot_24 : decode cX7_leastLot 24 = .ok (.istore_n 2, 1) := by decide +kernel
theorem dX7_leastLot_25 : decode cX7_leastLot 25 = .ok (.iload_n 2, 1) := by decide +kernel
theorem dX7_leastLot_26 : decode cX7_leastLot 26 = .ok (.bipush 8, 2) := by decide +kernel
theorem dX7_leastLot_28 : decode cX7_leastLot 28 = .ok (.if_icmp .gt 22, 3) := by decide +kernel
theorem dX7_leastLot_31 : decode cX7_leastLot 31 = .ok (.aload_n 0, 1) := by decide +kernel
theorem dX7_leastLot_32 : decode cX7_leastLot 32 = .ok (.iload_n 1, 1) := by decide +kernel
theorem dX7_leastLot_33 : decode cX7_leastLot 33 = .ok (.iload_n 2, 1) := by decide +kernel
theorem dX7_leastLot_34 : decode cX7_leastLot 34 = .ok (.invokevirtual 196, 3) := by decide +kernel
theorem dX7_leastLot_37 : decode cX7_leastLot 37 = .ok (.bipush (-5), 2) := by decide +kernel
theorem dX7_leastLot_39 : decode cX7_leastLot 39 = .ok (.if_icmp .eq 5, 3) := by decide +kernel
theorem dX7_leastLot_42 : decode cX7_leastLot 42 = .ok (.iload_n 2, 1) := by decide +kernel
theorem dX7_leastLot_43 : decode cX7_leastLot 43 = .ok (.ireturn, 1) := by decide +kernel
theorem dX7_leastLot_44 : decode cX7_leastLot 44 = .ok (.iinc 2 1, 3) := by decide +kernel
theorem dX7_leastLot_47 : decode cX7_leastLot 47 = .ok (.goto (-22), 3) := by decide +kernel
theorem dX7_leastLot_50 : decode cX7_leastLot 50 = .ok (.bipush (-5), 2) := by decide +kernel
theorem dX7_leastLot_52 : decode cX7_leastLot 52 = .ok (.ireturn, 1) := by decide +kernel
set_option maxRecDepth 20000 in
theorem ggX7_progress_X7_isCopy : GoodIn wsX7_progress wsX7_isCopy := goodIn_r _ [7, 1, 8, 9, 10, 11, 12, 13, 14, 15, 16, 17, 18, 19, 20] (by rfl) (by decide +kernel)
set_option maxRecDepth 20000 in
theorem gX7_progress_X7_isCopy : GoodIn wsX7_progress (wsV RX7 33 RX7 yX7_isCopy wsX7_isCopy) := goodIn_app (goodIn_r _ [3, 4, 5, 6] (by rfl) (by decide +kernel)) ggX7_progress_X7_isCopy
theorem dX7_progress_0 : decode cX7_progress 0 = .ok (.aload_n 0, 1) := by decide +kernel
theorem dX7_progress_1 : decode cX7_progress 1 = .ok (.invokevirtual 33, 3) := by decide +kernel
theorem dX7_progress_4 : decode cX7_progress 4 = .ok (.ifCond .eq 17, 3) := by decide +kernel
theorem dX7_progress_7 : decode cX7_progress 7 = .ok (.aload_n 0, 1) := by decide +kernel
theorem dX7_progress_8 : decode cX7_progress 8 = .ok (.getfield 7, 3) := by decide +kernel
theorem dX7_progress_11 : decode cX7_progress 11 = .ok (.iconst 3, 1) := by decide +kernel
theorem dX7_progress_12 : decode cX7_progress 12 = .ok (.iaload, 1) := by decide +kernel
theorem dX7_progress_13 : decode cX7_progress 13 = .ok (.i2d, 1) := by decide +kernel
theorem dX7_progress_14 : decode cX7_progress 14 = .ok (.ldc2_w 199, 3) := by decide +kernel
theorem dX7_progress_17 : decode cX7_progress 17 = .ok (.ddiv, 1) := by decide +kernel
theorem dX7_progress_18 : decode cX7_progress 18 = .ok (.goto 4, 3) := by decide +kernel
theorem dX7_progress_21 : decode cX7_progress 21 = .ok (.dconst 0, 1) := by decide +kernel
theorem dX7_progress_22 : decode cX7_progress 22 = .ok (.dreturn, 1) := by decide +kernel
theorem dJ7_fill_53178_0 : decode cJ7_fill_53178 0 = .ok (.iconst 0, 1) := by decide +kernel
theorem dJ7_fill_53178_1 : decode cJ7_fill_53178 1 = .ok (.istore_n 2, 1) := by decide +kernel
theorem dJ7_fill_53178_2 : decode cJ7_fill_53178 2 = .ok (.aload_n 0, 1) := by decide +kernel
theorem dJ7_fill_53178_3 : decode cJ7_fill_53178 3 = .ok (.arraylength, 1) := by decide +kernel
theorem dJ7_fill_53178_4 : decode cJ7_fill_53178 4 = .ok (.istore_n 3, 1) := by decide +kernel
theorem dJ7_fill_53178_5 : decode cJ7_fill_53178 5 = .ok (.iload_n 2, 1) := by decide +kernel
theorem dJ7_fill_53178_6 : decode cJ7_fill_53178 6 = .ok (.iload_n 3, 1) := by decide +kernel
theorem dJ7_fill_53178_7 : decode cJ7_fill_53178 7 = .ok (.if_icmp .ge 13, 3) := by decide +kernel
theorem dJ7_fill_53178_10 : decode cJ7_fill_53178 10 = .ok (.aload_n 0, 1) := by decide +kernel
theorem dJ7_fill_53178_11 : decode cJ7_fill_53178 11 = .ok (.iload_n 2, 1) := by decide +kernel
theorem dJ7_fill_53178_12 : decode cJ7_fill_53178 12 = .ok (.iload_n 1, 1) := by decide +kernel
theorem dJ7_fill_53178_13 : decode cJ7_fill_53178 13 = .ok (.iastore, 1) := by decide +kernel
theorem dJ7_fill_53178_14 : decode cJ7_fill_53178 14 = .ok (.iinc 2 1, 3) := by decide +kernel
theorem dJ7_fill_53178_17 : decode cJ7_fill_53178 17 = .ok (.goto (-12), 3) := by decide +kernel
theorem dJ7_fill_53178_20 : decode cJ7_fill_53178 20 = .ok (.return_, 1) := by decide +kernel
set_option maxRecDepth 20000 in
theorem ggL_law_X6_init : GoodIn wsL_law wsX6_init := goodIn_r _ [8, 9, 10, 11, 12, 13, 14, 15, 16, 17, 18, 19, 20, 21, 22, 23, 24, 25, 26, 27, 28, 29, 30, 31, 32, 33, 34, 35, 36, 37, 38, 39, 40, 41, 42, 43, 44, 45, 46, 47, 48, 49, 50, 51, 52, 53, 54, 55, 56, 57, 58, 59, 60, 61, 62, 63, 64, 65, 66, 67, 68, 69, 70, 71, 72, 73, 74, 75, 816, 817, 818, 819, 820, 821, 797, 798, 799, 800, 801, 802, 822, 823, 824, 825, 826, 827, 828, 829, 830, 831, 832, 833, 834, 835, 836, 837, 838, 839, 840, 841, 842, 843] (by rfl) (by decide +kernel)
set_option maxRecDepth 20000 in
theorem gL_law_X6_init : GoodIn wsL_law (wsX6_init) := ggL_law_X6_init
set_option maxRecDepth 20000 in
theorem ggL_law_X7_init : GoodIn wsL_law wsX7_init := goodIn_r _ [78, 79, 10, 11, 38, 80, 81, 82, 83, 84, 803, 804, 805, 806, 807, 808, 809, 810, 811, 812, 813, 814, 815] (by rfl) (by decide +kernel)
set_option maxRecDepth 20000 in
theorem gL_law_X7_init : GoodIn wsL_law (wsX7_init) := ggL_law_X7_init
set_option maxRecDepth 20000 in
theorem ggL_law_X6_put : GoodIn wsL_law wsX6_put := goodIn_r _ [88, 21, 15, 89, 90, 91, 20, 92, 71, 93, 94, 95, 96, 97, 98, 99, 100, 101, 14, 102, 32, 33, 103, 37, 39, 104, 105, 106, 107, 40, 108, 109, 110, 31, 111, 45, 112, 113, 114, 115, 36, 116, 54, 58, 59, 117, 118, 119, 120, 121, 122, 123, 124, 57, 125, 64, 126, 65, 127, 128, 129, 130, 131, 132, 133, 2, 134, 135, 136, 137, 138, 139, 140, 141, 142, 143, 144, 145, 146, 147, 148, 149, 150, 151, 152, 153, 154, 155, 156, 157, 158, 159, 160, 161, 162, 163, 164, 165, 166, 167, 168, 169, 170, 171, 172, 173, 174, 175, 176, 177, 178, 797, 798, 799, 800, 801, 802, 822, 823, 824, 816, 817, 818, 819, 820, 821, 832, 833, 834, 835, 836, 837, 838, 839, 840, 841, 842, 843] (by rfl) (by decide +kernel)
set_option maxRecDepth 20000 in
theorem gL_law_X6_put : GoodIn wsL_law (wsV RL 13 RX6 yX6_put wsX6_put) := goodIn_app (goodIn_r _ [85, 86, 87, 2] (by rfl) (by decide +kernel)) ggL_law_X6_put
set_option maxRecDepth 20000 in
theorem ggL_law_X7_put : GoodIn wsL_law wsX7_put := goodIn_r _ [182, 183, 184, 185, 5, 186, 187, 188, 189, 190, 191, 192, 193, 194, 195, 196, 80, 197, 198, 199, 200, 201, 202, 203, 204, 205, 206, 207, 208, 209, 81, 210, 211, 212, 213, 214, 215, 216, 217, 218, 219, 220, 221, 222, 223, 224, 225, 226, 227, 228, 229, 230, 231, 803, 804, 805, 806, 807, 808, 809, 810, 811, 812, 813, 814, 815] (by rfl) (by decide +kernel)
set_option maxRecDepth 20000 in
theorem gL_law_X7_put : GoodIn wsL_law (wsV RL 17 RX7 yX7_put wsX7_put) := goodIn_app (goodIn_r _ [179, 180, 181, 5] (by rfl) (by decide +kernel)) ggL_law_X7_put
set_option maxRecDepth 20000 in
theorem ggL_law_X6_erase : GoodIn wsL_law wsX6_erase := goodIn_r _ [235, 21, 15, 89, 90, 91, 20, 92, 71, 93, 94, 95, 96, 97, 98, 99, 100, 101, 14, 102, 32, 33, 103, 37, 39, 104, 105, 106, 107, 40, 108, 109, 110, 31, 111, 45, 112, 113, 114, 115, 36, 116, 54, 58, 59, 117, 118, 119, 120, 121, 122, 123, 124, 57, 125, 64, 126, 65, 127, 128, 236, 237, 238, 239, 133, 2, 134, 135, 136, 137, 160, 161, 162, 163, 140, 141, 142, 143, 144, 145, 146, 147, 148, 149, 150, 151, 152, 153, 154, 155, 156, 157, 158, 159, 164, 165, 166, 167, 168, 169, 170, 171, 172, 173, 174, 175, 176, 177, 178, 797, 798, 799, 800, 801, 802, 822, 823, 824, 816, 817, 818, 819, 820, 821, 832, 833, 834, 835, 836, 837, 838, 839, 840, 841, 842, 843] (by rfl) (by decide +kernel)
set_option maxRecDepth 20000 in
theorem gL_law_X6_erase : GoodIn wsL_law (wsV RL 18 RX6 yX6_erase wsX6_erase) := goodIn_app (goodIn_r _ [232, 233, 234, 2] (by rfl) (by decide +kernel)) ggL_law_X6_erase
set_option maxRecDepth 20000 in
theorem ggL_law_X7_erase : GoodIn wsL_law wsX7_erase := goodIn_r _ [243, 244, 245, 246, 5, 247, 80, 187, 188, 189, 190, 191, 192, 217, 218, 219, 220, 193, 194, 195, 196, 197, 198, 199, 200, 201, 202, 203, 204, 205, 206, 207, 208, 209, 81, 210, 211, 212, 248, 249, 250, 251, 213, 214, 215, 216, 221, 222, 223, 224, 225, 226, 227, 228, 229, 230, 231, 803, 804, 805, 806, 807, 808, 809, 810, 811, 812, 813, 814, 815] (by rfl) (by decide +kernel)
set_option maxRecDepth 20000 in
theorem gL_law_X7_erase : GoodIn wsL_law (wsV RL 22 RX7 yX7_erase wsX7_erase) := goodIn_app (goodIn_r _ [240, 241, 242, 5] (by rfl) (by decide +kernel)) ggL_law_X7_erase
set_option maxRecDepth 20000 in
theorem ggL_law_X6_begin : GoodIn wsL_law wsX6_begin := goodIn_r _ [255, 21, 15, 89, 90, 91, 20, 92, 71, 93, 94, 95, 96, 97, 98, 99, 100, 101, 14, 102, 32, 33, 103, 37, 39, 104, 105, 106, 107, 40, 108, 109, 110, 31, 111, 45, 112, 113, 114, 115, 36, 116, 54, 58, 59, 117, 118, 119, 120, 121, 122, 123, 124, 57, 125, 64, 126, 65, 127, 128, 256, 257, 258, 259, 260, 2, 261, 135, 136, 137, 262, 263, 144, 145, 146, 147, 264, 265, 266, 267, 268, 269, 270, 271, 46, 47, 48, 49, 272, 273, 274, 275, 276, 277, 278, 279, 168, 169, 170, 171, 172, 173, 174, 175, 176, 177, 178, 797, 798, 799, 800, 801, 802, 822, 823, 824, 816, 817, 818, 819, 820, 821, 832, 833, 834, 835, 836, 837, 838, 839, 840, 841, 842, 843] (by rfl) (by decide +kernel)
set_option maxRecDepth 20000 in
theorem gL_law_X6_begin : GoodIn wsL_law (wsV RL 23 RX6 yX6_begin wsX6_begin) := goodIn_app (goodIn_r _ [252, 253, 254, 2] (by rfl) (by decide +kernel)) ggL_law_X6_begin
set_option maxRecDepth 20000 in
theorem ggL_law_X7_begin : GoodIn wsL_law wsX7_begin := goodIn_r _ [283, 284, 285, 286, 5, 287, 190, 191, 192, 201, 202, 203, 204, 80, 205, 206, 207, 208, 209, 81, 210, 211, 212, 288, 289, 290, 291, 225, 226, 227, 228, 292, 293, 294, 295, 217, 218, 219, 220, 803, 804, 805, 806, 807, 808, 809, 810, 811, 812, 813, 814, 815] (by rfl) (by decide +kernel)
set_option maxRecDepth 20000 in
theorem gL_law_X7_begin : GoodIn wsL_law (wsV RL 26 RX7 yX7_begin wsX7_begin) := goodIn_app (goodIn_r _ [280, 281, 282, 5] (by rfl) (by decide +kernel)) ggL_law_X7_begin
set_option maxRecDepth 20000 in
theorem ggL_law_X6_tick : GoodIn wsL_law wsX6_tick := goodIn_r _ [299, 21, 15, 89, 90, 91, 20, 92, 71, 93, 94, 95, 96, 97, 98, 99, 100, 101, 14, 102, 32, 33, 103, 37, 39, 104, 105, 106, 107, 40, 108, 109, 110, 31, 111, 45, 112, 113, 114, 115, 36, 116, 54, 58, 59, 117, 118, 119, 120, 121, 122, 123, 124, 57, 125, 64, 126, 65, 127, 128, 300, 301, 302, 303, 304, 2, 305, 135, 136, 137, 306, 307, 308, 309, 144, 145, 146, 147, 310, 311, 312, 313, 314, 315, 316, 317, 318, 319, 320, 321, 152, 153, 154, 155, 322, 323, 324, 325, 326, 327, 164, 165, 166, 167, 328, 329, 330, 331, 332, 333, 334, 335, 160, 161, 162, 163, 336, 337, 338, 339, 340, 341, 168, 169, 170, 171, 172, 173, 174, 175, 176, 177, 178, 797, 798, 799, 800, 801, 802, 822, 823, 824, 816, 817, 818, 819, 820, 821, 832, 833, 834, 835, 836, 837, 838, 839, 840, 841, 842, 843] (by rfl) (by decide +kernel)
set_option maxRecDepth 20000 in
theorem gL_law_X6_tick : GoodIn wsL_law (wsV RL 27 RX6 yX6_tick wsX6_tick) := goodIn_app (goodIn_r _ [296, 297, 298, 2] (by rfl) (by decide +kernel)) ggL_law_X6_tick
set_option maxRecDepth 20000 in
theorem ggL_law_X7_tick : GoodIn wsL_law wsX7_tick := goodIn_r _ [345, 190, 191, 5, 192, 205, 206, 207, 208, 209, 81, 80, 210, 211, 212, 346, 347, 348, 349, 350, 351, 352, 353, 201, 202, 203, 204, 354, 355, 356, 357, 358, 359, 360, 225, 226, 227, 228, 361, 362, 363, 364, 217, 218, 219, 220, 365, 366, 367, 368, 803, 804, 805, 806, 807, 808, 809, 810, 811, 812, 813, 814, 815] (by rfl) (by decide +kernel)
set_option maxRecDepth 20000 in
theorem gL_law_X7_tick : GoodIn wsL_law (wsV RL 30 RX7 yX7_tick wsX7_tick) := goodIn_app (goodIn_r _ [342, 343, 344, 5] (by rfl) (by decide +kernel)) ggL_law_X7_tick
set_option maxRecDepth 20000 in
theorem ggL_law_X6_lock : GoodIn wsL_law wsX6_lock := goodIn_r _ [372, 21, 15, 89, 90, 91, 20, 92, 71, 93, 94, 95, 96, 97, 98, 99, 100, 101, 14, 102, 32, 33, 103, 37, 39, 104, 105, 106, 107, 40, 108, 109, 110, 31, 111, 45, 112, 113, 114, 115, 36, 116, 54, 58, 59, 117, 118, 119, 120, 121, 122, 123, 124, 57, 125, 64, 126, 65, 127, 128, 373, 374, 375, 376, 168, 169, 170, 2, 171, 172, 173, 174, 175, 176, 177, 178, 797, 798, 799, 800, 801, 802, 822, 823, 824, 816, 817, 818, 819, 820, 821, 832, 833, 834, 835, 836, 837, 838, 839, 840, 841, 842, 843] (by rfl) (by decide +kernel)
set_option maxRecDepth 20000 in
theorem gL_law_X6_lock : GoodIn wsL_law (wsV RL 31 RX6 yX6_lock wsX6_lock) := goodIn_app (goodIn_r _ [369, 370, 371, 2] (by rfl) (by decide +kernel)) ggL_law_X6_lock
set_option maxRecDepth 20000 in
theorem ggL_law_X7_lock : GoodIn wsL_law wsX7_lock := goodIn_r _ [380, 381, 382, 383, 5, 384, 80, 205, 206, 207, 208, 209, 81, 210, 211, 212, 385, 386, 387, 388, 803, 804, 805, 806, 807, 808, 809, 810, 811, 812, 813, 814, 815] (by rfl) (by decide +kernel)
set_option maxRecDepth 20000 in
theorem gL_law_X7_lock : GoodIn wsL_law (wsV RL 35 RX7 yX7_lock wsX7_lock) := goodIn_app (goodIn_r _ [377, 378, 379, 5] (by rfl) (by decide +kernel)) ggL_law_X7_lock
set_option maxRecDepth 20000 in
theorem ggL_law_X6_unlock : GoodIn wsL_law wsX6_unlock := goodIn_r _ [392, 21, 15, 89, 90, 91, 20, 92, 71, 93, 94, 95, 96, 97, 98, 99, 100, 101, 14, 102, 32, 33, 103, 37, 39, 104, 105, 106, 107, 40, 108, 109, 110, 31, 111, 45, 112, 113, 114, 115, 36, 116, 54, 58, 59, 117, 118, 119, 120, 121, 122, 123, 124, 57, 125, 64, 126, 65, 127, 128, 393, 394, 395, 396, 168, 169, 170, 2, 171, 172, 173, 174, 175, 176, 177, 178, 797, 798, 799, 800, 801, 802, 822, 823, 824, 816, 817, 818, 819, 820, 821, 832, 833, 834, 835, 836, 837, 838, 839, 840, 841, 842, 843] (by rfl) (by decide +kernel)
set_option maxRecDepth 20000 in
theorem gL_law_X6_unlock : GoodIn wsL_law (wsV RL 36 RX6 yX6_unlock wsX6_unlock) := goodIn_app (goodIn_r _ [389, 390, 391, 2] (by rfl) (by decide +kernel)) ggL_law_X6_unlock
set_option maxRecDepth 20000 in
theorem ggL_law_X7_unlock : GoodIn wsL_law wsX7_unlock := goodIn_r _ [400, 381, 382, 383, 5, 384, 80, 205, 206, 207, 208, 209, 81, 210, 211, 212, 401, 402, 403, 404, 803, 804, 805, 806, 807, 808, 809, 810, 811, 812, 813, 814, 815] (by rfl) (by decide +kernel)
set_option maxRecDepth 20000 in
theorem gL_law_X7_unlock : GoodIn wsL_law (wsV RL 39 RX7 yX7_unlock wsX7_unlock) := goodIn_app (goodIn_r _ [397, 398, 399, 5] (by rfl) (by decide +kernel)) ggL_law_X7_unlock
set_option maxRecDepth 20000 in
theorem ggL_law_X6_swap : GoodIn wsL_law wsX6_swap := goodIn_r _ [408, 21, 15, 89, 90, 91, 20, 92, 71, 93, 94, 95, 96, 97, 98, 99, 100, 101, 14, 102, 32, 33, 103, 37, 39, 104, 105, 106, 107, 40, 108, 109, 110, 31, 111, 45, 112, 113, 114, 115, 36, 116, 54, 58, 59, 117, 118, 119, 120, 121, 122, 123, 124, 57, 125, 64, 126, 65, 127, 128, 409, 410, 411, 412, 276, 277, 278, 279, 168, 169, 170, 2, 171, 172, 173, 174, 175, 176, 177, 178, 797, 798, 799, 800, 801, 802, 822, 823, 824, 816, 817, 818, 819, 820, 821, 832, 833, 834, 835, 836, 837, 838, 839, 840, 841, 842, 843] (by rfl) (by decide +kernel)
set_option maxRecDepth 20000 in
theorem gL_law_X6_swap : GoodIn wsL_law (wsV RL 40 RX6 yX6_swap wsX6_swap) := goodIn_app (goodIn_r _ [405, 406, 407, 2] (by rfl) (by decide +kernel)) ggL_law_X6_swap
set_option maxRecDepth 20000 in
theorem ggL_law_X7_swap : GoodIn wsL_law wsX7_swap := goodIn_r _ [416, 417, 418, 419, 5, 420, 80, 205, 206, 207, 208, 209, 81, 210, 211, 212, 421, 422, 423, 424, 217, 218, 219, 220, 225, 226, 227, 228, 221, 222, 223, 224, 292, 293, 294, 295, 803, 804, 805, 806, 807, 808, 809, 810, 811, 812, 813, 814, 815] (by rfl) (by decide +kernel)
set_option maxRecDepth 20000 in
theorem gL_law_X7_swap : GoodIn wsL_law (wsV RL 43 RX7 yX7_swap wsX7_swap) := goodIn_app (goodIn_r _ [413, 414, 415, 5] (by rfl) (by decide +kernel)) ggL_law_X7_swap
set_option maxRecDepth 20000 in
theorem ggL_law_X6_giveUp : GoodIn wsL_law wsX6_giveUp := goodIn_r _ [428, 21, 15, 89, 90, 91, 20, 92, 71, 93, 94, 95, 96, 97, 98, 99, 100, 101, 14, 102, 32, 33, 103, 37, 39, 104, 105, 106, 107, 40, 108, 109, 110, 31, 111, 45, 112, 113, 114, 115, 36, 116, 54, 58, 59, 117, 118, 119, 120, 121, 122, 123, 124, 57, 125, 64, 126, 65, 127, 128, 429, 430, 431, 432, 144, 145, 146, 147, 156, 157, 158, 159, 276, 277, 278, 279, 168, 169, 170, 2, 171, 172, 173, 174, 175, 176, 177, 178, 797, 798, 799, 800, 801, 802, 822, 823, 824, 816, 817, 818, 819, 820, 821, 832, 833, 834, 835, 836, 837, 838, 839, 840, 841, 842, 843] (by rfl) (by decide +kernel)
set_option maxRecDepth 20000 in
theorem gL_law_X6_giveUp : GoodIn wsL_law (wsV RL 44 RX6 yX6_giveUp wsX6_giveUp) := goodIn_app (goodIn_r _ [425, 426, 427, 2] (by rfl) (by decide +kernel)) ggL_law_X6_giveUp
set_option maxRecDepth 20000 in
theorem ggL_law_X7_giveUp : GoodIn wsL_law wsX7_giveUp := goodIn_r _ [436, 201, 202, 203, 5, 204, 80, 205, 206, 207, 208, 209, 81, 210, 211, 212, 437, 438, 439, 440, 292, 293, 294, 295, 217, 218, 219, 220, 221, 222, 223, 224, 803, 804, 805, 806, 807, 808, 809, 810, 811, 812, 813, 814, 815] (by rfl) (by decide +kernel)
set_option maxRecDepth 20000 in
theorem gL_law_X7_giveUp : GoodIn wsL_law (wsV RL 47 RX7 yX7_giveUp wsX7_giveUp) := goodIn_app (goodIn_r _ [433, 434, 435, 5] (by rfl) (by decide +kernel)) ggL_law_X7_giveUp
set_option maxRecDepth 20000 in
theorem ggL_law_X6_set : GoodIn wsL_law wsX6_set := goodIn_r _ [444, 21, 15, 89, 90, 91, 20, 92, 71, 93, 94, 95, 96, 97, 98, 99, 100, 101, 14, 102, 32, 33, 103, 37, 39, 104, 105, 106, 107, 40, 108, 109, 110, 31, 111, 45, 112, 113, 114, 115, 36, 116, 54, 58, 59, 117, 118, 119, 120, 121, 122, 123, 124, 57, 125, 64, 126, 65, 127, 128, 445, 446, 447, 448, 449, 2, 450, 135, 136, 137, 168, 169, 170, 171, 172, 173, 174, 175, 176, 177, 178, 797, 798, 799, 800, 801, 802, 822, 823, 824, 816, 817, 818, 819, 820, 821, 832, 833, 834, 835, 836, 837, 838, 839, 840, 841, 842, 843] (by rfl) (by decide +kernel)
set_option maxRecDepth 20000 in
theorem gL_law_X6_set : GoodIn wsL_law (wsV RL 48 RX6 yX6_set wsX6_set) := goodIn_app (goodIn_r _ [441, 442, 443, 2] (by rfl) (by decide +kernel)) ggL_law_X6_set
set_option maxRecDepth 20000 in
theorem ggL_law_X7_set : GoodIn wsL_law wsX7_set := goodIn_r _ [454, 80, 190, 191, 5, 192, 455, 456, 457, 205, 206, 207, 208, 209, 81, 210, 211, 212, 803, 804, 805, 806, 807, 808, 809, 810, 811, 812, 813, 814, 815] (by rfl) (by decide +kernel)
set_option maxRecDepth 20000 in
theorem gL_law_X7_set : GoodIn wsL_law (wsV RL 51 RX7 yX7_set wsX7_set) := goodIn_app (goodIn_r _ [451, 452, 453, 5] (by rfl) (by decide +kernel)) ggL_law_X7_set
set_option maxRecDepth 20000 in
theorem ggL_law_X6_append : GoodIn wsL_law wsX6_append := goodIn_r _ [461, 25, 462, 463, 464, 24, 465, 466, 75, 136, 2, 137, 797, 798, 799, 800, 801, 802, 825, 826, 827, 828, 829, 830, 831] (by rfl) (by decide +kernel)
set_option maxRecDepth 20000 in
theorem gL_law_X6_append : GoodIn wsL_law (wsV RL 52 RX6 yX6_append wsX6_append) := goodIn_app (goodIn_r _ [458, 459, 460, 2] (by rfl) (by decide +kernel)) ggL_law_X6_append
set_option maxRecDepth 20000 in
theorem ggL_law_X7_append : GoodIn wsL_law wsX7_append := goodIn_r _ [470, 471, 84, 190, 191, 5, 192, 803, 804, 805, 806, 807, 808, 809, 810, 811, 812, 813, 814, 815] (by rfl) (by decide +kernel)
set_option maxRecDepth 20000 in
theorem gL_law_X7_append : GoodIn wsL_law (wsV RL 55 RX7 yX7_append wsX7_append) := goodIn_app (goodIn_r _ [467, 468, 469, 5] (by rfl) (by decide +kernel)) ggL_law_X7_append
set_option maxRecDepth 20000 in
theorem ggL_law_X6_clearText : GoodIn wsL_law wsX6_clearText := goodIn_r _ [475, 25, 476, 477, 478, 24, 479, 466, 797, 798, 799, 800, 801, 802, 825, 826, 827, 828, 829, 830, 831] (by rfl) (by decide +kernel)
set_option maxRecDepth 20000 in
theorem gL_law_X6_clearText : GoodIn wsL_law (wsV RL 56 RX6 yX6_clearText wsX6_clearText) := goodIn_app (goodIn_r _ [472, 473, 474, 2] (by rfl) (by decide +kernel)) ggL_law_X6_clearText
set_option maxRecDepth 20000 in
theorem ggL_law_X7_clearText : GoodIn wsL_law wsX7_clearText := goodIn_r _ [483, 471, 803, 804, 805, 806, 807, 808, 809, 810, 811, 812, 813, 814, 815] (by rfl) (by decide +kernel)
set_option maxRecDepth 20000 in
theorem gL_law_X7_clearText : GoodIn wsL_law (wsV RL 59 RX7 yX7_clearText wsX7_clearText) := goodIn_app (goodIn_r _ [480, 481, 482, 5] (by rfl) (by decide +kernel)) ggL_law_X7_clearText
set_option maxRecDepth 20000 in
theorem ggL_law_X6_fault : GoodIn wsL_law wsX6_fault := goodIn_r _ [487, 25, 488, 489, 490, 24, 491, 492, 466, 493, 494, 495, 496, 497, 498, 499, 500, 501, 502, 503, 504, 505, 506, 75, 507, 508, 509, 510, 511, 512, 513, 514, 515, 516, 517, 518, 519, 136, 2, 137, 520, 521, 522, 523, 524, 525, 526, 527, 528, 797, 798, 799, 800, 801, 802, 825, 826, 827, 828, 829, 830, 831] (by rfl) (by decide +kernel)
set_option maxRecDepth 20000 in
theorem gL_law_X6_fault : GoodIn wsL_law (wsV RL 60 RX6 yX6_fault wsX6_fault) := goodIn_app (goodIn_r _ [484, 485, 486, 2] (by rfl) (by decide +kernel)) ggL_law_X6_fault
set_option maxRecDepth 20000 in
theorem ggL_law_X7_fault : GoodIn wsL_law wsX7_fault := goodIn_r _ [532, 533, 534, 535, 536, 5, 537, 538, 471, 539, 540, 541, 542, 84, 543, 544, 545, 546, 547, 548, 549, 550, 551, 552, 553, 190, 191, 192, 554, 555, 556, 557, 558, 559, 560, 561, 183, 184, 185, 186, 187, 188, 189, 193, 194, 195, 196, 80, 197, 198, 199, 200, 201, 202, 203, 204, 244, 245, 246, 247, 217, 218, 219, 220, 284, 285, 286, 287, 381, 382, 383, 384, 417, 418, 419, 420, 562, 563, 564, 565, 213, 214, 215, 216, 221, 222, 223, 224, 225, 226, 227, 228, 229, 230, 231, 248, 249, 250, 251, 288, 289, 290, 291, 292, 293, 294, 295, 385, 386, 387, 388, 401, 402, 403, 404, 421, 422, 423, 424, 437, 438, 439, 440, 346, 347, 348, 349, 350, 351, 352, 353, 354, 355, 356, 357, 358, 359, 360, 361, 362, 363, 364, 365, 366, 367, 368, 803, 804, 805, 806, 807, 808, 809, 810, 811, 812, 813, 814, 815] (by rfl) (by decide +kernel)
set_option maxRecDepth 20000 in
theorem gL_law_X7_fault : GoodIn wsL_law (wsV RL 63 RX7 yX7_fault wsX7_fault) := goodIn_app (goodIn_r _ [529, 530, 531, 5] (by rfl) (by decide +kernel)) ggL_law_X7_fault
set_option maxRecDepth 20000 in
theorem ggL_law_X6_run : GoodIn wsL_law wsX6_run := goodIn_r _ [569, 25, 21, 15, 488, 489, 490, 24, 491, 492, 466, 493, 494, 495, 496, 497, 498, 499, 500, 501, 502, 503, 504, 505, 506, 75, 507, 508, 509, 510, 511, 512, 513, 514, 515, 516, 517, 518, 519, 136, 2, 137, 520, 521, 522, 523, 524, 525, 526, 527, 528, 89, 90, 91, 20, 92, 71, 93, 94, 95, 96, 97, 98, 99, 100, 101, 14, 102, 32, 33, 103, 37, 39, 104, 105, 106, 107, 40, 108, 109, 110, 31, 111, 45, 112, 113, 114, 115, 36, 116, 54, 58, 59, 117, 118, 119, 120, 121, 122, 123, 124, 57, 125, 64, 126, 65, 127, 128, 175, 176, 177, 178, 570, 571, 572, 573, 574, 575, 129, 130, 131, 132, 133, 134, 135, 138, 139, 140, 141, 142, 143, 144, 145, 146, 147, 148, 149, 150, 151, 152, 153, 154, 155, 156, 157, 158, 159, 160, 161, 162, 163, 164, 165, 166, 167, 236, 237, 238, 239, 256, 257, 258, 259, 260, 261, 262, 263, 264, 265, 266, 267, 268, 269, 270, 271, 46, 47, 48, 49, 272, 273, 274, 275, 276, 277, 278, 279, 300, 301, 302, 303, 304, 305, 306, 307, 308, 309, 310, 311, 312, 313, 314, 315, 316, 317, 318, 319, 320, 321, 322, 323, 324, 325, 326, 327, 328, 329, 330, 331, 332, 333, 334, 335, 336, 337, 338, 339, 340, 341, 373, 374, 375, 376, 393, 394, 395, 396, 409, 410, 411, 412, 429, 430, 431, 432, 172, 173, 174, 576, 797, 798, 799, 800, 801, 802, 825, 826, 827, 828, 829, 830, 831, 822, 823, 824, 816, 817, 818, 819, 820, 821, 832, 833, 834, 835, 836, 837, 838, 839, 840, 841, 842, 843] (by rfl) (by decide +kernel)
set_option maxRecDepth 20000 in
theorem gL_law_X6_run : GoodIn wsL_law (wsV RL 64 RX6 yX6_run wsX6_run) := goodIn_app (goodIn_r _ [566, 567, 568, 2] (by rfl) (by decide +kernel)) ggL_law_X6_run
set_option maxRecDepth 20000 in
theorem ggL_law_X7_run : GoodIn wsL_law wsX7_run := goodIn_r _ [580, 533, 538, 534, 535, 536, 5, 537, 471, 539, 540, 541, 542, 84, 543, 544, 545, 546, 547, 548, 549, 550, 551, 552, 553, 190, 191, 192, 554, 555, 556, 557, 558, 559, 560, 561, 183, 184, 185, 186, 187, 188, 189, 193, 194, 195, 196, 80, 197, 198, 199, 200, 201, 202, 203, 204, 244, 245, 246, 247, 217, 218, 219, 220, 284, 285, 286, 287, 381, 382, 383, 384, 417, 418, 419, 420, 562, 563, 564, 565, 213, 214, 215, 216, 221, 222, 223, 224, 225, 226, 227, 228, 229, 230, 231, 248, 249, 250, 251, 288, 289, 290, 291, 292, 293, 294, 295, 385, 386, 387, 388, 401, 402, 403, 404, 421, 422, 423, 424, 437, 438, 439, 440, 346, 347, 348, 349, 350, 351, 352, 353, 354, 355, 356, 357, 358, 359, 360, 361, 362, 363, 364, 365, 366, 367, 368, 205, 206, 207, 208, 209, 81, 210, 211, 212, 803, 804, 805, 806, 807, 808, 809, 810, 811, 812, 813, 814, 815] (by rfl) (by decide +kernel)
set_option maxRecDepth 20000 in
theorem gL_law_X7_run : GoodIn wsL_law (wsV RL 67 RX7 yX7_run wsX7_run) := goodIn_app (goodIn_r _ [577, 578, 579, 5] (by rfl) (by decide +kernel)) ggL_law_X7_run
set_option maxRecDepth 20000 in
theorem ggL_law_X6_undo : GoodIn wsL_law wsX6_undo := goodIn_r _ [584, 21, 15, 585, 586, 587, 20, 588, 93, 71, 94, 95, 96, 97, 98, 99, 100, 101, 14, 102, 32, 33, 103, 37, 39, 104, 105, 106, 107, 40, 108, 109, 110, 31, 111, 45, 112, 113, 114, 115, 36, 116, 54, 58, 59, 117, 118, 119, 120, 121, 122, 123, 124, 57, 125, 64, 126, 65, 127, 128, 797, 798, 799, 800, 801, 802, 822, 823, 824, 816, 817, 818, 819, 820, 821, 832, 833, 834, 835, 836, 837, 838, 839, 840, 841, 842, 843] (by rfl) (by decide +kernel)
set_option maxRecDepth 20000 in
theorem gL_law_X6_undo : GoodIn wsL_law (wsV RL 68 RX6 yX6_undo wsX6_undo) := goodIn_app (goodIn_r _ [581, 582, 583, 2] (by rfl) (by decide +kernel)) ggL_law_X6_undo
set_option maxRecDepth 20000 in
theorem ggL_law_X7_undo : GoodIn wsL_law wsX7_undo := goodIn_r _ [592, 209, 81, 80, 210, 211, 5, 212, 803, 804, 805, 806, 807, 808, 809, 810, 811, 812, 813, 814, 815] (by rfl) (by decide +kernel)
set_option maxRecDepth 20000 in
theorem gL_law_X7_undo : GoodIn wsL_law (wsV RL 71 RX7 yX7_undo wsX7_undo) := goodIn_app (goodIn_r _ [589, 590, 591, 5] (by rfl) (by decide +kernel)) ggL_law_X7_undo
set_option maxRecDepth 20000 in
theorem ggL_law_X6_save : GoodIn wsL_law wsX6_save := goodIn_r _ [596, 16, 15, 597, 598, 100, 101, 14, 102, 32, 33, 103, 37, 39, 104, 105, 106, 107, 40, 108, 109, 110, 31, 111, 45, 112, 113, 114, 115, 36, 116, 54, 58, 59, 117, 118, 119, 120, 121, 122, 123, 124, 57, 125, 64, 126, 65, 127, 128, 599, 277, 278, 279, 797, 798, 799, 800, 801, 802, 816, 817, 818, 819, 820, 821, 832, 833, 834, 835, 836, 837, 838, 839, 840, 841, 842, 843] (by rfl) (by decide +kernel)
set_option maxRecDepth 20000 in
theorem gL_law_X6_save : GoodIn wsL_law (wsV RL 72 RX6 yX6_save wsX6_save) := goodIn_app (goodIn_r _ [593, 594, 595, 2] (by rfl) (by decide +kernel)) ggL_law_X6_save
set_option maxRecDepth 20000 in
theorem ggL_law_X7_save : GoodIn wsL_law wsX7_save := goodIn_r _ [603, 80, 82, 604, 210, 211, 5, 212, 292, 293, 294, 295, 217, 218, 219, 220, 803, 804, 805, 806, 807, 808, 809, 810, 811, 812, 813, 814, 815] (by rfl) (by decide +kernel)
set_option maxRecDepth 20000 in
theorem gL_law_X7_save : GoodIn wsL_law (wsV RL 75 RX7 yX7_save wsX7_save) := goodIn_app (goodIn_r _ [600, 601, 602, 5] (by rfl) (by decide +kernel)) ggL_law_X7_save
set_option maxRecDepth 20000 in
theorem ggL_law_X6_restore : GoodIn wsL_law wsX6_restore := goodIn_r _ [608, 597, 21, 15, 16, 89, 90, 91, 20, 92, 71, 93, 94, 95, 96, 97, 98, 99, 100, 101, 14, 102, 32, 33, 103, 37, 39, 104, 105, 106, 107, 40, 108, 109, 110, 31, 111, 45, 112, 113, 114, 115, 36, 116, 54, 58, 59, 117, 118, 119, 120, 121, 122, 123, 124, 57, 125, 64, 126, 65, 127, 128, 598, 599, 277, 278, 279, 168, 169, 170, 2, 171, 172, 173, 174, 175, 176, 177, 178, 797, 798, 799, 800, 801, 802, 816, 817, 818, 819, 820, 821, 822, 823, 824, 832, 833, 834, 835, 836, 837, 838, 839, 840, 841, 842, 843] (by rfl) (by decide +kernel)
set_option maxRecDepth 20000 in
theorem gL_law_X6_restore : GoodIn wsL_law (wsV RL 76 RX6 yX6_restore wsX6_restore) := goodIn_app (goodIn_r _ [605, 606, 607, 2] (by rfl) (by decide +kernel)) ggL_law_X6_restore
set_option maxRecDepth 20000 in
theorem ggL_law_X7_restore : GoodIn wsL_law wsX7_restore := goodIn_r _ [612, 604, 82, 80, 205, 206, 207, 5, 208, 209, 81, 210, 211, 212, 292, 293, 294, 295, 217, 218, 219, 220, 803, 804, 805, 806, 807, 808, 809, 810, 811, 812, 813, 814, 815] (by rfl) (by decide +kernel)
set_option maxRecDepth 20000 in
theorem gL_law_X7_restore : GoodIn wsL_law (wsV RL 79 RX7 yX7_restore wsX7_restore) := goodIn_app (goodIn_r _ [609, 610, 611, 5] (by rfl) (by decide +kernel)) ggL_law_X7_restore
set_option maxRecDepth 20000 in
theorem ggL_law_X6_value : GoodIn wsL_law wsX6_value := goodIn_r _ [616, 15, 617, 133, 2, 134, 135, 136, 137, 618, 619, 620, 621, 622, 623, 14, 624, 32, 37, 103, 33, 144, 145, 146, 147, 625, 161, 162, 31, 163, 45, 797, 798, 799, 800, 801, 802, 816, 817, 818, 819, 820, 821, 833, 834, 835, 836, 837, 838, 839, 832] (by rfl) (by decide +kernel)
set_option maxRecDepth 20000 in
theorem gL_law_X6_value : GoodIn wsL_law (wsV RL 80 RX6 yX6_value wsX6_value) := goodIn_app (goodIn_r _ [613, 614, 615, 2] (by rfl) (by decide +kernel)) ggL_law_X6_value
set_option maxRecDepth 20000 in
theorem ggL_law_X7_value : GoodIn wsL_law wsX7_value := goodIn_r _ [629, 187, 188, 5, 189, 190, 191, 192, 630, 631, 632, 633, 80, 201, 202, 203, 204, 217, 218, 219, 220, 229, 230, 231, 803, 804, 805, 806, 807, 808, 809, 810, 811, 812, 813, 814, 815] (by rfl) (by decide +kernel)
set_option maxRecDepth 20000 in
theorem gL_law_X7_value : GoodIn wsL_law (wsV RL 83 RX7 yX7_value wsX7_value) := goodIn_app (goodIn_r _ [626, 627, 628, 5] (by rfl) (by decide +kernel)) ggL_law_X7_value
set_option maxRecDepth 20000 in
theorem ggL_law_X6_table : GoodIn wsL_law wsX6_table := goodIn_r _ [637, 15, 618, 619, 2, 620, 135, 136, 137, 621, 622, 623, 14, 624, 32, 37, 103, 33, 144, 145, 146, 147, 638, 639, 640, 31, 641, 642, 277, 278, 279, 45, 643, 644, 645, 646, 647, 648, 649, 650, 651, 652, 653, 654, 797, 798, 799, 800, 801, 802, 816, 817, 818, 819, 820, 821, 833, 834, 835, 836, 837, 838, 839, 832] (by rfl) (by decide +kernel)
set_option maxRecDepth 20000 in
theorem gL_law_X6_table : GoodIn wsL_law (wsV RL 84 RX6 yX6_table wsX6_table) := goodIn_app (goodIn_r _ [634, 635, 636, 2] (by rfl) (by decide +kernel)) ggL_law_X6_table
set_option maxRecDepth 20000 in
theorem ggL_law_X7_table : GoodIn wsL_law wsX7_table := goodIn_r _ [658, 190, 191, 5, 192, 630, 631, 632, 633, 80, 201, 202, 203, 204, 292, 293, 294, 295, 217, 218, 219, 220, 659, 660, 661, 662, 663, 664, 665, 666, 803, 804, 805, 806, 807, 808, 809, 810, 811, 812, 813, 814, 815] (by rfl) (by decide +kernel)
set_option maxRecDepth 20000 in
theorem gL_law_X7_table : GoodIn wsL_law (wsV RL 87 RX7 yX7_table wsX7_table) := goodIn_app (goodIn_r _ [655, 656, 657, 5] (by rfl) (by decide +kernel)) ggL_law_X7_table
set_option maxRecDepth 20000 in
theorem ggL_law_X6_copy : GoodIn wsL_law wsX6_copy := goodIn_r _ [670, 15, 135, 136, 2, 137, 671, 672, 673, 36, 674, 59, 120, 117, 118, 119, 58, 797, 798, 799, 800, 801, 802, 816, 817, 818, 819, 820, 821, 833, 834, 835, 836, 837, 838, 839, 840, 841, 842, 843] (by rfl) (by decide +kernel)
set_option maxRecDepth 20000 in
theorem gL_law_X6_copy : GoodIn wsL_law (wsV RL 88 RX6 yX6_copy wsX6_copy) := goodIn_app (goodIn_r _ [667, 668, 669, 2] (by rfl) (by decide +kernel)) ggL_law_X6_copy
set_option maxRecDepth 20000 in
theorem ggL_law_X7_copy : GoodIn wsL_law wsX7_copy := goodIn_r _ [678, 80, 190, 191, 5, 192, 201, 202, 203, 204, 803, 804, 805, 806, 807, 808, 809, 810, 811, 812, 813, 814, 815] (by rfl) (by decide +kernel)
set_option maxRecDepth 20000 in
theorem gL_law_X7_copy : GoodIn wsL_law (wsV RL 91 RX7 yX7_copy wsX7_copy) := goodIn_app (goodIn_r _ [675, 676, 677, 5] (by rfl) (by decide +kernel)) ggL_law_X7_copy
set_option maxRecDepth 20000 in
theorem ggL_law_X6_entry : GoodIn wsL_law wsX6_entry := goodIn_r _ [682, 15, 135, 136, 2, 137, 683, 145, 146, 14, 147, 37, 684, 319, 320, 57, 321, 128, 64, 152, 153, 154, 155, 127, 685, 323, 324, 325, 65, 797, 798, 799, 800, 801, 802, 816, 817, 818, 819, 820, 821, 833, 834, 835, 836, 837, 838, 839, 840, 841, 842, 843] (by rfl) (by decide +kernel)
set_option maxRecDepth 20000 in
theorem gL_law_X6_entry : GoodIn wsL_law (wsV RL 92 RX6 yX6_entry wsX6_entry) := goodIn_app (goodIn_r _ [679, 680, 681, 2] (by rfl) (by decide +kernel)) ggL_law_X6_entry
set_option maxRecDepth 20000 in
theorem ggL_law_X7_entry : GoodIn wsL_law wsX7_entry := goodIn_r _ [689, 80, 190, 191, 5, 192, 201, 202, 203, 204, 229, 230, 231, 803, 804, 805, 806, 807, 808, 809, 810, 811, 812, 813, 814, 815] (by rfl) (by decide +kernel)
set_option maxRecDepth 20000 in
theorem gL_law_X7_entry : GoodIn wsL_law (wsV RL 95 RX7 yX7_entry wsX7_entry) := goodIn_app (goodIn_r _ [686, 687, 688, 5] (by rfl) (by decide +kernel)) ggL_law_X7_entry
set_option maxRecDepth 20000 in
theorem ggL_law_X6_changed : GoodIn wsL_law wsX6_changed := goodIn_r _ [693, 617, 133, 2, 134, 135, 136, 137, 694, 260, 261, 695, 138, 139, 696, 326, 327] (by rfl) (by decide +kernel)
set_option maxRecDepth 20000 in
theorem gL_law_X6_changed : GoodIn wsL_law (wsV RL 96 RX6 yX6_changed wsX6_changed) := goodIn_app (goodIn_r _ [690, 691, 692, 2] (by rfl) (by decide +kernel)) ggL_law_X6_changed
set_option maxRecDepth 20000 in
theorem ggL_law_X7_changed : GoodIn wsL_law wsX7_changed := goodIn_r _ [700, 187, 188, 5, 189, 190, 191, 192, 358, 359, 360, 229, 230, 231] (by rfl) (by decide +kernel)
set_option maxRecDepth 20000 in
theorem gL_law_X7_changed : GoodIn wsL_law (wsV RL 100 RX7 yX7_changed wsX7_changed) := goodIn_app (goodIn_r _ [697, 698, 699, 5] (by rfl) (by decide +kernel)) ggL_law_X7_changed
set_option maxRecDepth 20000 in
theorem ggL_law_X6_differences : GoodIn wsL_law wsX6_differences := goodIn_r _ [704, 15, 683, 145, 146, 14, 147, 37, 705, 706, 707, 708, 32, 160, 161, 162, 31, 163, 45, 326, 2, 327, 797, 798, 799, 800, 801, 802, 816, 817, 818, 819, 820, 821, 833, 834, 835, 836, 837, 838, 839, 832] (by rfl) (by decide +kernel)
set_option maxRecDepth 20000 in
theorem gL_law_X6_differences : GoodIn wsL_law (wsV RL 101 RX6 yX6_differences wsX6_differences) := goodIn_app (goodIn_r _ [701, 702, 703, 2] (by rfl) (by decide +kernel)) ggL_law_X6_differences
set_option maxRecDepth 20000 in
theorem ggL_law_X7_differences : GoodIn wsL_law wsX7_differences := goodIn_r _ [712, 201, 202, 203, 5, 204, 80, 713, 714, 715, 716, 217, 218, 219, 220, 365, 366, 367, 368, 358, 359, 360, 803, 804, 805, 806, 807, 808, 809, 810, 811, 812, 813, 814, 815] (by rfl) (by decide +kernel)
set_option maxRecDepth 20000 in
theorem gL_law_X7_differences : GoodIn wsL_law (wsV RL 104 RX7 yX7_differences wsX7_differences) := goodIn_app (goodIn_r _ [709, 710, 711, 5] (by rfl) (by decide +kernel)) ggL_law_X7_differences
set_option maxRecDepth 20000 in
theorem ggL_law_X6_firstDifference : GoodIn wsL_law wsX6_firstDifference := goodIn_r _ [720, 15, 683, 145, 146, 14, 147, 37, 705, 706, 707, 708, 32, 160, 161, 162, 31, 163, 45, 326, 2, 327, 797, 798, 799, 800, 801, 802, 816, 817, 818, 819, 820, 821, 833, 834, 835, 836, 837, 838, 839, 832] (by rfl) (by decide +kernel)
set_option maxRecDepth 20000 in
theorem gL_law_X6_firstDifference : GoodIn wsL_law (wsV RL 105 RX6 yX6_firstDifference wsX6_firstDifference) := goodIn_app (goodIn_r _ [717, 718, 719, 2] (by rfl) (by decide +kernel)) ggL_law_X6_firstDifference
set_option maxRecDepth 20000 in
theorem ggL_law_X7_firstDifference : GoodIn wsL_law wsX7_firstDifference := goodIn_r _ [724, 201, 202, 203, 5, 204, 80, 713, 714, 715, 716, 217, 218, 219, 220, 365, 366, 367, 368, 358, 359, 360, 803, 804, 805, 806, 807, 808, 809, 810, 811, 812, 813, 814, 815] (by rfl) (by decide +kernel)
set_option maxRecDepth 20000 in
theorem gL_law_X7_firstDifference : GoodIn wsL_law (wsV RL 108 RX7 yX7_firstDifference wsX7_firstDifference) := goodIn_app (goodIn_r _ [721, 722, 723, 5] (by rfl) (by decide +kernel)) ggL_law_X7_firstDifference
set_option maxRecDepth 20000 in
theorem ggL_law_X6_setting : GoodIn wsL_law wsX6_setting := goodIn_r _ [728, 15, 729, 449, 2, 450, 135, 136, 137, 797, 798, 799, 800, 801, 802, 816, 817, 818, 819, 820, 821] (by rfl) (by decide +kernel)
set_option maxRecDepth 20000 in
theorem gL_law_X6_setting : GoodIn wsL_law (wsV RL 109 RX6 yX6_setting wsX6_setting) := goodIn_app (goodIn_r _ [725, 726, 727, 2] (by rfl) (by decide +kernel)) ggL_law_X6_setting
set_option maxRecDepth 20000 in
theorem ggL_law_X7_setting : GoodIn wsL_law wsX7_setting := goodIn_r _ [733, 80, 190, 191, 5, 192, 803, 804, 805, 806, 807, 808, 809, 810, 811, 812, 813, 814, 815] (by rfl) (by decide +kernel)
set_option maxRecDepth 20000 in
theorem gL_law_X7_setting : GoodIn wsL_law (wsV RL 112 RX7 yX7_setting wsX7_setting) := goodIn_app (goodIn_r _ [730, 731, 732, 5] (by rfl) (by decide +kernel)) ggL_law_X7_setting
set_option maxRecDepth 20000 in
theorem ggL_law_X6_total : GoodIn wsL_law wsX6_total := goodIn_r _ [737, 15, 135, 136, 2, 137, 797, 798, 799, 800, 801, 802, 816, 817, 818, 819, 820, 821] (by rfl) (by decide +kernel)
set_option maxRecDepth 20000 in
theorem gL_law_X6_total : GoodIn wsL_law (wsV RL 113 RX6 yX6_total wsX6_total) := goodIn_app (goodIn_r _ [734, 735, 736, 2] (by rfl) (by decide +kernel)) ggL_law_X6_total
set_option maxRecDepth 20000 in
theorem ggL_law_X7_total : GoodIn wsL_law wsX7_total := goodIn_r _ [741, 80, 190, 191, 5, 192, 803, 804, 805, 806, 807, 808, 809, 810, 811, 812, 813, 814, 815] (by rfl) (by decide +kernel)
set_option maxRecDepth 20000 in
theorem gL_law_X7_total : GoodIn wsL_law (wsV RL 116 RX7 yX7_total wsX7_total) := goodIn_app (goodIn_r _ [738, 739, 740, 5] (by rfl) (by decide +kernel)) ggL_law_X7_total
set_option maxRecDepth 20000 in
theorem ggL_law_X6_states : GoodIn wsL_law wsX6_states := goodIn_r _ [745, 21, 797, 798, 799, 800, 801, 802, 822, 823, 824] (by rfl) (by decide +kernel)
set_option maxRecDepth 20000 in
theorem gL_law_X6_states : GoodIn wsL_law (wsV RL 117 RX6 yX6_states wsX6_states) := goodIn_app (goodIn_r _ [742, 743, 744, 2] (by rfl) (by decide +kernel)) ggL_law_X6_states
set_option maxRecDepth 20000 in
theorem ggL_law_X7_states : GoodIn wsL_law wsX7_states := goodIn_r _ [749, 209, 803, 804, 805, 806, 807, 808, 809, 810, 811, 812, 813, 814, 815] (by rfl) (by decide +kernel)
set_option maxRecDepth 20000 in
theorem gL_law_X7_states : GoodIn wsL_law (wsV RL 120 RX7 yX7_states wsX7_states) := goodIn_app (goodIn_r _ [746, 747, 748, 5] (by rfl) (by decide +kernel)) ggL_law_X7_states
set_option maxRecDepth 20000 in
theorem ggL_law_X6_readyIn : GoodIn wsL_law wsX6_readyIn := goodIn_r _ [753, 15, 17, 754, 755, 756, 14, 757, 37, 598, 100, 101, 102, 32, 33, 103, 39, 104, 105, 106, 107, 40, 108, 109, 110, 31, 111, 45, 112, 113, 114, 115, 36, 116, 54, 58, 59, 117, 118, 119, 120, 121, 122, 123, 124, 57, 125, 64, 126, 65, 127, 128, 758, 759, 760, 761, 306, 307, 308, 309, 144, 145, 146, 147, 310, 311, 312, 313, 314, 315, 316, 317, 318, 319, 320, 321, 152, 153, 154, 155, 322, 323, 324, 325, 326, 2, 327, 164, 165, 166, 167, 328, 329, 330, 331, 332, 333, 334, 335, 160, 161, 162, 163, 336, 337, 338, 339, 340, 341, 797, 798, 799, 800, 801, 802, 816, 817, 818, 819, 820, 821, 833, 834, 835, 836, 837, 838, 839, 832, 840, 841, 842, 843] (by rfl) (by decide +kernel)
set_option maxRecDepth 20000 in
theorem gL_law_X6_readyIn : GoodIn wsL_law (wsV RL 121 RX6 yX6_readyIn wsX6_readyIn) := goodIn_app (goodIn_r _ [750, 751, 752, 2] (by rfl) (by decide +kernel)) ggL_law_X6_readyIn
set_option maxRecDepth 20000 in
theorem ggL_law_X7_readyIn : GoodIn wsL_law wsX7_readyIn := goodIn_r _ [765, 80, 766, 767, 768, 5, 769, 770, 771, 772, 773, 83, 210, 211, 212, 774, 775, 776, 777, 350, 351, 352, 353, 201, 202, 203, 204, 354, 355, 356, 357, 358, 359, 360, 225, 226, 227, 228, 361, 362, 363, 364, 217, 218, 219, 220, 365, 366, 367, 368, 803, 804, 805, 806, 807, 808, 809, 810, 811, 812, 813, 814, 815] (by rfl) (by decide +kernel)
set_option maxRecDepth 20000 in
theorem gL_law_X7_readyIn : GoodIn wsL_law (wsV RL 124 RX7 yX7_readyIn wsX7_readyIn) := goodIn_app (goodIn_r _ [762, 763, 764, 5] (by rfl) (by decide +kernel)) ggL_law_X7_readyIn
set_option maxRecDepth 20000 in
theorem ggL_law_X6_leastLot : GoodIn wsL_law wsX6_leastLot := goodIn_r _ [781, 15, 17, 782, 304, 2, 305, 135, 136, 137, 754, 755, 756, 14, 757, 37, 598, 100, 101, 102, 32, 33, 103, 39, 104, 105, 106, 107, 40, 108, 109, 110, 31, 111, 45, 112, 113, 114, 115, 36, 116, 54, 58, 59, 117, 118, 119, 120, 121, 122, 123, 124, 57, 125, 64, 126, 65, 127, 128, 758, 759, 760, 761, 306, 307, 308, 309, 144, 145, 146, 147, 310, 311, 312, 313, 314, 315, 316, 317, 318, 319, 320, 321, 152, 153, 154, 155, 322, 323, 324, 325, 326, 327, 164, 165, 166, 167, 328, 329, 330, 331, 332, 333, 334, 335, 160, 161, 162, 163, 336, 337, 338, 339, 340, 341, 797, 798, 799, 800, 801, 802, 816, 817, 818, 819, 820, 821, 833, 834, 835, 836, 837, 838, 839, 832, 840, 841, 842, 843] (by rfl) (by decide +kernel)
set_option maxRecDepth 20000 in
theorem gL_law_X6_leastLot : GoodIn wsL_law (wsV RL 125 RX6 yX6_leastLot wsX6_leastLot) := goodIn_app (goodIn_r _ [778, 779, 780, 2] (by rfl) (by decide +kernel)) ggL_law_X6_leastLot
set_option maxRecDepth 20000 in
theorem ggL_law_X7_leastLot : GoodIn wsL_law wsX7_leastLot := goodIn_r _ [786, 190, 191, 5, 192, 766, 767, 768, 769, 80, 770, 771, 772, 773, 83, 210, 211, 212, 774, 775, 776, 777, 350, 351, 352, 353, 201, 202, 203, 204, 354, 355, 356, 357, 358, 359, 360, 225, 226, 227, 228, 361, 362, 363, 364, 217, 218, 219, 220, 365, 366, 367, 368, 803, 804, 805, 806, 807, 808, 809, 810, 811, 812, 813, 814, 815] (by rfl) (by decide +kernel)
set_option maxRecDepth 20000 in
theorem gL_law_X7_leastLot : GoodIn wsL_law (wsV RL 128 RX7 yX7_leastLot wsX7_leastLot) := goodIn_app (goodIn_r _ [783, 784, 785, 5] (by rfl) (by decide +kernel)) ggL_law_X7_leastLot
set_option maxRecDepth 20000 in
theorem ggL_law_X6_progress : GoodIn wsL_law wsX6_progress := goodIn_r _ [790, 15, 791, 683, 145, 146, 14, 147, 37, 797, 798, 799, 800, 801, 802, 816, 817, 818, 819, 820, 821, 833, 834, 835, 836, 837, 838, 839] (by rfl) (by decide +kernel)
set_option maxRecDepth 20000 in
theorem gL_law_X6_progress : GoodIn wsL_law (wsV RL 129 RX6 yX6_progress wsX6_progress) := goodIn_app (goodIn_r _ [787, 788, 789, 2] (by rfl) (by decide +kernel)) ggL_law_X6_progress
set_option maxRecDepth 20000 in
theorem ggL_law_X7_progress : GoodIn wsL_law wsX7_progress := goodIn_r _ [795, 80, 796, 201, 202, 203, 5, 204, 803, 804, 805, 806, 807, 808, 809, 810, 811, 812, 813, 814, 815] (by rfl) (by decide +kernel)
set_option maxRecDepth 20000 in
theorem gL_law_X7_progress : GoodIn wsL_law (wsV RL 133 RX7 yX7_progress wsX7_progress) := goodIn_app (goodIn_r _ [792, 793, 794, 5] (by rfl) (by decide +kernel)) ggL_law_X7_progress
theorem dL_law_0 : decode cL_law 0 = .ok (.new 7, 3) := by decide +kernel
theorem dL_law_3 : decode cL_law 3 = .ok (.dup, 1) := by decide +kernel
theorem dL_law_4 : decode cL_law 4 = .ok (.invokespecial 9, 3) := by decide +kernel
theorem dL_law_7 : decode cL_law 7 = .ok (.astore_n 1, 1) := by decide +kernel
theorem dL_law_8 : decode cL_law 8 = .ok (.new 10, 3) := by decide +kernel
theorem dL_law_11 : decode cL_law 11 = .ok (.dup, 1) := by decide +kernel
theorem dL_law_12 : decode cL_law 12 = .ok (.invokespecial 12, 3) := by decide +kernel
theorem dL_law_15 : decode cL_law 15 = .ok (.astore_n 2, 1) := by decide +kernel
theorem dL_law_16 : decode cL_law 16 = .ok (.iconst 0, 1) := by decide +kernel
theorem dL_law_17 : decode cL_law 17 = .ok (.istore_n 3, 1) := by decide +kernel
theorem dL_law_18 : decode cL_law 18 = .ok (.iload_n 3, 1) := by decide +kernel
theorem dL_law_19 : decode cL_law 19 = .ok (.aload_n 0, 1) := by decide +kernel
theorem dL_law_20 : decode cL_law 20 = .ok (.arraylength, 1) := by decide +kernel
theorem dL_law_21 : decode cL_law 21 = .ok (.iconst 4, 1) := by decide +kernel
theorem dL_law_22 : decode cL_law 22 = .ok (.isub, 1) := by decide +kernel
theorem dL_law_23 : decode cL_law 23 = .ok (.if_icmp .gt 772, 3) := by decide +kernel
theorem dL_law_26 : decode cL_law 26 = .ok (.aload_n 0, 1) := by decide +kernel
theorem dL_law_27 : decode cL_law 27 = .ok (.iload_n 3, 1) := by decide +kernel
theorem dL_law_28 : decode cL_law 28 = .ok (.iaload, 1) := by decide +kernel
theorem dL_law_29 : decode cL_law 29 = .ok (.bipush 31, 2) := by decide +kernel
theorem dL_law_31 : decode cL_law 31 = .ok (.iand, 1) := by decide +kernel
theorem dL_law_32 : decode cL_law 32 = .ok (.tableswitch 757 0 28 #[132, 165, 188, 221, 244, 257, 270, 283, 296, 329, 352, 365, 378, 391, 404, 417, 430, 463, 496, 519, 552, 595, 608, 621, 644, 667, 680, 693, 716], 132) := by decide +kernel
theorem dL_law_164 : decode cL_law 164 = .ok (.aload_n 1, 1) := by decide +kernel
theorem dL_law_165 : decode cL_law 165 = .ok (.aload_n 0, 1) := by decide +kernel
theorem dL_law_166 : decode cL_law 166 = .ok (.iload_n 3, 1) := by decide +kernel
theorem dL_law_167 : decode cL_law 167 = .ok (.iconst 1, 1) := by decide +kernel
theorem dL_law_168 : decode cL_law 168 = .ok (.iadd, 1) := by decide +kernel
theorem dL_law_169 : decode cL_law 169 = .ok (.iaload, 1) := by decide +kernel
theorem dL_law_170 : decode cL_law 170 = .ok (.aload_n 0, 1) := by decide +kernel
theorem dL_law_171 : decode cL_law 171 = .ok (.iload_n 3, 1) := by decide +kernel
theorem dL_law_172 : decode cL_law 172 = .ok (.iconst 2, 1) := by decide +kernel
theorem dL_law_173 : decode cL_law 173 = .ok (.iadd, 1) := by decide +kernel
theorem dL_law_174 : decode cL_law 174 = .ok (.iaload, 1) := by decide +kernel
theorem dL_law_175 : decode cL_law 175 = .ok (.invokevirtual 13, 3) := by decide +kernel
theorem dL_law_178 : decode cL_law 178 = .ok (.aload_n 2, 1) := by decide +kernel
theorem dL_law_179 : decode cL_law 179 = .ok (.aload_n 0, 1) := by decide +kernel
theorem dL_law_180 : decode cL_law 180 = .ok (.iload_n 3, 1) := by decide +kernel
theorem dL_law_181 : decode cL_law 181 = .ok (.iconst 1, 1) := by decide +kernel
theorem dL_law_182 : decode cL_law 182 = .ok (.iadd, 1) := by decide +kernel
theorem dL_law_183 : decode cL_law 183 = .ok (.iaload, 1) := by decide +kernel
theorem dL_law_184 : decode cL_law 184 = .ok (.aload_n 0, 1) := by decide +kernel
theorem dL_law_185 : decode cL_law 185 = .ok (.iload_n 3, 1) := by decide +kernel
theorem dL_law_186 : decode cL_law 186 = .ok (.iconst 2, 1) := by decide +kernel
theorem dL_law_187 : decode cL_law 187 = .ok (.iadd, 1) := by decide +kernel
theorem dL_law_188 : decode cL_law 188 = .ok (.iaload, 1) := by decide +kernel
theorem dL_law_189 : decode cL_law 189 = .ok (.invokevirtual 17, 3) := by decide +kernel
theorem dL_law_192 : decode cL_law 192 = .ok (.if_icmp .eq 597, 3) := by decide +kernel
theorem dL_law_195 : decode cL_law 195 = .ok (.iconst 0, 1) := by decide +kernel
theorem dL_law_196 : decode cL_law 196 = .ok (.ireturn, 1) := by decide +kernel
theorem dL_law_197 : decode cL_law 197 = .ok (.aload_n 1, 1) := by decide +kernel
theorem dL_law_198 : decode cL_law 198 = .ok (.aload_n 0, 1) := by decide +kernel
theorem dL_law_199 : decode cL_law 199 = .ok (.iload_n 3, 1) := by decide +kernel
theorem dL_law_200 : decode cL_law 200 = .ok (.iconst 1, 1) := by decide +kernel
theorem dL_law_201 : decode cL_law 201 = .ok (.iadd, 1) := by decide +kernel
theorem dL_law_202 : decode cL_law 202 = .ok (.iaload, 1) := by decide +kernel
theorem dL_law_203 : decode cL_law 203 = .ok (.invokevirtual 18, 3) := by decide +kernel
theorem dL_law_206 : decode cL_law 206 = .ok (.aload_n 2, 1) := by decide +kernel
theorem dL_law_207 : decode cL_law 207 = .ok (.aload_n 0, 1) := by decide +kernel
theorem dL_law_208 : decode cL_law 208 = .ok (.iload_n 3, 1) := by decide +kernel
theorem dL_law_209 : decode cL_law 209 = .ok (.iconst 1, 1) := by decide +kernel
theorem dL_law_210 : decode cL_law 210 = .ok (.iadd, 1) := by decide +kernel
theorem dL_law_211 : decode cL_law 211 = .ok (.iaload, 1) := by decide +kernel
theorem dL_law_212 : decode cL_law 212 = .ok (.invokevirtual 22, 3) := by decide +kernel
theorem dL_law_215 : decode cL_law 215 = .ok (.if_icmp .eq 574, 3) := by decide +kernel
theorem dL_law_218 : decode cL_law 218 = .ok (.iconst 0, 1) := by decide +kernel
theorem dL_law_219 : decode cL_law 219 = .ok (.ireturn, 1) := by decide +kernel
theorem dL_law_220 : decode cL_law 220 = .ok (.aload_n 1, 1) := by decide +kernel
theorem dL_law_221 : decode cL_law 221 = .ok (.aload_n 0, 1) := by decide +kernel
theorem dL_law_222 : decode cL_law 222 = .ok (.iload_n 3, 1) := by decide +kernel
theorem dL_law_223 : decode cL_law 223 = .ok (.iconst 1, 1) := by decide +kernel
theorem dL_law_224 : decode cL_law 224 = .ok (.iadd, 1) := by decide +kernel
theorem dL_law_225 : decode cL_law 225 = .ok (.iaload, 1) := by decide +kernel
theorem dL_law_226 : decode cL_law 226 = .ok (.aload_n 0, 1) := by decide +kernel
theorem dL_law_227 : decode cL_law 227 = .ok (.iload_n 3, 1) := by decide +kernel
theorem dL_law_228 : decode cL_law 228 = .ok (.iconst 2, 1) := by decide +kernel
theorem dL_law_229 : decode cL_law 229 = .ok (.iadd, 1) := by decide +kernel
theorem dL_law_230 : decode cL_law 230 = .ok (.iaload, 1) := by decide +kernel
theorem dL_law_231 : decode cL_law 231 = .ok (.invokevirtual 23, 3) := by decide +kernel
theorem dL_law_234 : decode cL_law 234 = .ok (.aload_n 2, 1) := by decide +kernel
theorem dL_law_235 : decode cL_law 235 = .ok (.aload_n 0, 1) := by decide +kernel
theorem dL_law_236 : decode cL_law 236 = .ok (.iload_n 3, 1) := by decide +kernel
theorem dL_law_237 : decode cL_law 237 = .ok (.iconst 1, 1) := by decide +kernel
theorem dL_law_238 : decode cL_law 238 = .ok (.iadd, 1) := by decide +kernel
theorem dL_law_239 : decode cL_law 239 = .ok (.iaload, 1) := by decide +kernel
theorem dL_law_240 : decode cL_law 240 = .ok (.aload_n 0, 1) := by decide +kernel
theorem dL_law_241 : decode cL_law 241 = .ok (.iload_n 3, 1) := by decide +kernel
theorem dL_law_242 : decode cL_law 242 = .ok (.iconst 2, 1) := by decide +kernel
theorem dL_law_243 : decode cL_law 243 = .ok (.iadd, 1) := by decide +kernel
theorem dL_law_244 : decode cL_law 244 = .ok (.iaload, 1) := by decide +kernel
theorem dL_law_245 : decode cL_law 245 = .ok (.invokevirtual 26, 3) := by decide +kernel
theorem dL_law_248 : decode cL_law 248 = .ok (.if_icmp .eq 541, 3) := by decide +kernel
theorem dL_law_251 : decode cL_law 251 = .ok (.iconst 0, 1) := by decide +kernel
theorem dL_law_252 : decode cL_law 252 = .ok (.ireturn, 1) := by decide +kernel
theorem dL_law_253 : decode cL_law 253 = .ok (.aload_n 1, 1) := by decide +kernel
theorem dL_law_254 : decode cL_law 254 = .ok (.aload_n 0, 1) := by decide +kernel
theorem dL_law_255 : decode cL_law 255 = .ok (.iload_n 3, 1) := by decide +kernel
theorem dL_law_256 : decode cL_law 256 = .ok (.iconst 1, 1) := by decide +kernel
theorem dL_law_257 : decode cL_law 257 = .ok (.iadd, 1) := by decide +kernel
theorem dL_law_258 : decode cL_law 258 = .ok (.iaload, 1) := by decide +kernel
theorem dL_law_259 : decode cL_law 259 = .ok (.invokevirtual 27, 3) := by decide +kernel
theorem dL_law_262 : decode cL_law 262 = .ok (.aload_n 2, 1) := by decide +kernel
theorem dL_law_263 : decode cL_law 263 = .ok (.aload_n 0, 1) := by decide +kernel
theorem dL_law_264 : decode cL_law 264 = .ok (.iload_n 3, 1) := by decide +kernel
theorem dL_law_265 : decode cL_law 265 = .ok (.iconst 1, 1) := by decide +kernel
theorem dL_law_266 : decode cL_law 266 = .ok (.iadd, 1) := by decide +kernel
theorem dL_law_267 : decode cL_law 267 = .ok (.iaload, 1) := by decide +kernel
theorem dL_law_268 : decode cL_law 268 = .ok (.invokevirtual 30, 3) := by decide +kernel
theorem dL_law_271 : decode cL_law 271 = .ok (.if_icmp .eq 518, 3) := by decide +kernel
theorem dL_law_274 : decode cL_law 274 = .ok (.iconst 0, 1) := by decide +kernel
theorem dL_law_275 : decode cL_law 275 = .ok (.ireturn, 1) := by decide +kernel
theorem dL_law_276 : decode cL_law 276 = .ok (.aload_n 1, 1) := by decide +kernel
theorem dL_law_277 : decode cL_law 277 = .ok (.invokevirtual 31, 3) := by decide +kernel
theorem dL_law_280 : decode cL_law 280 = .ok (.aload_n 2, 1) := by decide +kernel
theorem dL_law_281 : decode cL_law 281 = .ok (.invokevirtual 35, 3) := by decide +kernel
theorem dL_law_284 : decode cL_law 284 = .ok (.if_icmp .eq 505, 3) := by decide +kernel
theorem dL_law_287 : decode cL_law 287 = .ok (.iconst 0, 1) := by decide +kernel
theorem dL_law_288 : decode cL_law 288 = .ok (.ireturn, 1) := by decide +kernel
theorem dL_law_289 : decode cL_law 289 = .ok (.aload_n 1, 1) := by decide +kernel
theorem dL_law_290 : decode cL_law 290 = .ok (.invokevirtual 36, 3) := by decide +kernel
theorem dL_law_293 : decode cL_law 293 = .ok (.aload_n 2, 1) := by decide +kernel
theorem dL_law_294 : decode cL_law 294 = .ok (.invokevirtual 39, 3) := by decide +kernel
theorem dL_law_297 : decode cL_law 297 = .ok (.if_icmp .eq 492, 3) := by decide +kernel
theorem dL_law_300 : decode cL_law 300 = .ok (.iconst 0, 1) := by decide +kernel
theorem dL_law_301 : decode cL_law 301 = .ok (.ireturn, 1) := by decide +kernel
theorem dL_law_302 : decode cL_law 302 = .ok (.aload_n 1, 1) := by decide +kernel
theorem dL_law_303 : decode cL_law 303 = .ok (.invokevirtual 40, 3) := by decide +kernel
theorem dL_law_306 : decode cL_law 306 = .ok (.aload_n 2, 1) := by decide +kernel
theorem dL_law_307 : decode cL_law 307 = .ok (.invokevirtual 43, 3) := by decide +kernel
theorem dL_law_310 : decode cL_law 310 = .ok (.if_icmp .eq 479, 3) := by decide +kernel
theorem dL_law_313 : decode cL_law 313 = .ok (.iconst 0, 1) := by decide +kernel
theorem dL_law_314 : decode cL_law 314 = .ok (.ireturn, 1) := by decide +kernel
theorem dL_law_315 : decode cL_law 315 = .ok (.aload_n 1, 1) := by decide +kernel
theorem dL_law_316 : decode cL_law 316 = .ok (.invokevirtual 44, 3) := by decide +kernel
theorem dL_law_319 : decode cL_law 319 = .ok (.aload_n 2, 1) := by decide +kernel
theorem dL_law_320 : decode cL_law 320 = .ok (.invokevirtual 47, 3) := by decide +kernel
theorem dL_law_323 : decode cL_law 323 = .ok (.if_icmp .eq 466, 3) := by decide +kernel
theorem dL_law_326 : decode cL_law 326 = .ok (.iconst 0, 1) := by decide +kernel
theorem dL_law_327 : decode cL_law 327 = .ok (.ireturn, 1) := by decide +kernel
theorem dL_law_328 : decode cL_law 328 = .ok (.aload_n 1, 1) := by decide +kernel
theorem dL_law_329 : decode cL_law 329 = .ok (.aload_n 0, 1) := by decide +kernel
theorem dL_law_330 : decode cL_law 330 = .ok (.iload_n 3, 1) := by decide +kernel
theorem dL_law_331 : decode cL_law 331 = .ok (.iconst 1, 1) := by decide +kernel
theorem dL_law_332 : decode cL_law 332 = .ok (.iadd, 1) := by decide +kernel
theorem dL_law_333 : decode cL_law 333 = .ok (.iaload, 1) := by decide +kernel
theorem dL_law_334 : decode cL_law 334 = .ok (.aload_n 0, 1) := by decide +kernel
theorem dL_law_335 : decode cL_law 335 = .ok (.iload_n 3, 1) := by decide +kernel
theorem dL_law_336 : decode cL_law 336 = .ok (.iconst 2, 1) := by decide +kernel
theorem dL_law_337 : decode cL_law 337 = .ok (.iadd, 1) := by decide +kernel
theorem dL_law_338 : decode cL_law 338 = .ok (.iaload, 1) := by decide +kernel
theorem dL_law_339 : decode cL_law 339 = .ok (.invokevirtual 48, 3) := by decide +kernel
theorem dL_law_342 : decode cL_law 342 = .ok (.aload_n 2, 1) := by decide +kernel
theorem dL_law_343 : decode cL_law 343 = .ok (.aload_n 0, 1) := by decide +kernel
theorem dL_law_344 : decode cL_law 344 = .ok (.iload_n 3, 1) := by decide +kernel
theorem dL_law_345 : decode cL_law 345 = .ok (.iconst 1, 1) := by decide +kernel
theorem dL_law_346 : decode cL_law 346 = .ok (.iadd, 1) := by decide +kernel
theorem dL_law_347 : decode cL_law 347 = .ok (.iaload, 1) := by decide +kernel
theorem dL_law_348 : decode cL_law 348 = .ok (.aload_n 0, 1) := by decide +kernel
theorem dL_law_349 : decode cL_law 349 = .ok (.iload_n 3, 1) := by decide +kernel
theorem dL_law_350 : decode cL_law 350 = .ok (.iconst 2, 1) := by decide +kernel
theorem dL_law_351 : decode cL_law 351 = .ok (.iadd, 1) := by decide +kernel
theorem dL_law_352 : decode cL_law 352 = .ok (.iaload, 1) := by decide +kernel
theorem dL_law_353 : decode cL_law 353 = .ok (.invokevirtual 51, 3) := by decide +kernel
theorem dL_law_356 : decode cL_law 356 = .ok (.if_icmp .eq 433, 3) := by decide +kernel
theorem dL_law_359 : decode cL_law 359 = .ok (.iconst 0, 1) := by decide +kernel
theorem dL_law_360 : decode cL_law 360 = .ok (.ireturn, 1) := by decide +kernel
theorem dL_law_361 : decode cL_law 361 = .ok (.aload_n 1, 1) := by decide +kernel
theorem dL_law_362 : decode cL_law 362 = .ok (.aload_n 0, 1) := by decide +kernel
theorem dL_law_363 : decode cL_law 363 = .ok (.iload_n 3, 1) := by decide +kernel
theorem dL_law_364 : decode cL_law 364 = .ok (.iconst 1, 1) := by decide +kernel
theorem dL_law_365 : decode cL_law 365 = .ok (.iadd, 1) := by decide +kernel
theorem dL_law_366 : decode cL_law 366 = .ok (.iaload, 1) := by decide +kernel
theorem dL_law_367 : decode cL_law 367 = .ok (.invokevirtual 52, 3) := by decide +kernel
theorem dL_law_370 : decode cL_law 370 = .ok (.aload_n 2, 1) := by decide +kernel
theorem dL_law_371 : decode cL_law 371 = .ok (.aload_n 0, 1) := by decide +kernel
theorem dL_law_372 : decode cL_law 372 = .ok (.iload_n 3, 1) := by decide +kernel
theorem dL_law_373 : decode cL_law 373 = .ok (.iconst 1, 1) := by decide +kernel
theorem dL_law_374 : decode cL_law 374 = .ok (.iadd, 1) := by decide +kernel
theorem dL_law_375 : decode cL_law 375 = .ok (.iaload, 1) := by decide +kernel
theorem dL_law_376 : decode cL_law 376 = .ok (.invokevirtual 55, 3) := by decide +kernel
theorem dL_law_379 : decode cL_law 379 = .ok (.if_icmp .eq 410, 3) := by decide +kernel
theorem dL_law_382 : decode cL_law 382 = .ok (.iconst 0, 1) := by decide +kernel
theorem dL_law_383 : decode cL_law 383 = .ok (.ireturn, 1) := by decide +kernel
theorem dL_law_384 : decode cL_law 384 = .ok (.aload_n 1, 1) := by decide +kernel
theorem dL_law_385 : decode cL_law 385 = .ok (.invokevirtual 56, 3) := by decide +kernel
theorem dL_law_388 : decode cL_law 388 = .ok (.aload_n 2, 1) := by decide +kernel
theorem dL_law_389 : decode cL_law 389 = .ok (.invokevirtual 59, 3) := by decide +kernel
theorem dL_law_392 : decode cL_law 392 = .ok (.if_icmp .eq 397, 3) := by decide +kernel
theorem dL_law_395 : decode cL_law 395 = .ok (.iconst 0, 1) := by decide +kernel
theorem dL_law_396 : decode cL_law 396 = .ok (.ireturn, 1) := by decide +kernel
theorem dL_law_397 : decode cL_law 397 = .ok (.aload_n 1, 1) := by decide +kernel
theorem dL_law_398 : decode cL_law 398 = .ok (.invokevirtual 60, 3) := by decide +kernel
theorem dL_law_401 : decode cL_law 401 = .ok (.aload_n 2, 1) := by decide +kernel
theorem dL_law_402 : decode cL_law 402 = .ok (.invokevirtual 63, 3) := by decide +kernel
theorem dL_law_405 : decode cL_law 405 = .ok (.if_icmp .eq 384, 3) := by decide +kernel
theorem dL_law_408 : decode cL_law 408 = .ok (.iconst 0, 1) := by decide +kernel
theorem dL_law_409 : decode cL_law 409 = .ok (.ireturn, 1) := by decide +kernel
theorem dL_law_410 : decode cL_law 410 = .ok (.aload_n 1, 1) := by decide +kernel
theorem dL_law_411 : decode cL_law 411 = .ok (.invokevirtual 64, 3) := by decide +kernel
theorem dL_law_414 : decode cL_law 414 = .ok (.aload_n 2, 1) := by decide +kernel
theorem dL_law_415 : decode cL_law 415 = .ok (.invokevirtual 67, 3) := by decide +kernel
theorem dL_law_418 : decode cL_law 418 = .ok (.if_icmp .eq 371, 3) := by decide +kernel
theorem dL_law_421 : decode cL_law 421 = .ok (.iconst 0, 1) := by decide +kernel
theorem dL_law_422 : decode cL_law 422 = .ok (.ireturn, 1) := by decide +kernel
theorem dL_law_423 : decode cL_law 423 = .ok (.aload_n 1, 1) := by decide +kernel
theorem dL_law_424 : decode cL_law 424 = .ok (.invokevirtual 68, 3) := by decide +kernel
theorem dL_law_427 : decode cL_law 427 = .ok (.aload_n 2, 1) := by decide +kernel
theorem dL_law_428 : decode cL_law 428 = .ok (.invokevirtual 71, 3) := by decide +kernel
theorem dL_law_431 : decode cL_law 431 = .ok (.if_icmp .eq 358, 3) := by decide +kernel
theorem dL_law_434 : decode cL_law 434 = .ok (.iconst 0, 1) := by decide +kernel
theorem dL_law_435 : decode cL_law 435 = .ok (.ireturn, 1) := by decide +kernel
theorem dL_law_436 : decode cL_law 436 = .ok (.aload_n 1, 1) := by decide +kernel
theorem dL_law_437 : decode cL_law 437 = .ok (.invokevirtual 72, 3) := by decide +kernel
theorem dL_law_440 : decode cL_law 440 = .ok (.aload_n 2, 1) := by decide +kernel
theorem dL_law_441 : decode cL_law 441 = .ok (.invokevirtual 75, 3) := by decide +kernel
theorem dL_law_444 : decode cL_law 444 = .ok (.if_icmp .eq 345, 3) := by decide +kernel
theorem dL_law_447 : decode cL_law 447 = .ok (.iconst 0, 1) := by decide +kernel
theorem dL_law_448 : decode cL_law 448 = .ok (.ireturn, 1) := by decide +kernel
theorem dL_law_449 : decode cL_law 449 = .ok (.aload_n 1, 1) := by decide +kernel
theorem dL_law_450 : decode cL_law 450 = .ok (.invokevirtual 76, 3) := by decide +kernel
theorem dL_law_453 : decode cL_law 453 = .ok (.aload_n 2, 1) := by decide +kernel
theorem dL_law_454 : decode cL_law 454 = .ok (.invokevirtual 79, 3) := by decide +kernel
theorem dL_law_457 : decode cL_law 457 = .ok (.if_icmp .eq 332, 3) := by decide +kernel
theorem dL_law_460 : decode cL_law 460 = .ok (.iconst 0, 1) := by decide +kernel
theorem dL_law_461 : decode cL_law 461 = .ok (.ireturn, 1) := by decide +kernel
theorem dL_law_462 : decode cL_law 462 = .ok (.aload_n 1, 1) := by decide +kernel
theorem dL_law_463 : decode cL_law 463 = .ok (.aload_n 0, 1) := by decide +kernel
theorem dL_law_464 : decode cL_law 464 = .ok (.iload_n 3, 1) := by decide +kernel
theorem dL_law_465 : decode cL_law 465 = .ok (.iconst 1, 1) := by decide +kernel
theorem dL_law_466 : decode cL_law 466 = .ok (.iadd, 1) := by decide +kernel
theorem dL_law_467 : decode cL_law 467 = .ok (.iaload, 1) := by decide +kernel
theorem dL_law_468 : decode cL_law 468 = .ok (.aload_n 0, 1) := by decide +kernel
theorem dL_law_469 : decode cL_law 469 = .ok (.iload_n 3, 1) := by decide +kernel
theorem dL_law_470 : decode cL_law 470 = .ok (.iconst 2, 1) := by decide +kernel
theorem dL_law_471 : decode cL_law 471 = .ok (.iadd, 1) := by decide +kernel
theorem dL_law_472 : decode cL_law 472 = .ok (.iaload, 1) := by decide +kernel
theorem dL_law_473 : decode cL_law 473 = .ok (.invokevirtual 80, 3) := by decide +kernel
theorem dL_law_476 : decode cL_law 476 = .ok (.aload_n 2, 1) := by decide +kernel
theorem dL_law_477 : decode cL_law 477 = .ok (.aload_n 0, 1) := by decide +kernel
theorem dL_law_478 : decode cL_law 478 = .ok (.iload_n 3, 1) := by decide +kernel
theorem dL_law_479 : decode cL_law 479 = .ok (.iconst 1, 1) := by decide +kernel
theorem dL_law_480 : decode cL_law 480 = .ok (.iadd, 1) := by decide +kernel
theorem dL_law_481 : decode cL_law 481 = .ok (.iaload, 1) := by decide +kernel
theorem dL_law_482 : decode cL_law 482 = .ok (.aload_n 0, 1) := by decide +kernel
theorem dL_law_483 : decode cL_law 483 = .ok (.iload_n 3, 1) := by decide +kernel
theorem dL_law_484 : decode cL_law 484 = .ok (.iconst 2, 1) := by decide +kernel
theorem dL_law_485 : decode cL_law 485 = .ok (.iadd, 1) := by decide +kernel
theorem dL_law_486 : decode cL_law 486 = .ok (.iaload, 1) := by decide +kernel
theorem dL_law_487 : decode cL_law 487 = .ok (.invokevirtual 83, 3) := by decide +kernel
theorem dL_law_490 : decode cL_law 490 = .ok (.if_icmp .eq 299, 3) := by decide +kernel
theorem dL_law_493 : decode cL_law 493 = .ok (.iconst 0, 1) := by decide +kernel
theorem dL_law_494 : decode cL_law 494 = .ok (.ireturn, 1) := by decide +kernel
theorem dL_law_495 : decode cL_law 495 = .ok (.aload_n 1, 1) := by decide +kernel
theorem dL_law_496 : decode cL_law 496 = .ok (.aload_n 0, 1) := by decide +kernel
theorem dL_law_497 : decode cL_law 497 = .ok (.iload_n 3, 1) := by decide +kernel
theorem dL_law_498 : decode cL_law 498 = .ok (.iconst 1, 1) := by decide +kernel
theorem dL_law_499 : decode cL_law 499 = .ok (.iadd, 1) := by decide +kernel
theorem dL_law_500 : decode cL_law 500 = .ok (.iaload, 1) := by decide +kernel
theorem dL_law_501 : decode cL_law 501 = .ok (.aload_n 0, 1) := by decide +kernel
theorem dL_law_502 : decode cL_law 502 = .ok (.iload_n 3, 1) := by decide +kernel
theorem dL_law_503 : decode cL_law 503 = .ok (.iconst 2, 1) := by decide +kernel
theorem dL_law_504 : decode cL_law 504 = .ok (.iadd, 1) := by decide +kernel
theorem dL_law_505 : decode cL_law 505 = .ok (.iaload, 1) := by decide +kernel
theorem dL_law_506 : decode cL_law 506 = .ok (.invokevirtual 84, 3) := by decide +kernel
theorem dL_law_509 : decode cL_law 509 = .ok (.aload_n 2, 1) := by decide +kernel
theorem dL_law_510 : decode cL_law 510 = .ok (.aload_n 0, 1) := by decide +kernel
theorem dL_law_511 : decode cL_law 511 = .ok (.iload_n 3, 1) := by decide +kernel
theorem dL_law_512 : decode cL_law 512 = .ok (.iconst 1, 1) := by decide +kernel
theorem dL_law_513 : decode cL_law 513 = .ok (.iadd, 1) := by decide +kernel
theorem dL_law_514 : decode cL_law 514 = .ok (.iaload, 1) := by decide +kernel
theorem dL_law_515 : decode cL_law 515 = .ok (.aload_n 0, 1) := by decide +kernel
theorem dL_law_516 : decode cL_law 516 = .ok (.iload_n 3, 1) := by decide +kernel
theorem dL_law_517 : decode cL_law 517 = .ok (.iconst 2, 1) := by decide +kernel
theorem dL_law_518 : decode cL_law 518 = .ok (.iadd, 1) := by decide +kernel
theorem dL_law_519 : decode cL_law 519 = .ok (.iaload, 1) := by decide +kernel
theorem dL_law_520 : decode cL_law 520 = .ok (.invokevirtual 87, 3) := by decide +kernel
theorem dL_law_523 : decode cL_law 523 = .ok (.if_icmp .eq 266, 3) := by decide +kernel
theorem dL_law_526 : decode cL_law 526 = .ok (.iconst 0, 1) := by decide +kernel
theorem dL_law_527 : decode cL_law 527 = .ok (.ireturn, 1) := by decide +kernel
theorem dL_law_528 : decode cL_law 528 = .ok (.aload_n 1, 1) := by decide +kernel
theorem dL_law_529 : decode cL_law 529 = .ok (.aload_n 0, 1) := by decide +kernel
theorem dL_law_530 : decode cL_law 530 = .ok (.iload_n 3, 1) := by decide +kernel
theorem dL_law_531 : decode cL_law 531 = .ok (.iconst 1, 1) := by decide +kernel
theorem dL_law_532 : decode cL_law 532 = .ok (.iadd, 1) := by decide +kernel
theorem dL_law_533 : decode cL_law 533 = .ok (.iaload, 1) := by decide +kernel
theorem dL_law_534 : decode cL_law 534 = .ok (.invokevirtual 88, 3) := by decide +kernel
theorem dL_law_537 : decode cL_law 537 = .ok (.aload_n 2, 1) := by decide +kernel
theorem dL_law_538 : decode cL_law 538 = .ok (.aload_n 0, 1) := by decide +kernel
theorem dL_law_539 : decode cL_law 539 = .ok (.iload_n 3, 1) := by decide +kernel
theorem dL_law_540 : decode cL_law 540 = .ok (.iconst 1, 1) := by decide +kernel
theorem dL_law_541 : decode cL_law 541 = .ok (.iadd, 1) := by decide +kernel
theorem dL_law_542 : decode cL_law 542 = .ok (.iaload, 1) := by decide +kernel
theorem dL_law_543 : decode cL_law 543 = .ok (.invokevirtual 91, 3) := by decide +kernel
theorem dL_law_546 : decode cL_law 546 = .ok (.if_icmp .eq 243, 3) := by decide +kernel
theorem dL_law_549 : decode cL_law 549 = .ok (.iconst 0, 1) := by decide +kernel
theorem dL_law_550 : decode cL_law 550 = .ok (.ireturn, 1) := by decide +kernel
theorem dL_law_551 : decode cL_law 551 = .ok (.aload_n 1, 1) := by decide +kernel
theorem dL_law_552 : decode cL_law 552 = .ok (.aload_n 0, 1) := by decide +kernel
theorem dL_law_553 : decode cL_law 553 = .ok (.iload_n 3, 1) := by decide +kernel
theorem dL_law_554 : decode cL_law 554 = .ok (.iconst 1, 1) := by decide +kernel
theorem dL_law_555 : decode cL_law 555 = .ok (.iadd, 1) := by decide +kernel
theorem dL_law_556 : decode cL_law 556 = .ok (.iaload, 1) := by decide +kernel
theorem dL_law_557 : decode cL_law 557 = .ok (.aload_n 0, 1) := by decide +kernel
theorem dL_law_558 : decode cL_law 558 = .ok (.iload_n 3, 1) := by decide +kernel
theorem dL_law_559 : decode cL_law 559 = .ok (.iconst 2, 1) := by decide +kernel
theorem dL_law_560 : decode cL_law 560 = .ok (.iadd, 1) := by decide +kernel
theorem dL_law_561 : decode cL_law 561 = .ok (.iaload, 1) := by decide +kernel
theorem dL_law_562 : decode cL_law 562 = .ok (.invokevirtual 92, 3) := by decide +kernel
theorem dL_law_565 : decode cL_law 565 = .ok (.aload_n 2, 1) := by decide +kernel
theorem dL_law_566 : decode cL_law 566 = .ok (.aload_n 0, 1) := by decide +kernel
theorem dL_law_567 : decode cL_law 567 = .ok (.iload_n 3, 1) := by decide +kernel
theorem dL_law_568 : decode cL_law 568 = .ok (.iconst 1, 1) := by decide +kernel
theorem dL_law_569 : decode cL_law 569 = .ok (.iadd, 1) := by decide +kernel
theorem dL_law_570 : decode cL_law 570 = .ok (.iaload, 1) := by decide +kernel
theorem dL_law_571 : decode cL_law 571 = .ok (.aload_n 0, 1) := by decide +kernel
theorem dL_law_572 : decode cL_law 572 = .ok (.iload_n 3, 1) := by decide +kernel
theorem dL_law_573 : decode cL_law 573 = .ok (.iconst 2, 1) := by decide +kernel
theorem dL_law_574 : decode cL_law 574 = .ok (.iadd, 1) := by decide +kernel
theorem dL_law_575 : decode cL_law 575 = .ok (.iaload, 1) := by decide +kernel
theorem dL_law_576 : decode cL_law 576 = .ok (.invokevirtual 95, 3) := by decide +kernel
theorem dL_law_579 : decode cL_law 579 = .ok (.if_icmp .eq 210, 3) := by decide +kernel
theorem dL_law_582 : decode cL_law 582 = .ok (.iconst 0, 1) := by decide +kernel
theorem dL_law_583 : decode cL_law 583 = .ok (.ireturn, 1) := by decide +kernel
theorem dL_law_584 : decode cL_law 584 = .ok (.aload_n 1, 1) := by decide +kernel
theorem dL_law_585 : decode cL_law 585 = .ok (.aload_n 0, 1) := by decide +kernel
theorem dL_law_586 : decode cL_law 586 = .ok (.iload_n 3, 1) := by decide +kernel
theorem dL_law_587 : decode cL_law 587 = .ok (.iconst 1, 1) := by decide +kernel
theorem dL_law_588 : decode cL_law 588 = .ok (.iadd, 1) := by decide +kernel
theorem dL_law_589 : decode cL_law 589 = .ok (.iaload, 1) := by decide +kernel
theorem dL_law_590 : decode cL_law 590 = .ok (.aload_n 0, 1) := by decide +kernel
theorem dL_law_591 : decode cL_law 591 = .ok (.iload_n 3, 1) := by decide +kernel
theorem dL_law_592 : decode cL_law 592 = .ok (.iconst 2, 1) := by decide +kernel
theorem dL_law_593 : decode cL_law 593 = .ok (.iadd, 1) := by decide +kernel
theorem dL_law_594 : decode cL_law 594 = .ok (.iaload, 1) := by decide +kernel
theorem dL_law_595 : decode cL_law 595 = .ok (.aload_n 0, 1) := by decide +kernel
theorem dL_law_596 : decode cL_law 596 = .ok (.iload_n 3, 1) := by decide +kernel
theorem dL_law_597 : decode cL_law 597 = .ok (.iconst 3, 1) := by decide +kernel
theorem dL_law_598 : decode cL_law 598 = .ok (.iadd, 1) := by decide +kernel
theorem dL_law_599 : decode cL_law 599 = .ok (.iaload, 1) := by decide +kernel
theorem dL_law_600 : decode cL_law 600 = .ok (.invokevirtual 96, 3) := by decide +kernel
theorem dL_law_603 : decode cL_law 603 = .ok (.aload_n 2, 1) := by decide +kernel
theorem dL_law_604 : decode cL_law 604 = .ok (.aload_n 0, 1) := by decide +kernel
theorem dL_law_605 : decode cL_law 605 = .ok (.iload_n 3, 1) := by decide +kernel
theorem dL_law_606 : decode cL_law 606 = .ok (.iconst 1, 1) := by decide +kernel
theorem dL_law_607 : decode cL_law 607 = .ok (.iadd, 1) := by decide +kernel
theorem dL_law_608 : decode cL_law 608 = .ok (.iaload, 1) := by decide +kernel
theorem dL_law_609 : decode cL_law 609 = .ok (.aload_n 0, 1) := by decide +kernel
theorem dL_law_610 : decode cL_law 610 = .ok (.iload_n 3, 1) := by decide +kernel
theorem dL_law_611 : decode cL_law 611 = .ok (.iconst 2, 1) := by decide +kernel
theorem dL_law_612 : decode cL_law 612 = .ok (.iadd, 1) := by decide +kernel
theorem dL_law_613 : decode cL_law 613 = .ok (.iaload, 1) := by decide +kernel
theorem dL_law_614 : decode cL_law 614 = .ok (.aload_n 0, 1) := by decide +kernel
theorem dL_law_615 : decode cL_law 615 = .ok (.iload_n 3, 1) := by decide +kernel
theorem dL_law_616 : decode cL_law 616 = .ok (.iconst 3, 1) := by decide +kernel
theorem dL_law_617 : decode cL_law 617 = .ok (.iadd, 1) := by decide +kernel
theorem dL_law_618 : decode cL_law 618 = .ok (.iaload, 1) := by decide +kernel
theorem dL_law_619 : decode cL_law 619 = .ok (.invokevirtual 100, 3) := by decide +kernel
theorem dL_law_622 : decode cL_law 622 = .ok (.if_icmp .eq 167, 3) := by decide +kernel
theorem dL_law_625 : decode cL_law 625 = .ok (.iconst 0, 1) := by decide +kernel
theorem dL_law_626 : decode cL_law 626 = .ok (.ireturn, 1) := by decide +kernel
theorem dL_law_627 : decode cL_law 627 = .ok (.aload_n 1, 1) := by decide +kernel
theorem dL_law_628 : decode cL_law 628 = .ok (.invokevirtual 101, 3) := by decide +kernel
theorem dL_law_631 : decode cL_law 631 = .ok (.aload_n 2, 1) := by decide +kernel
theorem dL_law_632 : decode cL_law 632 = .ok (.invokevirtual 104, 3) := by decide +kernel
theorem dL_law_635 : decode cL_law 635 = .ok (.if_icmp .eq 154, 3) := by decide +kernel
theorem dL_law_638 : decode cL_law 638 = .ok (.iconst 0, 1) := by decide +kernel
theorem dL_law_639 : decode cL_law 639 = .ok (.ireturn, 1) := by decide +kernel
theorem dL_law_640 : decode cL_law 640 = .ok (.aload_n 1, 1) := by decide +kernel
theorem dL_law_641 : decode cL_law 641 = .ok (.invokevirtual 105, 3) := by decide +kernel
theorem dL_law_644 : decode cL_law 644 = .ok (.aload_n 2, 1) := by decide +kernel
theorem dL_law_645 : decode cL_law 645 = .ok (.invokevirtual 108, 3) := by decide +kernel
theorem dL_law_648 : decode cL_law 648 = .ok (.if_icmp .eq 141, 3) := by decide +kernel
theorem dL_law_651 : decode cL_law 651 = .ok (.iconst 0, 1) := by decide +kernel
theorem dL_law_652 : decode cL_law 652 = .ok (.ireturn, 1) := by decide +kernel
theorem dL_law_653 : decode cL_law 653 = .ok (.aload_n 1, 1) := by decide +kernel
theorem dL_law_654 : decode cL_law 654 = .ok (.aload_n 0, 1) := by decide +kernel
theorem dL_law_655 : decode cL_law 655 = .ok (.iload_n 3, 1) := by decide +kernel
theorem dL_law_656 : decode cL_law 656 = .ok (.iconst 1, 1) := by decide +kernel
theorem dL_law_657 : decode cL_law 657 = .ok (.iadd, 1) := by decide +kernel
theorem dL_law_658 : decode cL_law 658 = .ok (.iaload, 1) := by decide +kernel
theorem dL_law_659 : decode cL_law 659 = .ok (.invokevirtual 109, 3) := by decide +kernel
theorem dL_law_662 : decode cL_law 662 = .ok (.aload_n 2, 1) := by decide +kernel
theorem dL_law_663 : decode cL_law 663 = .ok (.aload_n 0, 1) := by decide +kernel
theorem dL_law_664 : decode cL_law 664 = .ok (.iload_n 3, 1) := by decide +kernel
theorem dL_law_665 : decode cL_law 665 = .ok (.iconst 1, 1) := by decide +kernel
theorem dL_law_666 : decode cL_law 666 = .ok (.iadd, 1) := by decide +kernel
theorem dL_law_667 : decode cL_law 667 = .ok (.iaload, 1) := by decide +kernel
theorem dL_law_668 : decode cL_law 668 = .ok (.invokevirtual 112, 3) := by decide +kernel
theorem dL_law_671 : decode cL_law 671 = .ok (.if_icmp .eq 118, 3) := by decide +kernel
theorem dL_law_674 : decode cL_law 674 = .ok (.iconst 0, 1) := by decide +kernel
theorem dL_law_675 : decode cL_law 675 = .ok (.ireturn, 1) := by decide +kernel
theorem dL_law_676 : decode cL_law 676 = .ok (.aload_n 1, 1) := by decide +kernel
theorem dL_law_677 : decode cL_law 677 = .ok (.aload_n 0, 1) := by decide +kernel
theorem dL_law_678 : decode cL_law 678 = .ok (.iload_n 3, 1) := by decide +kernel
theorem dL_law_679 : decode cL_law 679 = .ok (.iconst 1, 1) := by decide +kernel
theorem dL_law_680 : decode cL_law 680 = .ok (.iadd, 1) := by decide +kernel
theorem dL_law_681 : decode cL_law 681 = .ok (.iaload, 1) := by decide +kernel
theorem dL_law_682 : decode cL_law 682 = .ok (.invokevirtual 113, 3) := by decide +kernel
theorem dL_law_685 : decode cL_law 685 = .ok (.aload_n 2, 1) := by decide +kernel
theorem dL_law_686 : decode cL_law 686 = .ok (.aload_n 0, 1) := by decide +kernel
theorem dL_law_687 : decode cL_law 687 = .ok (.iload_n 3, 1) := by decide +kernel
theorem dL_law_688 : decode cL_law 688 = .ok (.iconst 1, 1) := by decide +kernel
theorem dL_law_689 : decode cL_law 689 = .ok (.iadd, 1) := by decide +kernel
theorem dL_law_690 : decode cL_law 690 = .ok (.iaload, 1) := by decide +kernel
theorem dL_law_691 : decode cL_law 691 = .ok (.invokevirtual 116, 3) := by decide +kernel
theorem dL_law_694 : decode cL_law 694 = .ok (.if_icmp .eq 95, 3) := by decide +kernel
theorem dL_law_697 : decode cL_law 697 = .ok (.iconst 0, 1) := by decide +kernel
theorem dL_law_698 : decode cL_law 698 = .ok (.ireturn, 1) := by decide +kernel
theorem dL_law_699 : decode cL_law 699 = .ok (.aload_n 1, 1) := by decide +kernel
theorem dL_law_700 : decode cL_law 700 = .ok (.invokevirtual 117, 3) := by decide +kernel
theorem dL_law_703 : decode cL_law 703 = .ok (.aload_n 2, 1) := by decide +kernel
theorem dL_law_704 : decode cL_law 704 = .ok (.invokevirtual 120, 3) := by decide +kernel
theorem dL_law_707 : decode cL_law 707 = .ok (.if_icmp .eq 82, 3) := by decide +kernel
theorem dL_law_710 : decode cL_law 710 = .ok (.iconst 0, 1) := by decide +kernel
theorem dL_law_711 : decode cL_law 711 = .ok (.ireturn, 1) := by decide +kernel
theorem dL_law_712 : decode cL_law 712 = .ok (.aload_n 1, 1) := by decide +kernel
theorem dL_law_713 : decode cL_law 713 = .ok (.invokevirtual 121, 3) := by decide +kernel
theorem dL_law_716 : decode cL_law 716 = .ok (.aload_n 2, 1) := by decide +kernel
theorem dL_law_717 : decode cL_law 717 = .ok (.invokevirtual 124, 3) := by decide +kernel
theorem dL_law_720 : decode cL_law 720 = .ok (.if_icmp .eq 69, 3) := by decide +kernel
theorem dL_law_723 : decode cL_law 723 = .ok (.iconst 0, 1) := by decide +kernel
theorem dL_law_724 : decode cL_law 724 = .ok (.ireturn, 1) := by decide +kernel
theorem dL_law_725 : decode cL_law 725 = .ok (.aload_n 1, 1) := by decide +kernel
theorem dL_law_726 : decode cL_law 726 = .ok (.aload_n 0, 1) := by decide +kernel
theorem dL_law_727 : decode cL_law 727 = .ok (.iload_n 3, 1) := by decide +kernel
theorem dL_law_728 : decode cL_law 728 = .ok (.iconst 1, 1) := by decide +kernel
theorem dL_law_729 : decode cL_law 729 = .ok (.iadd, 1) := by decide +kernel
theorem dL_law_730 : decode cL_law 730 = .ok (.iaload, 1) := by decide +kernel
theorem dL_law_731 : decode cL_law 731 = .ok (.invokevirtual 125, 3) := by decide +kernel
theorem dL_law_734 : decode cL_law 734 = .ok (.aload_n 2, 1) := by decide +kernel
theorem dL_law_735 : decode cL_law 735 = .ok (.aload_n 0, 1) := by decide +kernel
theorem dL_law_736 : decode cL_law 736 = .ok (.iload_n 3, 1) := by decide +kernel
theorem dL_law_737 : decode cL_law 737 = .ok (.iconst 1, 1) := by decide +kernel
theorem dL_law_738 : decode cL_law 738 = .ok (.iadd, 1) := by decide +kernel
theorem dL_law_739 : decode cL_law 739 = .ok (.iaload, 1) := by decide +kernel
theorem dL_law_740 : decode cL_law 740 = .ok (.invokevirtual 128, 3) := by decide +kernel
theorem dL_law_743 : decode cL_law 743 = .ok (.if_icmp .eq 46, 3) := by decide +kernel
theorem dL_law_746 : decode cL_law 746 = .ok (.iconst 0, 1) := by decide +kernel
theorem dL_law_747 : decode cL_law 747 = .ok (.ireturn, 1) := by decide +kernel
theorem dL_law_748 : decode cL_law 748 = .ok (.aload_n 1, 1) := by decide +kernel
theorem dL_law_749 : decode cL_law 749 = .ok (.invokevirtual 129, 3) := by decide +kernel
theorem dL_law_752 : decode cL_law 752 = .ok (.dstore 4, 2) := by decide +kernel
theorem dL_law_754 : decode cL_law 754 = .ok (.aload_n 2, 1) := by decide +kernel
theorem dL_law_755 : decode cL_law 755 = .ok (.invokevirtual 133, 3) := by decide +kernel
theorem dL_law_758 : decode cL_law 758 = .ok (.dstore 6, 2) := by decide +kernel
theorem dL_law_760 : decode cL_law 760 = .ok (.dload 4, 2) := by decide +kernel
theorem dL_law_762 : decode cL_law 762 = .ok (.dload 6, 2) := by decide +kernel
theorem dL_law_764 : decode cL_law 764 = .ok (.dcmp .l, 1) := by decide +kernel
theorem dL_law_765 : decode cL_law 765 = .ok (.ifCond .eq 21, 3) := by decide +kernel
theorem dL_law_768 : decode cL_law 768 = .ok (.dload 4, 2) := by decide +kernel
theorem dL_law_770 : decode cL_law 770 = .ok (.dload 4, 2) := by decide +kernel
theorem dL_law_772 : decode cL_law 772 = .ok (.dcmp .l, 1) := by decide +kernel
theorem dL_law_773 : decode cL_law 773 = .ok (.ifCond .eq 11, 3) := by decide +kernel
theorem dL_law_776 : decode cL_law 776 = .ok (.dload 6, 2) := by decide +kernel
theorem dL_law_778 : decode cL_law 778 = .ok (.dload 6, 2) := by decide +kernel
theorem dL_law_780 : decode cL_law 780 = .ok (.dcmp .l, 1) := by decide +kernel
theorem dL_law_781 : decode cL_law 781 = .ok (.ifCond .ne 5, 3) := by decide +kernel
theorem dL_law_784 : decode cL_law 784 = .ok (.iconst 0, 1) := by decide +kernel
theorem dL_law_785 : decode cL_law 785 = .ok (.ireturn, 1) := by decide +kernel
theorem dL_law_786 : decode cL_law 786 = .ok (.goto 3, 3) := by decide +kernel
theorem dL_law_789 : decode cL_law 789 = .ok (.iinc 3 4, 3) := by decide +kernel
theorem dL_law_792 : decode cL_law 792 = .ok (.goto (-774), 3) := by decide +kernel
theorem dL_law_795 : decode cL_law 795 = .ok (.iconst 1, 1) := by decide +kernel
theorem dL_law_796 : decode cL_law 796 = .ok (.ireturn, 1) := by decide +kernel
abbrev vwCl : List vw_C := [(RX0, TX0, 7), (RX1, TX1, 3), (RX2, TX2, 4), (RX3, TX3, 1), (RX4, TX4, 7), (RX5, TX5, 6), (RX6, TX6, 6), (RX7, TX7, 13)]
end
section
theorem zz_t : True := trivial
end
