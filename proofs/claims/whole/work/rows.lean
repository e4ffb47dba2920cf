section
-- ===== PART A: goes FIRST, ahead of the names: the tables' words, and 'selects' of the private methods out of them =====
/-- a private method of a class that the tables say can be made, by its rows of tables_1 -/
def lw_okq (q : MethodName × Nat) : Prop := (q.1.cls ≠ "java/lang/invoke/MethodHandle" ∧ q.1.cls ≠ "java/lang/invoke/VarHandle") ∧ Cond.instantiable q.1.cls q.2 ∈ tables_1 ∧ Cond.privateMethod q.1 ∈ tables_1 ∧ Cond.instanceMethod q.1 ∈ tables_1
theorem lw_p0 : lw_okq (⟨"TypedBlocks$Text", "readItem", "()Z"⟩, 4) := ⟨⟨by decide +kernel, by decide +kernel⟩, List.mem_of_getElem? (i := 23) (by decide +kernel), List.mem_of_getElem? (i := 227) (by decide +kernel), List.mem_of_getElem? (i := 228) (by decide +kernel)⟩
theorem lw_p1 : lw_okq (⟨"TypedBlocks$Text", "peek", "()I"⟩, 4) := ⟨⟨by decide +kernel, by decide +kernel⟩, List.mem_of_getElem? (i := 23) (by decide +kernel), List.mem_of_getElem? (i := 231) (by decide +kernel), List.mem_of_getElem? (i := 232) (by decide +kernel)⟩
theorem lw_p2 : lw_okq (⟨"TypedBlocks$Text", "readSort", "()Z"⟩, 4) := ⟨⟨by decide +kernel, by decide +kernel⟩, List.mem_of_getElem? (i := 23) (by decide +kernel), List.mem_of_getElem? (i := 235) (by decide +kernel), List.mem_of_getElem? (i := 236) (by decide +kernel)⟩
theorem lw_p3 : lw_okq (⟨"TypedBlocks$Text", "readFigure", "()I"⟩, 4) := ⟨⟨by decide +kernel, by decide +kernel⟩, List.mem_of_getElem? (i := 23) (by decide +kernel), List.mem_of_getElem? (i := 246) (by decide +kernel), List.mem_of_getElem? (i := 247) (by decide +kernel)⟩
theorem lw_p4 : lw_okq (⟨"TypedBlocks$Text", "passes", "(I)Z"⟩, 4) := ⟨⟨by decide +kernel, by decide +kernel⟩, List.mem_of_getElem? (i := 23) (by decide +kernel), List.mem_of_getElem? (i := 270) (by decide +kernel), List.mem_of_getElem? (i := 271) (by decide +kernel)⟩
theorem lw_p5 : lw_okq (⟨"TypedBlocks$Text", "readLabel", "()Z"⟩, 4) := ⟨⟨by decide +kernel, by decide +kernel⟩, List.mem_of_getElem? (i := 23) (by decide +kernel), List.mem_of_getElem? (i := 274) (by decide +kernel), List.mem_of_getElem? (i := 275) (by decide +kernel)⟩
theorem lw_p6 : lw_okq (⟨"TypedBlocks$Text", "isTold", "(I)Z"⟩, 4) := ⟨⟨by decide +kernel, by decide +kernel⟩, List.mem_of_getElem? (i := 23) (by decide +kernel), List.mem_of_getElem? (i := 282) (by decide +kernel), List.mem_of_getElem? (i := 283) (by decide +kernel)⟩
theorem lw_p7 : lw_okq (⟨"TypedBlocks$Text", "readNumber", "()I"⟩, 4) := ⟨⟨by decide +kernel, by decide +kernel⟩, List.mem_of_getElem? (i := 23) (by decide +kernel), List.mem_of_getElem? (i := 311) (by decide +kernel), List.mem_of_getElem? (i := 312) (by decide +kernel)⟩
theorem lw_p8 : lw_okq (⟨"TypedBlocks$Text", "readInstruction", "()Z"⟩, 4) := ⟨⟨by decide +kernel, by decide +kernel⟩, List.mem_of_getElem? (i := 23) (by decide +kernel), List.mem_of_getElem? (i := 323) (by decide +kernel), List.mem_of_getElem? (i := 324) (by decide +kernel)⟩
theorem lw_p9 : lw_okq (⟨"TypedBlocks$Checker", "wantsSuffice", "(II)Z"⟩, 10) := ⟨⟨by decide +kernel, by decide +kernel⟩, List.mem_of_getElem? (i := 58) (by decide +kernel), List.mem_of_getElem? (i := 531) (by decide +kernel), List.mem_of_getElem? (i := 532) (by decide +kernel)⟩
theorem lw_p10 : lw_okq (⟨"TypedBlocks$Checker", "begin", "(I)V"⟩, 10) := ⟨⟨by decide +kernel, by decide +kernel⟩, List.mem_of_getElem? (i := 58) (by decide +kernel), List.mem_of_getElem? (i := 555) (by decide +kernel), List.mem_of_getElem? (i := 556) (by decide +kernel)⟩
theorem lw_p11 : lw_okq (⟨"TypedBlocks$Checker", "push", "(I)Z"⟩, 10) := ⟨⟨by decide +kernel, by decide +kernel⟩, List.mem_of_getElem? (i := 58) (by decide +kernel), List.mem_of_getElem? (i := 559) (by decide +kernel), List.mem_of_getElem? (i := 560) (by decide +kernel)⟩
theorem lw_p12 : lw_okq (⟨"TypedBlocks$Checker", "step", "(II)I"⟩, 10) := ⟨⟨by decide +kernel, by decide +kernel⟩, List.mem_of_getElem? (i := 58) (by decide +kernel), List.mem_of_getElem? (i := 563) (by decide +kernel), List.mem_of_getElem? (i := 564) (by decide +kernel)⟩
theorem lw_p13 : lw_okq (⟨"TypedBlocks$Checker", "setRegister", "(II)V"⟩, 10) := ⟨⟨by decide +kernel, by decide +kernel⟩, List.mem_of_getElem? (i := 58) (by decide +kernel), List.mem_of_getElem? (i := 572) (by decide +kernel), List.mem_of_getElem? (i := 573) (by decide +kernel)⟩
theorem lw_p14 : lw_okq (⟨"TypedBlocks$Checker", "tuple", "(II)I"⟩, 10) := ⟨⟨by decide +kernel, by decide +kernel⟩, List.mem_of_getElem? (i := 58) (by decide +kernel), List.mem_of_getElem? (i := 576) (by decide +kernel), List.mem_of_getElem? (i := 577) (by decide +kernel)⟩
theorem lw_p15 : lw_okq (⟨"TypedBlocks$Checker", "fieldsOf", "(I)I"⟩, 10) := ⟨⟨by decide +kernel, by decide +kernel⟩, List.mem_of_getElem? (i := 58) (by decide +kernel), List.mem_of_getElem? (i := 580) (by decide +kernel), List.mem_of_getElem? (i := 581) (by decide +kernel)⟩
def lw_privs_1 : List (MethodName × Nat) := [(⟨"TypedBlocks$Text", "readItem", "()Z"⟩, 4), (⟨"TypedBlocks$Text", "peek", "()I"⟩, 4), (⟨"TypedBlocks$Text", "readSort", "()Z"⟩, 4), (⟨"TypedBlocks$Text", "readFigure", "()I"⟩, 4), (⟨"TypedBlocks$Text", "passes", "(I)Z"⟩, 4), (⟨"TypedBlocks$Text", "readLabel", "()Z"⟩, 4), (⟨"TypedBlocks$Text", "isTold", "(I)Z"⟩, 4), (⟨"TypedBlocks$Text", "readNumber", "()I"⟩, 4), (⟨"TypedBlocks$Text", "readInstruction", "()Z"⟩, 4), (⟨"TypedBlocks$Checker", "wantsSuffice", "(II)Z"⟩, 10), (⟨"TypedBlocks$Checker", "begin", "(I)V"⟩, 10), (⟨"TypedBlocks$Checker", "push", "(I)Z"⟩, 10), (⟨"TypedBlocks$Checker", "step", "(II)I"⟩, 10), (⟨"TypedBlocks$Checker", "setRegister", "(II)V"⟩, 10), (⟨"TypedBlocks$Checker", "tuple", "(II)I"⟩, 10), (⟨"TypedBlocks$Checker", "fieldsOf", "(I)I"⟩, 10)]
theorem lw_r1 : ∀ q ∈ lw_privs_1, lw_okq q := List.forall_mem_cons.mpr ⟨lw_p0, List.forall_mem_cons.mpr ⟨lw_p1, List.forall_mem_cons.mpr ⟨lw_p2, List.forall_mem_cons.mpr ⟨lw_p3, List.forall_mem_cons.mpr ⟨lw_p4, List.forall_mem_cons.mpr ⟨lw_p5, List.forall_mem_cons.mpr ⟨lw_p6, List.forall_mem_cons.mpr ⟨lw_p7, List.forall_mem_cons.mpr ⟨lw_p8, List.forall_mem_cons.mpr ⟨lw_p9, List.forall_mem_cons.mpr ⟨lw_p10, List.forall_mem_cons.mpr ⟨lw_p11, List.forall_mem_cons.mpr ⟨lw_p12, List.forall_mem_cons.mpr ⟨lw_p13, List.forall_mem_cons.mpr ⟨lw_p14, List.forall_mem_cons.mpr ⟨lw_p15, fun _ h => absurd h List.not_mem_nil⟩⟩⟩⟩⟩⟩⟩⟩⟩⟩⟩⟩⟩⟩⟩⟩
theorem lw_p16 : lw_okq (⟨"TypedBlocks$Checker", "setField", "(III)I"⟩, 10) := ⟨⟨by decide +kernel, by decide +kernel⟩, List.mem_of_getElem? (i := 58) (by decide +kernel), List.mem_of_getElem? (i := 584) (by decide +kernel), List.mem_of_getElem? (i := 585) (by decide +kernel)⟩
theorem lw_p17 : lw_okq (⟨"TypedBlocks$Checker", "isEnough", "(II)Z"⟩, 10) := ⟨⟨by decide +kernel, by decide +kernel⟩, List.mem_of_getElem? (i := 58) (by decide +kernel), List.mem_of_getElem? (i := 595) (by decide +kernel), List.mem_of_getElem? (i := 596) (by decide +kernel)⟩
theorem lw_p18 : lw_okq (⟨"TypedBlocks$Checker", "fieldsSet", "(I)I"⟩, 10) := ⟨⟨by decide +kernel, by decide +kernel⟩, List.mem_of_getElem? (i := 58) (by decide +kernel), List.mem_of_getElem? (i := 602) (by decide +kernel), List.mem_of_getElem? (i := 603) (by decide +kernel)⟩
theorem lw_p19 : lw_okq (⟨"TypedBlocks$Checker", "getField", "(III)I"⟩, 10) := ⟨⟨by decide +kernel, by decide +kernel⟩, List.mem_of_getElem? (i := 58) (by decide +kernel), List.mem_of_getElem? (i := 606) (by decide +kernel), List.mem_of_getElem? (i := 607) (by decide +kernel)⟩
theorem lw_p20 : lw_okq (⟨"TypedBlocks$Checker", "pop", "(I)I"⟩, 10) := ⟨⟨by decide +kernel, by decide +kernel⟩, List.mem_of_getElem? (i := 58) (by decide +kernel), List.mem_of_getElem? (i := 610) (by decide +kernel), List.mem_of_getElem? (i := 611) (by decide +kernel)⟩
theorem lw_p21 : lw_okq (⟨"TypedBlocks$Checker", "jump", "(I)I"⟩, 10) := ⟨⟨by decide +kernel, by decide +kernel⟩, List.mem_of_getElem? (i := 58) (by decide +kernel), List.mem_of_getElem? (i := 618) (by decide +kernel), List.mem_of_getElem? (i := 619) (by decide +kernel)⟩
theorem lw_p22 : lw_okq (⟨"TypedBlocks", "mendsBy", "(III)Z"⟩, 7) := ⟨⟨by decide +kernel, by decide +kernel⟩, List.mem_of_getElem? (i := 15) (by decide +kernel), List.mem_of_getElem? (i := 665) (by decide +kernel), List.mem_of_getElem? (i := 666) (by decide +kernel)⟩
theorem lw_p23 : lw_okq (⟨"TypedBlocks$Machine", "makeFirstTuples", "(I)V"⟩, 11) := ⟨⟨by decide +kernel, by decide +kernel⟩, List.mem_of_getElem? (i := 101) (by decide +kernel), List.mem_of_getElem? (i := 677) (by decide +kernel), List.mem_of_getElem? (i := 678) (by decide +kernel)⟩
theorem lw_p24 : lw_okq (⟨"TypedBlocks$Machine", "push", "(I)Z"⟩, 11) := ⟨⟨by decide +kernel, by decide +kernel⟩, List.mem_of_getElem? (i := 101) (by decide +kernel), List.mem_of_getElem? (i := 688) (by decide +kernel), List.mem_of_getElem? (i := 689) (by decide +kernel)⟩
theorem lw_p25 : lw_okq (⟨"TypedBlocks$Machine", "goTo", "(I)V"⟩, 11) := ⟨⟨by decide +kernel, by decide +kernel⟩, List.mem_of_getElem? (i := 101) (by decide +kernel), List.mem_of_getElem? (i := 692) (by decide +kernel), List.mem_of_getElem? (i := 693) (by decide +kernel)⟩
theorem lw_p26 : lw_okq (⟨"TypedBlocks$Machine", "step", "()I"⟩, 11) := ⟨⟨by decide +kernel, by decide +kernel⟩, List.mem_of_getElem? (i := 101) (by decide +kernel), List.mem_of_getElem? (i := 701) (by decide +kernel), List.mem_of_getElem? (i := 702) (by decide +kernel)⟩
theorem lw_p27 : lw_okq (⟨"TypedBlocks$Machine", "goOnWith", "(II)I"⟩, 11) := ⟨⟨by decide +kernel, by decide +kernel⟩, List.mem_of_getElem? (i := 101) (by decide +kernel), List.mem_of_getElem? (i := 710) (by decide +kernel), List.mem_of_getElem? (i := 711) (by decide +kernel)⟩
theorem lw_p28 : lw_okq (⟨"TypedBlocks$Machine", "goOnBehind", "()I"⟩, 11) := ⟨⟨by decide +kernel, by decide +kernel⟩, List.mem_of_getElem? (i := 101) (by decide +kernel), List.mem_of_getElem? (i := 714) (by decide +kernel), List.mem_of_getElem? (i := 715) (by decide +kernel)⟩
theorem lw_p29 : lw_okq (⟨"TypedBlocks$Machine", "sum", "(II)I"⟩, 11) := ⟨⟨by decide +kernel, by decide +kernel⟩, List.mem_of_getElem? (i := 101) (by decide +kernel), List.mem_of_getElem? (i := 718) (by decide +kernel), List.mem_of_getElem? (i := 719) (by decide +kernel)⟩
theorem lw_p30 : lw_okq (⟨"TypedBlocks$Machine", "makeTuple", "(II)I"⟩, 11) := ⟨⟨by decide +kernel, by decide +kernel⟩, List.mem_of_getElem? (i := 101) (by decide +kernel), List.mem_of_getElem? (i := 725) (by decide +kernel), List.mem_of_getElem? (i := 726) (by decide +kernel)⟩
theorem lw_p31 : lw_okq (⟨"TypedBlocks$Machine", "setField", "(III)I"⟩, 11) := ⟨⟨by decide +kernel, by decide +kernel⟩, List.mem_of_getElem? (i := 101) (by decide +kernel), List.mem_of_getElem? (i := 729) (by decide +kernel), List.mem_of_getElem? (i := 730) (by decide +kernel)⟩
def lw_privs_2 : List (MethodName × Nat) := [(⟨"TypedBlocks$Checker", "setField", "(III)I"⟩, 10), (⟨"TypedBlocks$Checker", "isEnough", "(II)Z"⟩, 10), (⟨"TypedBlocks$Checker", "fieldsSet", "(I)I"⟩, 10), (⟨"TypedBlocks$Checker", "getField", "(III)I"⟩, 10), (⟨"TypedBlocks$Checker", "pop", "(I)I"⟩, 10), (⟨"TypedBlocks$Checker", "jump", "(I)I"⟩, 10), (⟨"TypedBlocks", "mendsBy", "(III)Z"⟩, 7), (⟨"TypedBlocks$Machine", "makeFirstTuples", "(I)V"⟩, 11), (⟨"TypedBlocks$Machine", "push", "(I)Z"⟩, 11), (⟨"TypedBlocks$Machine", "goTo", "(I)V"⟩, 11), (⟨"TypedBlocks$Machine", "step", "()I"⟩, 11), (⟨"TypedBlocks$Machine", "goOnWith", "(II)I"⟩, 11), (⟨"TypedBlocks$Machine", "goOnBehind", "()I"⟩, 11), (⟨"TypedBlocks$Machine", "sum", "(II)I"⟩, 11), (⟨"TypedBlocks$Machine", "makeTuple", "(II)I"⟩, 11), (⟨"TypedBlocks$Machine", "setField", "(III)I"⟩, 11)]
theorem lw_r2 : ∀ q ∈ lw_privs_2, lw_okq q := List.forall_mem_cons.mpr ⟨lw_p16, List.forall_mem_cons.mpr ⟨lw_p17, List.forall_mem_cons.mpr ⟨lw_p18, List.forall_mem_cons.mpr ⟨lw_p19, List.forall_mem_cons.mpr ⟨lw_p20, List.forall_mem_cons.mpr ⟨lw_p21, List.forall_mem_cons.mpr ⟨lw_p22, List.forall_mem_cons.mpr ⟨lw_p23, List.forall_mem_cons.mpr ⟨lw_p24, List.forall_mem_cons.mpr ⟨lw_p25, List.forall_mem_cons.mpr ⟨lw_p26, List.forall_mem_cons.mpr ⟨lw_p27, List.forall_mem_cons.mpr ⟨lw_p28, List.forall_mem_cons.mpr ⟨lw_p29, List.forall_mem_cons.mpr ⟨lw_p30, List.forall_mem_cons.mpr ⟨lw_p31, fun _ h => absurd h List.not_mem_nil⟩⟩⟩⟩⟩⟩⟩⟩⟩⟩⟩⟩⟩⟩⟩⟩
theorem lw_p32 : lw_okq (⟨"TypedBlocks$Machine", "fieldAt", "(II)I"⟩, 11) := ⟨⟨by decide +kernel, by decide +kernel⟩, List.mem_of_getElem? (i := 101) (by decide +kernel), List.mem_of_getElem? (i := 733) (by decide +kernel), List.mem_of_getElem? (i := 734) (by decide +kernel)⟩
theorem lw_p33 : lw_okq (⟨"TypedBlocks$Machine", "getField", "(III)I"⟩, 11) := ⟨⟨by decide +kernel, by decide +kernel⟩, List.mem_of_getElem? (i := 101) (by decide +kernel), List.mem_of_getElem? (i := 738) (by decide +kernel), List.mem_of_getElem? (i := 739) (by decide +kernel)⟩
theorem lw_p34 : lw_okq (⟨"TypedBlocks$Machine", "pop", "(I)I"⟩, 11) := ⟨⟨by decide +kernel, by decide +kernel⟩, List.mem_of_getElem? (i := 101) (by decide +kernel), List.mem_of_getElem? (i := 742) (by decide +kernel), List.mem_of_getElem? (i := 743) (by decide +kernel)⟩
theorem lw_p35 : lw_okq (⟨"TypedBlocks$Machine", "leave", "(III)I"⟩, 11) := ⟨⟨by decide +kernel, by decide +kernel⟩, List.mem_of_getElem? (i := 101) (by decide +kernel), List.mem_of_getElem? (i := 746) (by decide +kernel), List.mem_of_getElem? (i := 747) (by decide +kernel)⟩
theorem lw_p36 : lw_okq (⟨"TypedBlocks$Machine", "goOnAt", "(I)I"⟩, 11) := ⟨⟨by decide +kernel, by decide +kernel⟩, List.mem_of_getElem? (i := 101) (by decide +kernel), List.mem_of_getElem? (i := 750) (by decide +kernel), List.mem_of_getElem? (i := 751) (by decide +kernel)⟩
theorem lw_p37 : lw_okq (⟨"TypedBlocks", "change", "(I)V"⟩, 7) := ⟨⟨by decide +kernel, by decide +kernel⟩, List.mem_of_getElem? (i := 15) (by decide +kernel), List.mem_of_getElem? (i := 769) (by decide +kernel), List.mem_of_getElem? (i := 770) (by decide +kernel)⟩
theorem lw_p38 : lw_okq (⟨"TypedBlocksModel", "begins", "()V"⟩, 37) := ⟨⟨by decide +kernel, by decide +kernel⟩, List.mem_of_getElem? (i := 798) (by decide +kernel), List.mem_of_getElem? (i := 804) (by decide +kernel), List.mem_of_getElem? (i := 805) (by decide +kernel)⟩
theorem lw_p39 : lw_okq (⟨"TypedBlocksModel", "tellsSort", "(II)V"⟩, 37) := ⟨⟨by decide +kernel, by decide +kernel⟩, List.mem_of_getElem? (i := 798) (by decide +kernel), List.mem_of_getElem? (i := 808) (by decide +kernel), List.mem_of_getElem? (i := 809) (by decide +kernel)⟩
theorem lw_p40 : lw_okq (⟨"TypedBlocksModel", "tellsLabel", "(III)V"⟩, 37) := ⟨⟨by decide +kernel, by decide +kernel⟩, List.mem_of_getElem? (i := 798) (by decide +kernel), List.mem_of_getElem? (i := 812) (by decide +kernel), List.mem_of_getElem? (i := 813) (by decide +kernel)⟩
theorem lw_p41 : lw_okq (⟨"TypedBlocksModel", "tells", "(IIII)V"⟩, 37) := ⟨⟨by decide +kernel, by decide +kernel⟩, List.mem_of_getElem? (i := 798) (by decide +kernel), List.mem_of_getElem? (i := 816) (by decide +kernel), List.mem_of_getElem? (i := 817) (by decide +kernel)⟩
theorem lw_p42 : lw_okq (⟨"TypedBlocksModel", "settles", "()V"⟩, 37) := ⟨⟨by decide +kernel, by decide +kernel⟩, List.mem_of_getElem? (i := 798) (by decide +kernel), List.mem_of_getElem? (i := 820) (by decide +kernel), List.mem_of_getElem? (i := 821) (by decide +kernel)⟩
theorem lw_p43 : lw_okq (⟨"TypedBlocksModel", "reads", "()V"⟩, 37) := ⟨⟨by decide +kernel, by decide +kernel⟩, List.mem_of_getElem? (i := 798) (by decide +kernel), List.mem_of_getElem? (i := 953) (by decide +kernel), List.mem_of_getElem? (i := 954) (by decide +kernel)⟩
theorem lw_p44 : lw_okq (⟨"TypedBlocksModel", "letterAt", "(I)I"⟩, 37) := ⟨⟨by decide +kernel, by decide +kernel⟩, List.mem_of_getElem? (i := 798) (by decide +kernel), List.mem_of_getElem? (i := 957) (by decide +kernel), List.mem_of_getElem? (i := 958) (by decide +kernel)⟩
theorem lw_p45 : lw_okq (⟨"TypedBlocksModel", "sortItem", "()V"⟩, 37) := ⟨⟨by decide +kernel, by decide +kernel⟩, List.mem_of_getElem? (i := 798) (by decide +kernel), List.mem_of_getElem? (i := 961) (by decide +kernel), List.mem_of_getElem? (i := 962) (by decide +kernel)⟩
theorem lw_p46 : lw_okq (⟨"TypedBlocksModel", "isFigure", "()Z"⟩, 37) := ⟨⟨by decide +kernel, by decide +kernel⟩, List.mem_of_getElem? (i := 798) (by decide +kernel), List.mem_of_getElem? (i := 965) (by decide +kernel), List.mem_of_getElem? (i := 966) (by decide +kernel)⟩
theorem lw_p47 : lw_okq (⟨"TypedBlocksModel", "labelItem", "()V"⟩, 37) := ⟨⟨by decide +kernel, by decide +kernel⟩, List.mem_of_getElem? (i := 798) (by decide +kernel), List.mem_of_getElem? (i := 971) (by decide +kernel), List.mem_of_getElem? (i := 972) (by decide +kernel)⟩
def lw_privs_3 : List (MethodName × Nat) := [(⟨"TypedBlocks$Machine", "fieldAt", "(II)I"⟩, 11), (⟨"TypedBlocks$Machine", "getField", "(III)I"⟩, 11), (⟨"TypedBlocks$Machine", "pop", "(I)I"⟩, 11), (⟨"TypedBlocks$Machine", "leave", "(III)I"⟩, 11), (⟨"TypedBlocks$Machine", "goOnAt", "(I)I"⟩, 11), (⟨"TypedBlocks", "change", "(I)V"⟩, 7), (⟨"TypedBlocksModel", "begins", "()V"⟩, 37), (⟨"TypedBlocksModel", "tellsSort", "(II)V"⟩, 37), (⟨"TypedBlocksModel", "tellsLabel", "(III)V"⟩, 37), (⟨"TypedBlocksModel", "tells", "(IIII)V"⟩, 37), (⟨"TypedBlocksModel", "settles", "()V"⟩, 37), (⟨"TypedBlocksModel", "reads", "()V"⟩, 37), (⟨"TypedBlocksModel", "letterAt", "(I)I"⟩, 37), (⟨"TypedBlocksModel", "sortItem", "()V"⟩, 37), (⟨"TypedBlocksModel", "isFigure", "()Z"⟩, 37), (⟨"TypedBlocksModel", "labelItem", "()V"⟩, 37)]
theorem lw_r3 : ∀ q ∈ lw_privs_3, lw_okq q := List.forall_mem_cons.mpr ⟨lw_p32, List.forall_mem_cons.mpr ⟨lw_p33, List.forall_mem_cons.mpr ⟨lw_p34, List.forall_mem_cons.mpr ⟨lw_p35, List.forall_mem_cons.mpr ⟨lw_p36, List.forall_mem_cons.mpr ⟨lw_p37, List.forall_mem_cons.mpr ⟨lw_p38, List.forall_mem_cons.mpr ⟨lw_p39, List.forall_mem_cons.mpr ⟨lw_p40, List.forall_mem_cons.mpr ⟨lw_p41, List.forall_mem_cons.mpr ⟨lw_p42, List.forall_mem_cons.mpr ⟨lw_p43, List.forall_mem_cons.mpr ⟨lw_p44, List.forall_mem_cons.mpr ⟨lw_p45, List.forall_mem_cons.mpr ⟨lw_p46, List.forall_mem_cons.mpr ⟨lw_p47, fun _ h => absurd h List.not_mem_nil⟩⟩⟩⟩⟩⟩⟩⟩⟩⟩⟩⟩⟩⟩⟩⟩
theorem lw_p48 : lw_okq (⟨"TypedBlocksModel", "type", "()I"⟩, 37) := ⟨⟨by decide +kernel, by decide +kernel⟩, List.mem_of_getElem? (i := 798) (by decide +kernel), List.mem_of_getElem? (i := 975) (by decide +kernel), List.mem_of_getElem? (i := 976) (by decide +kernel)⟩
theorem lw_p49 : lw_okq (⟨"TypedBlocksModel", "comma", "()V"⟩, 37) := ⟨⟨by decide +kernel, by decide +kernel⟩, List.mem_of_getElem? (i := 798) (by decide +kernel), List.mem_of_getElem? (i := 981) (by decide +kernel), List.mem_of_getElem? (i := 982) (by decide +kernel)⟩
theorem lw_p50 : lw_okq (⟨"TypedBlocksModel", "number", "(II)I"⟩, 37) := ⟨⟨by decide +kernel, by decide +kernel⟩, List.mem_of_getElem? (i := 798) (by decide +kernel), List.mem_of_getElem? (i := 985) (by decide +kernel), List.mem_of_getElem? (i := 986) (by decide +kernel)⟩
theorem lw_p51 : lw_okq (⟨"TypedBlocksModel", "codeItem", "()V"⟩, 37) := ⟨⟨by decide +kernel, by decide +kernel⟩, List.mem_of_getElem? (i := 798) (by decide +kernel), List.mem_of_getElem? (i := 989) (by decide +kernel), List.mem_of_getElem? (i := 990) (by decide +kernel)⟩
theorem lw_p52 : lw_okq (⟨"TypedBlocksModel", "isLabel", "(I)Z"⟩, 37) := ⟨⟨by decide +kernel, by decide +kernel⟩, List.mem_of_getElem? (i := 798) (by decide +kernel), List.mem_of_getElem? (i := 1013) (by decide +kernel), List.mem_of_getElem? (i := 1014) (by decide +kernel)⟩
theorem lw_p53 : lw_okq (⟨"TypedBlocksModel", "many", "(II)I"⟩, 37) := ⟨⟨by decide +kernel, by decide +kernel⟩, List.mem_of_getElem? (i := 798) (by decide +kernel), List.mem_of_getElem? (i := 1019) (by decide +kernel), List.mem_of_getElem? (i := 1020) (by decide +kernel)⟩
theorem lw_p54 : lw_okq (⟨"TypedBlocksModel", "isCode", "(II)Z"⟩, 37) := ⟨⟨by decide +kernel, by decide +kernel⟩, List.mem_of_getElem? (i := 798) (by decide +kernel), List.mem_of_getElem? (i := 1027) (by decide +kernel), List.mem_of_getElem? (i := 1028) (by decide +kernel)⟩
theorem lw_p55 : lw_okq (⟨"TypedBlocksModel", "known", "()V"⟩, 37) := ⟨⟨by decide +kernel, by decide +kernel⟩, List.mem_of_getElem? (i := 798) (by decide +kernel), List.mem_of_getElem? (i := 1039) (by decide +kernel), List.mem_of_getElem? (i := 1040) (by decide +kernel)⟩
theorem lw_p56 : lw_okq (⟨"TypedBlocksModel", "copies", "(II)V"⟩, 37) := ⟨⟨by decide +kernel, by decide +kernel⟩, List.mem_of_getElem? (i := 798) (by decide +kernel), List.mem_of_getElem? (i := 1043) (by decide +kernel), List.mem_of_getElem? (i := 1044) (by decide +kernel)⟩
theorem lw_p57 : lw_okq (⟨"TypedBlocksModel", "writes", "(IIIIIII)V"⟩, 37) := ⟨⟨by decide +kernel, by decide +kernel⟩, List.mem_of_getElem? (i := 798) (by decide +kernel), List.mem_of_getElem? (i := 1047) (by decide +kernel), List.mem_of_getElem? (i := 1048) (by decide +kernel)⟩
theorem lw_p58 : lw_okq (⟨"TypedBlocksModel", "isType", "(I)Z"⟩, 37) := ⟨⟨by decide +kernel, by decide +kernel⟩, List.mem_of_getElem? (i := 798) (by decide +kernel), List.mem_of_getElem? (i := 1063) (by decide +kernel), List.mem_of_getElem? (i := 1064) (by decide +kernel)⟩
theorem lw_p59 : lw_okq (⟨"TypedBlocksModel", "checks", "(III)V"⟩, 37) := ⟨⟨by decide +kernel, by decide +kernel⟩, List.mem_of_getElem? (i := 798) (by decide +kernel), List.mem_of_getElem? (i := 1080) (by decide +kernel), List.mem_of_getElem? (i := 1081) (by decide +kernel)⟩
theorem lw_p60 : lw_okq (⟨"TypedBlocksModel", "stands", "(II)V"⟩, 37) := ⟨⟨by decide +kernel, by decide +kernel⟩, List.mem_of_getElem? (i := 798) (by decide +kernel), List.mem_of_getElem? (i := 1084) (by decide +kernel), List.mem_of_getElem? (i := 1085) (by decide +kernel)⟩
theorem lw_p61 : lw_okq (⟨"TypedBlocksModel", "goes", "(II)I"⟩, 37) := ⟨⟨by decide +kernel, by decide +kernel⟩, List.mem_of_getElem? (i := 798) (by decide +kernel), List.mem_of_getElem? (i := 1088) (by decide +kernel), List.mem_of_getElem? (i := 1089) (by decide +kernel)⟩
theorem lw_p62 : lw_okq (⟨"TypedBlocksModel", "moves", "(II)I"⟩, 37) := ⟨⟨by decide +kernel, by decide +kernel⟩, List.mem_of_getElem? (i := 798) (by decide +kernel), List.mem_of_getElem? (i := 1092) (by decide +kernel), List.mem_of_getElem? (i := 1093) (by decide +kernel)⟩
theorem lw_p63 : lw_okq (⟨"TypedBlocksModel", "puts", "(IIII)I"⟩, 37) := ⟨⟨by decide +kernel, by decide +kernel⟩, List.mem_of_getElem? (i := 798) (by decide +kernel), List.mem_of_getElem? (i := 1096) (by decide +kernel), List.mem_of_getElem? (i := 1097) (by decide +kernel)⟩
def lw_privs_4 : List (MethodName × Nat) := [(⟨"TypedBlocksModel", "type", "()I"⟩, 37), (⟨"TypedBlocksModel", "comma", "()V"⟩, 37), (⟨"TypedBlocksModel", "number", "(II)I"⟩, 37), (⟨"TypedBlocksModel", "codeItem", "()V"⟩, 37), (⟨"TypedBlocksModel", "isLabel", "(I)Z"⟩, 37), (⟨"TypedBlocksModel", "many", "(II)I"⟩, 37), (⟨"TypedBlocksModel", "isCode", "(II)Z"⟩, 37), (⟨"TypedBlocksModel", "known", "()V"⟩, 37), (⟨"TypedBlocksModel", "copies", "(II)V"⟩, 37), (⟨"TypedBlocksModel", "writes", "(IIIIIII)V"⟩, 37), (⟨"TypedBlocksModel", "isType", "(I)Z"⟩, 37), (⟨"TypedBlocksModel", "checks", "(III)V"⟩, 37), (⟨"TypedBlocksModel", "stands", "(II)V"⟩, 37), (⟨"TypedBlocksModel", "goes", "(II)I"⟩, 37), (⟨"TypedBlocksModel", "moves", "(II)I"⟩, 37), (⟨"TypedBlocksModel", "puts", "(IIII)I"⟩, 37)]
theorem lw_r4 : ∀ q ∈ lw_privs_4, lw_okq q := List.forall_mem_cons.mpr ⟨lw_p48, List.forall_mem_cons.mpr ⟨lw_p49, List.forall_mem_cons.mpr ⟨lw_p50, List.forall_mem_cons.mpr ⟨lw_p51, List.forall_mem_cons.mpr ⟨lw_p52, List.forall_mem_cons.mpr ⟨lw_p53, List.forall_mem_cons.mpr ⟨lw_p54, List.forall_mem_cons.mpr ⟨lw_p55, List.forall_mem_cons.mpr ⟨lw_p56, List.forall_mem_cons.mpr ⟨lw_p57, List.forall_mem_cons.mpr ⟨lw_p58, List.forall_mem_cons.mpr ⟨lw_p59, List.forall_mem_cons.mpr ⟨lw_p60, List.forall_mem_cons.mpr ⟨lw_p61, List.forall_mem_cons.mpr ⟨lw_p62, List.forall_mem_cons.mpr ⟨lw_p63, fun _ h => absurd h List.not_mem_nil⟩⟩⟩⟩⟩⟩⟩⟩⟩⟩⟩⟩⟩⟩⟩⟩
theorem lw_p64 : lw_okq (⟨"TypedBlocksModel", "isEnough", "(III)Z"⟩, 37) := ⟨⟨by decide +kernel, by decide +kernel⟩, List.mem_of_getElem? (i := 798) (by decide +kernel), List.mem_of_getElem? (i := 1106) (by decide +kernel), List.mem_of_getElem? (i := 1107) (by decide +kernel)⟩
theorem lw_p65 : lw_okq (⟨"TypedBlocksModel", "joinsFlat", "(III)Z"⟩, 37) := ⟨⟨by decide +kernel, by decide +kernel⟩, List.mem_of_getElem? (i := 798) (by decide +kernel), List.mem_of_getElem? (i := 1110) (by decide +kernel), List.mem_of_getElem? (i := 1111) (by decide +kernel)⟩
theorem lw_p66 : lw_okq (⟨"TypedBlocksModel", "setOf", "(I)I"⟩, 37) := ⟨⟨by decide +kernel, by decide +kernel⟩, List.mem_of_getElem? (i := 798) (by decide +kernel), List.mem_of_getElem? (i := 1114) (by decide +kernel), List.mem_of_getElem? (i := 1115) (by decide +kernel)⟩
theorem lw_p67 : lw_okq (⟨"TypedBlocksModel", "gets", "(III)I"⟩, 37) := ⟨⟨by decide +kernel, by decide +kernel⟩, List.mem_of_getElem? (i := 798) (by decide +kernel), List.mem_of_getElem? (i := 1118) (by decide +kernel), List.mem_of_getElem? (i := 1119) (by decide +kernel)⟩
theorem lw_p68 : lw_okq (⟨"TypedBlocksModel", "pushes", "(I)I"⟩, 37) := ⟨⟨by decide +kernel, by decide +kernel⟩, List.mem_of_getElem? (i := 798) (by decide +kernel), List.mem_of_getElem? (i := 1125) (by decide +kernel), List.mem_of_getElem? (i := 1126) (by decide +kernel)⟩
theorem lw_p69 : lw_okq (⟨"TypedBlocksModel", "pops", "(I)I"⟩, 37) := ⟨⟨by decide +kernel, by decide +kernel⟩, List.mem_of_getElem? (i := 798) (by decide +kernel), List.mem_of_getElem? (i := 1129) (by decide +kernel), List.mem_of_getElem? (i := 1130) (by decide +kernel)⟩
theorem lw_p70 : lw_okq (⟨"TypedBlocksModel", "jumps", "(II)I"⟩, 37) := ⟨⟨by decide +kernel, by decide +kernel⟩, List.mem_of_getElem? (i := 798) (by decide +kernel), List.mem_of_getElem? (i := 1133) (by decide +kernel), List.mem_of_getElem? (i := 1134) (by decide +kernel)⟩
theorem lw_p71 : lw_okq (⟨"TypedBlocksModel", "areEnough", "(II)Z"⟩, 37) := ⟨⟨by decide +kernel, by decide +kernel⟩, List.mem_of_getElem? (i := 798) (by decide +kernel), List.mem_of_getElem? (i := 1137) (by decide +kernel), List.mem_of_getElem? (i := 1138) (by decide +kernel)⟩
theorem lw_p72 : lw_okq (⟨"TypedBlocksModel", "isStackEnough", "(II)Z"⟩, 37) := ⟨⟨by decide +kernel, by decide +kernel⟩, List.mem_of_getElem? (i := 798) (by decide +kernel), List.mem_of_getElem? (i := 1141) (by decide +kernel), List.mem_of_getElem? (i := 1142) (by decide +kernel)⟩
theorem lw_p73 : lw_okq (⟨"TypedBlocksModel", "sureOnes", "(I)I"⟩, 37) := ⟨⟨by decide +kernel, by decide +kernel⟩, List.mem_of_getElem? (i := 798) (by decide +kernel), List.mem_of_getElem? (i := 1161) (by decide +kernel), List.mem_of_getElem? (i := 1162) (by decide +kernel)⟩
theorem lw_p74 : lw_okq (⟨"TypedBlocksModel", "isSure", "(II)Z"⟩, 37) := ⟨⟨by decide +kernel, by decide +kernel⟩, List.mem_of_getElem? (i := 798) (by decide +kernel), List.mem_of_getElem? (i := 1165) (by decide +kernel), List.mem_of_getElem? (i := 1166) (by decide +kernel)⟩
theorem lw_p75 : lw_okq (⟨"TypedBlocksModel", "starts", "(I)V"⟩, 37) := ⟨⟨by decide +kernel, by decide +kernel⟩, List.mem_of_getElem? (i := 798) (by decide +kernel), List.mem_of_getElem? (i := 1192) (by decide +kernel), List.mem_of_getElem? (i := 1193) (by decide +kernel)⟩
theorem lw_p76 : lw_okq (⟨"TypedBlocksModel", "step", "()V"⟩, 37) := ⟨⟨by decide +kernel, by decide +kernel⟩, List.mem_of_getElem? (i := 798) (by decide +kernel), List.mem_of_getElem? (i := 1199) (by decide +kernel), List.mem_of_getElem? (i := 1200) (by decide +kernel)⟩
theorem lw_p77 : lw_okq (⟨"TypedBlocksModel", "lands", "(II)V"⟩, 37) := ⟨⟨by decide +kernel, by decide +kernel⟩, List.mem_of_getElem? (i := 798) (by decide +kernel), List.mem_of_getElem? (i := 1203) (by decide +kernel), List.mem_of_getElem? (i := 1204) (by decide +kernel)⟩
theorem lw_p78 : lw_okq (⟨"TypedBlocksModel", "adds", "(II)V"⟩, 37) := ⟨⟨by decide +kernel, by decide +kernel⟩, List.mem_of_getElem? (i := 798) (by decide +kernel), List.mem_of_getElem? (i := 1207) (by decide +kernel), List.mem_of_getElem? (i := 1208) (by decide +kernel)⟩
theorem lw_p79 : lw_okq (⟨"TypedBlocksModel", "makes", "(II)V"⟩, 37) := ⟨⟨by decide +kernel, by decide +kernel⟩, List.mem_of_getElem? (i := 798) (by decide +kernel), List.mem_of_getElem? (i := 1214) (by decide +kernel), List.mem_of_getElem? (i := 1215) (by decide +kernel)⟩
def lw_privs_5 : List (MethodName × Nat) := [(⟨"TypedBlocksModel", "isEnough", "(III)Z"⟩, 37), (⟨"TypedBlocksModel", "joinsFlat", "(III)Z"⟩, 37), (⟨"TypedBlocksModel", "setOf", "(I)I"⟩, 37), (⟨"TypedBlocksModel", "gets", "(III)I"⟩, 37), (⟨"TypedBlocksModel", "pushes", "(I)I"⟩, 37), (⟨"TypedBlocksModel", "pops", "(I)I"⟩, 37), (⟨"TypedBlocksModel", "jumps", "(II)I"⟩, 37), (⟨"TypedBlocksModel", "areEnough", "(II)Z"⟩, 37), (⟨"TypedBlocksModel", "isStackEnough", "(II)Z"⟩, 37), (⟨"TypedBlocksModel", "sureOnes", "(I)I"⟩, 37), (⟨"TypedBlocksModel", "isSure", "(II)Z"⟩, 37), (⟨"TypedBlocksModel", "starts", "(I)V"⟩, 37), (⟨"TypedBlocksModel", "step", "()V"⟩, 37), (⟨"TypedBlocksModel", "lands", "(II)V"⟩, 37), (⟨"TypedBlocksModel", "adds", "(II)V"⟩, 37), (⟨"TypedBlocksModel", "makes", "(II)V"⟩, 37)]
theorem lw_r5 : ∀ q ∈ lw_privs_5, lw_okq q := List.forall_mem_cons.mpr ⟨lw_p64, List.forall_mem_cons.mpr ⟨lw_p65, List.forall_mem_cons.mpr ⟨lw_p66, List.forall_mem_cons.mpr ⟨lw_p67, List.forall_mem_cons.mpr ⟨lw_p68, List.forall_mem_cons.mpr ⟨lw_p69, List.forall_mem_cons.mpr ⟨lw_p70, List.forall_mem_cons.mpr ⟨lw_p71, List.forall_mem_cons.mpr ⟨lw_p72, List.forall_mem_cons.mpr ⟨lw_p73, List.forall_mem_cons.mpr ⟨lw_p74, List.forall_mem_cons.mpr ⟨lw_p75, List.forall_mem_cons.mpr ⟨lw_p76, List.forall_mem_cons.mpr ⟨lw_p77, List.forall_mem_cons.mpr ⟨lw_p78, List.forall_mem_cons.mpr ⟨lw_p79, fun _ h => absurd h List.not_mem_nil⟩⟩⟩⟩⟩⟩⟩⟩⟩⟩⟩⟩⟩⟩⟩⟩
theorem lw_p80 : lw_okq (⟨"TypedBlocksModel", "stores", "(III)V"⟩, 37) := ⟨⟨by decide +kernel, by decide +kernel⟩, List.mem_of_getElem? (i := 798) (by decide +kernel), List.mem_of_getElem? (i := 1218) (by decide +kernel), List.mem_of_getElem? (i := 1219) (by decide +kernel)⟩
theorem lw_p81 : lw_okq (⟨"TypedBlocksModel", "loads", "(III)V"⟩, 37) := ⟨⟨by decide +kernel, by decide +kernel⟩, List.mem_of_getElem? (i := 798) (by decide +kernel), List.mem_of_getElem? (i := 1227) (by decide +kernel), List.mem_of_getElem? (i := 1228) (by decide +kernel)⟩
theorem lw_p82 : lw_okq (⟨"TypedBlocksModel", "piles", "(I)V"⟩, 37) := ⟨⟨by decide +kernel, by decide +kernel⟩, List.mem_of_getElem? (i := 798) (by decide +kernel), List.mem_of_getElem? (i := 1231) (by decide +kernel), List.mem_of_getElem? (i := 1232) (by decide +kernel)⟩
theorem lw_p83 : lw_okq (⟨"TypedBlocksModel", "unpiles", "(I)V"⟩, 37) := ⟨⟨by decide +kernel, by decide +kernel⟩, List.mem_of_getElem? (i := 798) (by decide +kernel), List.mem_of_getElem? (i := 1235) (by decide +kernel), List.mem_of_getElem? (i := 1236) (by decide +kernel)⟩
theorem lw_p84 : lw_okq (⟨"TypedBlocksModel", "goesTo", "(I)V"⟩, 37) := ⟨⟨by decide +kernel, by decide +kernel⟩, List.mem_of_getElem? (i := 798) (by decide +kernel), List.mem_of_getElem? (i := 1239) (by decide +kernel), List.mem_of_getElem? (i := 1240) (by decide +kernel)⟩
theorem lw_p85 : lw_okq (⟨"TypedBlocksModel", "parts", "(II)V"⟩, 37) := ⟨⟨by decide +kernel, by decide +kernel⟩, List.mem_of_getElem? (i := 798) (by decide +kernel), List.mem_of_getElem? (i := 1243) (by decide +kernel), List.mem_of_getElem? (i := 1244) (by decide +kernel)⟩
theorem lw_p86 : lw_okq (⟨"TypedBlocksModel", "backs", "(I)V"⟩, 37) := ⟨⟨by decide +kernel, by decide +kernel⟩, List.mem_of_getElem? (i := 798) (by decide +kernel), List.mem_of_getElem? (i := 1247) (by decide +kernel), List.mem_of_getElem? (i := 1248) (by decide +kernel)⟩
def lw_privs_6 : List (MethodName × Nat) := [(⟨"TypedBlocksModel", "stores", "(III)V"⟩, 37), (⟨"TypedBlocksModel", "loads", "(III)V"⟩, 37), (⟨"TypedBlocksModel", "piles", "(I)V"⟩, 37), (⟨"TypedBlocksModel", "unpiles", "(I)V"⟩, 37), (⟨"TypedBlocksModel", "goesTo", "(I)V"⟩, 37), (⟨"TypedBlocksModel", "parts", "(II)V"⟩, 37), (⟨"TypedBlocksModel", "backs", "(I)V"⟩, 37)]
theorem lw_r6 : ∀ q ∈ lw_privs_6, lw_okq q := List.forall_mem_cons.mpr ⟨lw_p80, List.forall_mem_cons.mpr ⟨lw_p81, List.forall_mem_cons.mpr ⟨lw_p82, List.forall_mem_cons.mpr ⟨lw_p83, List.forall_mem_cons.mpr ⟨lw_p84, List.forall_mem_cons.mpr ⟨lw_p85, List.forall_mem_cons.mpr ⟨lw_p86, fun _ h => absurd h List.not_mem_nil⟩⟩⟩⟩⟩⟩⟩
def lw_privs : List (MethodName × Nat) := lw_privs_1 ++ (lw_privs_2 ++ (lw_privs_3 ++ (lw_privs_4 ++ (lw_privs_5 ++ (lw_privs_6)))))
def lw_tbl : List Cond := k2_sels lw_privs ++ tables_1
theorem lw_privs_ok : ∀ q ∈ lw_privs, lw_okq q := by
  show ∀ q ∈ lw_privs_1 ++ (lw_privs_2 ++ (lw_privs_3 ++ (lw_privs_4 ++ (lw_privs_5 ++ (lw_privs_6))))), lw_okq q
  exact List.forall_mem_append.mpr ⟨lw_r1, List.forall_mem_append.mpr ⟨lw_r2, List.forall_mem_append.mpr ⟨lw_r3, List.forall_mem_append.mpr ⟨lw_r4, List.forall_mem_append.mpr ⟨lw_r5, lw_r6⟩⟩⟩⟩⟩
-- ===== end of PART A; then your names; then what follows =====
end
section
/-! the tables of the mini machine: methods, links (printed by program out of the claim's own names and words) -/
def mcode : List ByteArray := [prog_2_method_1_code, prog_2_method_2_code, prog_2_method_3_code, prog_2_method_4_code, prog_2_method_5_code, prog_2_method_6_code, prog_2_method_7_code, prog_2_method_8_code, prog_2_method_9_code, prog_2_method_10_code, prog_2_method_11_code, prog_2_method_12_code, prog_2_method_13_code, prog_2_method_14_code, prog_2_method_15_code, prog_2_method_16_code, prog_2_method_17_code, prog_2_method_18_code, prog_2_method_19_code, prog_2_method_20_code, prog_2_method_21_code, prog_2_method_22_code, prog_2_method_23_code, prog_2_method_24_code, prog_2_method_25_code, prog_2_method_26_code, prog_3_method_1_code, prog_3_method_2_code, prog_3_method_3_code, prog_3_method_4_code, prog_3_method_5_code, prog_3_method_6_code, prog_3_method_7_code, prog_3_method_8_code, prog_3_method_9_code, prog_3_method_10_code, prog_3_method_11_code, prog_3_method_12_code, prog_3_method_13_code, prog_3_method_14_code, prog_3_method_15_code, prog_3_method_16_code, prog_3_method_17_code, prog_3_method_18_code, prog_3_method_19_code, prog_3_method_20_code, prog_3_method_21_code, prog_4_method_1_code, prog_4_method_2_code, prog_4_method_3_code, prog_4_method_4_code, prog_4_method_5_code, prog_4_method_6_code, prog_4_method_7_code, prog_4_method_8_code, prog_4_method_9_code, prog_4_method_10_code, prog_4_method_11_code, prog_4_method_12_code, prog_4_method_13_code, prog_4_method_14_code, prog_4_method_15_code, prog_4_method_16_code, prog_4_method_17_code, prog_4_method_18_code, prog_4_method_19_code, prog_4_method_20_code, prog_4_method_21_code, prog_4_method_22_code, prog_4_method_23_code, prog_4_method_24_code, prog_4_method_25_code, prog_4_method_26_code, prog_4_method_27_code, prog_4_method_28_code, prog_4_method_29_code, prog_4_method_30_code, prog_4_method_31_code, prog_4_method_32_code, prog_4_method_33_code, prog_4_method_34_code, prog_4_method_35_code, prog_4_method_36_code, prog_4_method_37_code, prog_4_method_38_code, prog_4_method_39_code, prog_5_method_1_code, prog_5_method_2_code, prog_5_method_3_code, prog_5_method_4_code, prog_6_method_1_code, prog_6_method_2_code, prog_6_method_3_code, prog_6_method_4_code, prog_6_method_5_code, prog_6_method_6_code, prog_6_method_7_code, prog_6_method_8_code, prog_6_method_9_code, prog_6_method_10_code, prog_6_method_11_code, prog_6_method_12_code, prog_6_method_13_code, prog_6_method_14_code, prog_1_method_1_code, prog_1_method_2_code, prog_1_method_3_code, prog_1_method_4_code, prog_1_method_5_code, prog_1_method_6_code, prog_1_method_7_code, prog_1_method_8_code, prog_1_method_9_code, prog_1_method_10_code, prog_1_method_11_code, prog_1_method_12_code, prog_1_method_13_code, prog_1_method_14_code, prog_1_method_15_code, prog_1_method_16_code, prog_1_method_17_code, prog_1_method_18_code, prog_1_method_19_code, prog_1_method_20_code, prog_1_method_21_code, prog_1_method_22_code, prog_1_method_23_code, prog_1_method_24_code, prog_1_method_25_code, prog_1_method_26_code, prog_1_method_27_code, prog_1_method_28_code, prog_1_method_29_code, prog_1_method_30_code, prog_8_method_1_code, prog_8_method_2_code, prog_8_method_3_code, prog_8_method_4_code, prog_8_method_5_code, prog_8_method_6_code, prog_8_method_7_code, prog_8_method_8_code, prog_8_method_9_code, prog_8_method_10_code, prog_8_method_11_code, prog_8_method_12_code, prog_8_method_13_code, prog_8_method_14_code, prog_8_method_15_code, prog_8_method_16_code, prog_8_method_17_code, prog_8_method_18_code, prog_8_method_19_code, prog_8_method_20_code, prog_8_method_21_code, prog_8_method_22_code, prog_8_method_23_code, prog_8_method_24_code, prog_8_method_25_code, prog_8_method_26_code, prog_8_method_27_code, prog_8_method_28_code, prog_8_method_29_code, prog_8_method_30_code, prog_8_method_31_code, prog_8_method_32_code, prog_8_method_33_code, prog_8_method_34_code, prog_8_method_35_code, prog_8_method_36_code, prog_8_method_37_code, prog_8_method_38_code, prog_8_method_39_code, prog_8_method_40_code, prog_8_method_41_code, prog_8_method_42_code, prog_8_method_43_code, prog_8_method_44_code, prog_8_method_45_code, prog_8_method_46_code, prog_8_method_47_code, prog_8_method_48_code, prog_8_method_49_code, prog_8_method_50_code, prog_8_method_51_code, prog_8_method_52_code, prog_8_method_53_code, prog_8_method_54_code, prog_8_method_55_code, prog_8_method_56_code, prog_8_method_57_code, prog_8_method_58_code, prog_8_method_59_code, prog_8_method_60_code, prog_8_method_61_code, prog_8_method_62_code, prog_8_method_63_code, prog_8_method_64_code, prog_8_method_65_code, prog_8_method_66_code, prog_8_method_67_code, prog_8_method_68_code, prog_8_method_69_code, prog_8_method_70_code, prog_8_method_71_code, prog_8_method_72_code, prog_8_method_73_code, prog_8_method_74_code, prog_8_method_75_code, prog_8_method_76_code, prog_8_method_77_code, prog_8_method_78_code, prog_8_method_79_code, prog_8_method_80_code, prog_8_method_81_code, prog_8_method_82_code, prog_8_method_83_code, prog_8_method_84_code, prog_8_method_85_code, prog_8_method_86_code, prog_8_method_87_code, prog_8_method_88_code, prog_9_method_49_code, code]
def codeOf (m : Nat) : ByteArray := mcode.getD m ⟨#[]⟩
/-- own, maxLocals, parameters (without the receiver), what it answers (0 nothing, 1 an int, 2 a boolean), how deep it calls -/
def mtab : List (Nat × Nat × Nat × Nat × Nat) := [(0, 1, 0, 0, 2), (0, 4, 1, 0, 3), (0, 5, 2, 2, 2), (0, 2, 2, 2, 0), (0, 4, 4, 2, 0), (0, 4, 2, 2, 1), (0, 1, 1, 2, 0), (0, 2, 1, 1, 0), (0, 3, 2, 0, 0), (0, 3, 1, 1, 0), (0, 3, 1, 0, 2), (0, 4, 2, 2, 4), (0, 3, 1, 2, 5), (0, 3, 0, 1, 6), (0, 4, 1, 1, 3), (0, 6, 2, 1, 3), (0, 4, 1, 1, 2), (0, 6, 3, 1, 2), (0, 6, 3, 1, 2), (0, 2, 1, 2, 0), (0, 2, 1, 1, 1), (0, 1, 1, 2, 0), (0, 1, 1, 1, 0), (0, 2, 1, 1, 0), (0, 2, 1, 1, 1), (0, 3, 2, 1, 1), (1, 1, 0, 0, 2), (1, 4, 2, 0, 3), (1, 4, 1, 0, 2), (1, 2, 2, 1, 0), (1, 3, 1, 0, 5), (1, 2, 1, 0, 0), (1, 2, 1, 1, 0), (1, 1, 1, 2, 0), (1, 1, 1, 2, 0), (1, 5, 0, 1, 4), (1, 4, 3, 1, 2), (1, 2, 1, 1, 1), (1, 1, 0, 1, 0), (1, 3, 2, 1, 1), (1, 3, 2, 1, 2), (1, 5, 2, 1, 2), (1, 4, 2, 1, 2), (1, 5, 3, 1, 3), (1, 5, 3, 1, 3), (1, 2, 1, 2, 0), (1, 3, 1, 1, 2), (2, 1, 0, 0, 1), (2, 2, 1, 1, 0), (2, 3, 2, 0, 0), (2, 2, 1, 0, 1), (2, 2, 0, 0, 0), (2, 1, 0, 1, 0), (2, 1, 0, 1, 0), (2, 1, 0, 1, 1), (2, 2, 1, 2, 1), (2, 2, 1, 2, 1), (2, 3, 2, 2, 2), (2, 2, 1, 2, 2), (2, 2, 1, 1, 1), (2, 3, 2, 1, 1), (2, 1, 0, 0, 0), (2, 5, 2, 0, 1), (2, 1, 0, 0, 0), (2, 4, 2, 1, 0), (2, 4, 3, 0, 1), (2, 3, 2, 1, 1), (2, 4, 3, 0, 2), (2, 2, 1, 1, 1), (2, 3, 2, 1, 1), (2, 4, 2, 0, 2), (2, 2, 1, 1, 1), (2, 3, 2, 0, 2), (2, 2, 1, 1, 1), (2, 4, 3, 1, 1), (2, 8, 6, 0, 1), (2, 5, 2, 0, 2), (2, 5, 2, 0, 2), (2, 3, 0, 1, 2), (2, 5, 4, 2, 2), (2, 6, 6, 2, 1), (2, 3, 3, 1, 0), (2, 3, 2, 2, 0), (2, 5, 1, 1, 2), (2, 4, 1, 1, 2), (2, 1, 1, 1, 0), (3, 2, 1, 0, 1), (3, 1, 0, 0, 0), (3, 2, 1, 0, 1), (3, 3, 1, 0, 2), (4, 1, 0, 0, 2), (4, 2, 1, 2, 0), (4, 3, 0, 1, 5), (4, 3, 0, 2, 3), (4, 2, 0, 2, 4), (4, 4, 0, 2, 2), (4, 4, 0, 2, 3), (4, 8, 0, 2, 3), (4, 2, 1, 2, 2), (4, 1, 0, 1, 0), (4, 1, 1, 2, 0), (4, 2, 0, 1, 1), (4, 3, 0, 1, 2), (4, 2, 1, 2, 1), (5, 2, 0, 0, 6), (5, 2, 1, 1, 1), (5, 2, 0, 1, 0), (5, 1, 0, 1, 6), (5, 1, 0, 1, 6), (5, 3, 2, 1, 2), (5, 3, 2, 1, 2), (5, 4, 3, 1, 3), (5, 8, 6, 1, 3), (5, 7, 6, 1, 3), (5, 3, 2, 1, 3), (5, 5, 3, 1, 3), (5, 3, 2, 1, 3), (5, 1, 0, 1, 3), (5, 2, 1, 1, 6), (5, 2, 1, 1, 6), (5, 4, 3, 1, 5), (5, 1, 0, 1, 7), (5, 2, 1, 1, 4), (5, 5, 2, 1, 7), (5, 4, 0, 1, 3), (5, 6, 2, 1, 7), (5, 8, 3, 2, 6), (5, 4, 3, 1, 6), (5, 7, 3, 1, 7), (5, 4, 2, 1, 0), (5, 8, 1, 0, 2), (5, 1, 0, 1, 2), (5, 1, 0, 1, 3), (5, 2, 1, 1, 7), (6, 1, 0, 0, 1), (6, 6, 3, 2, 0), (6, 2, 2, 2, 0), (6, 3, 1, 1, 0), (6, 2, 0, 0, 0), (6, 5, 2, 0, 0), (6, 6, 3, 0, 0), (6, 7, 4, 0, 0), (6, 2, 0, 0, 0), (6, 2, 1, 1, 1), (6, 2, 0, 1, 0), (6, 2, 1, 1, 0), (6, 5, 2, 1, 1), (6, 1, 0, 0, 1), (6, 1, 0, 2, 1), (6, 3, 0, 1, 2), (6, 3, 0, 0, 2), (6, 3, 0, 0, 3), (6, 5, 0, 0, 2), (6, 3, 3, 1, 0), (6, 9, 6, 2, 1), (6, 2, 0, 0, 4), (6, 1, 0, 1, 5), (6, 1, 0, 1, 5), (6, 2, 1, 2, 1), (6, 3, 3, 1, 0), (6, 3, 2, 1, 0), (6, 3, 2, 2, 2), (6, 2, 1, 2, 1), (6, 3, 2, 1, 1), (6, 3, 2, 1, 2), (6, 4, 3, 1, 3), (6, 4, 2, 0, 0), (6, 2, 0, 0, 1), (6, 9, 7, 0, 1), (6, 9, 6, 1, 3), (6, 8, 6, 1, 2), (6, 4, 2, 1, 3), (6, 5, 3, 1, 2), (6, 3, 2, 1, 2), (6, 1, 0, 1, 1), (6, 7, 3, 2, 0), (6, 4, 3, 2, 1), (6, 4, 2, 0, 0), (6, 5, 2, 2, 2), (6, 5, 2, 2, 2), (6, 3, 2, 1, 3), (6, 1, 1, 2, 1), (6, 1, 1, 1, 0), (6, 2, 1, 1, 0), (6, 8, 4, 1, 2), (6, 5, 3, 1, 2), (6, 2, 1, 1, 0), (6, 2, 1, 1, 0), (6, 3, 2, 1, 0), (6, 6, 2, 1, 4), (6, 1, 1, 2, 0), (6, 7, 3, 0, 5), (6, 3, 2, 2, 6), (6, 2, 1, 1, 6), (6, 2, 1, 1, 6), (6, 4, 3, 1, 6), (6, 4, 1, 1, 7), (6, 1, 0, 1, 8), (6, 4, 1, 1, 4), (6, 5, 2, 1, 8), (6, 6, 0, 1, 1), (6, 12, 2, 1, 7), (6, 2, 2, 1, 0), (6, 4, 1, 0, 1), (6, 1, 1, 2, 0), (6, 1, 1, 2, 1), (6, 2, 1, 0, 0), (6, 3, 2, 0, 0), (6, 5, 2, 0, 1), (6, 5, 3, 0, 2), (6, 5, 3, 0, 2), (6, 2, 1, 0, 0), (6, 2, 1, 0, 1), (6, 3, 2, 0, 1), (6, 3, 2, 0, 1), (6, 2, 1, 0, 1), (6, 5, 0, 0, 3), (6, 6, 3, 1, 4), (6, 13, 3, 1, 8), (6, 1, 0, 1, 1), (6, 1, 0, 1, 1), (6, 4, 1, 1, 8), (8, 1, 1, 1, 0), (7, 4, 1, 2, 9)]
def mown (m : Nat) : Nat := (mtab.getD m (99, 0, 0, 0, 0)).1
def mmax (m : Nat) : Nat := (mtab.getD m (99, 0, 0, 0, 0)).2.1
def mpar (m : Nat) : Nat := (mtab.getD m (99, 0, 0, 0, 0)).2.2.1
def mans (m : Nat) : Nat := (mtab.getD m (99, 0, 0, 0, 0)).2.2.2.1
def mdep (m : Nat) : Nat := (mtab.getD m (99, 0, 0, 0, 0)).2.2.2.2
def lkp {α : Type} : List (Nat × α) → Nat → Option α
  | [], _ => none
  | e :: r, k => if e.1 = k then some e.2 else lkp r k
/-- calls: the way (0 virtual, 1 init, 2 static, 3 init of a nest mate, 4 Object's init, 5 arraycopy, 6 String.length, 7 String.charAt) and the method -/
def linv : List (List (Nat × Nat × Nat)) := [[(3, 4, 0), (11, 3, 47), (32, 0, 2), (36, 0, 59), (40, 0, 68), (43, 0, 71), (46, 2, 4), (50, 0, 66), (54, 2, 3), (57, 0, 69), (60, 2, 6), (68, 0, 19), (84, 0, 10), (88, 0, 15), (91, 0, 73), (94, 0, 11), (97, 0, 53), (101, 0, 12), (104, 0, 16), (107, 0, 74), (111, 0, 7), (114, 0, 8), (118, 0, 25), (121, 0, 17), (124, 0, 18), (127, 0, 20), (130, 0, 5), (133, 0, 9), (136, 2, 21), (139, 2, 22), (142, 0, 60), (145, 0, 24), (148, 0, 23)],
  [(5, 4, 0), (13, 3, 47), (31, 0, 28), (35, 0, 66), (39, 2, 29), (46, 0, 68), (50, 0, 69), (53, 0, 45), (57, 0, 31), (66, 0, 60), (78, 0, 57), (82, 0, 35), (86, 0, 74), (90, 0, 32), (93, 0, 39), (96, 0, 40), (99, 0, 41), (102, 0, 43), (105, 0, 44), (108, 0, 38), (111, 0, 46), (114, 0, 36), (117, 0, 37), (120, 2, 33), (123, 2, 34), (126, 0, 59), (128, 0, 42)],
  [(5, 4, 0), (15, 5, 0), (21, 0, 53), (25, 0, 52), (28, 0, 56), (32, 0, 73), (36, 0, 55), (39, 0, 48), (42, 0, 49), (46, 0, 64), (50, 0, 65), (54, 0, 68), (57, 0, 74), (61, 0, 75), (65, 2, 80), (69, 2, 81), (75, 2, 82), (79, 0, 66), (82, 2, 85), (85, 0, 69)],
  [(1, 4, 0), (23, 5, 0), (29, 0, 50)],
  [(3, 4, 0), (11, 3, 47), (29, 0, 51), (32, 0, 94), (36, 0, 53), (40, 0, 83), (44, 0, 84), (47, 0, 54), (50, 0, 99), (53, 0, 95), (56, 0, 96), (59, 0, 97), (62, 0, 52), (65, 2, 100), (69, 0, 101), (72, 0, 62), (76, 0, 61), (79, 0, 59), (82, 0, 103), (85, 0, 98), (88, 0, 67), (92, 0, 70), (95, 0, 102), (98, 0, 72), (101, 0, 63), (104, 0, 73), (107, 2, 80), (111, 0, 76), (114, 0, 75), (118, 0, 55)],
  [(1, 4, 0), (9, 3, 90), (18, 3, 47), (28, 3, 0), (35, 3, 26), (42, 1, 86), (54, 6, 0), (60, 7, 0), (64, 0, 91), (68, 0, 92), (78, 0, 50), (85, 0, 93), (89, 0, 87), (92, 0, 53), (95, 0, 55), (98, 0, 59), (102, 0, 60), (106, 0, 56), (109, 0, 68), (112, 0, 64), (115, 0, 57), (119, 0, 74), (123, 0, 79), (127, 0, 88), (130, 0, 75), (134, 0, 73), (137, 0, 76), (141, 0, 77), (144, 0, 58), (147, 0, 66), (150, 0, 67), (154, 0, 71), (157, 0, 72), (163, 0, 89), (167, 0, 1), (170, 0, 12), (179, 0, 11), (182, 0, 7), (188, 0, 9), (191, 0, 13), (194, 0, 14), (197, 0, 54), (200, 0, 83), (203, 0, 126), (207, 0, 27), (211, 0, 30), (224, 0, 32), (225, 2, 33), (228, 2, 129), (231, 0, 130), (234, 2, 222), (248, 0, 52), (251, 0, 78)],
  [(1, 4, 0), (62, 0, 138), (65, 0, 139), (69, 0, 140), (73, 0, 141), (77, 0, 142), (106, 2, 135), (116, 0, 145), (130, 0, 148), (136, 0, 149), (140, 0, 147), (143, 0, 146), (147, 2, 154), (151, 2, 153), (160, 0, 150), (163, 0, 151), (166, 0, 152), (169, 0, 155), (172, 0, 158), (176, 0, 160), (187, 0, 161), (193, 2, 159), (196, 0, 166), (199, 0, 167), (202, 0, 168), (206, 0, 162), (209, 0, 175), (219, 0, 176), (222, 0, 178), (225, 0, 179), (228, 2, 181), (231, 2, 182), (234, 0, 183), (237, 2, 136), (240, 0, 188), (243, 0, 184), (247, 0, 185), (250, 0, 186), (253, 0, 187), (256, 0, 180), (259, 0, 177), (268, 0, 189), (271, 2, 190), (274, 0, 191), (279, 0, 192), (282, 0, 196), (285, 2, 202), (307, 0, 207), (310, 2, 205), (313, 2, 204), (316, 0, 206), (320, 0, 213), (323, 0, 208), (326, 0, 209), (329, 0, 210), (332, 0, 211), (335, 0, 212), (338, 0, 214), (341, 0, 215), (350, 0, 203), (353, 0, 216), (366, 2, 137)],
  [(9, 1, 104), (12, 1, 134), (13, 0, 105), (17, 0, 143), (18, 0, 106), (22, 0, 144), (23, 0, 107), (26, 0, 156), (27, 0, 108), (30, 0, 157), (31, 0, 109), (35, 0, 163), (36, 0, 110), (39, 0, 164), (40, 0, 111), (44, 0, 165), (45, 0, 112), (49, 0, 169), (50, 0, 113), (53, 0, 170), (54, 0, 114), (57, 0, 171), (58, 0, 115), (61, 0, 172), (62, 0, 116), (65, 0, 173), (66, 0, 117), (69, 0, 174), (70, 0, 118), (73, 0, 193), (74, 0, 119), (77, 0, 194), (78, 0, 120), (81, 0, 195), (82, 0, 121), (85, 0, 197), (86, 0, 122), (89, 0, 198), (90, 0, 123), (93, 0, 199), (94, 0, 124), (97, 0, 200), (98, 0, 125), (101, 0, 201), (102, 0, 127), (105, 0, 217), (106, 0, 128), (109, 0, 218), (110, 0, 131), (113, 0, 219), (114, 0, 132), (117, 0, 220), (118, 0, 133), (121, 0, 221)],
  []]
/-- fields: the owner, its place, its type (0 int, 1 boolean, 2 a reference) -/
def lfld : List (List (Nat × Nat × Nat × Nat)) := [[(12, 0, 0, 2), (18, 0, 1, 2), (22, 0, 2, 2), (25, 0, 3, 2), (28, 0, 4, 2), (64, 0, 7, 0), (71, 0, 5, 0), (74, 0, 6, 1), (78, 0, 8, 0), (81, 0, 9, 0)],
  [(14, 1, 0, 2), (18, 1, 1, 2), (22, 1, 2, 2), (25, 1, 3, 2), (28, 1, 4, 2), (42, 1, 5, 0), (60, 1, 9, 0), (63, 1, 10, 0), (69, 1, 6, 0), (72, 1, 7, 0), (75, 1, 8, 0)],
  [(11, 2, 0, 2)],
  [(11, 3, 0, 2), (16, 3, 2, 0), (20, 3, 1, 0)],
  [(12, 4, 0, 2), (18, 4, 1, 2), (22, 4, 2, 0), (26, 4, 3, 0)],
  [(10, 5, 0, 2), (19, 5, 1, 2), (23, 5, 2, 2), (29, 5, 3, 2), (36, 5, 4, 2), (45, 5, 5, 2), (49, 5, 6, 2), (71, 4, 0, 2), (74, 2, 0, 2), (82, 4, 2, 0), (160, 3, 2, 0), (173, 0, 8, 0), (176, 0, 9, 0), (185, 0, 7, 0), (214, 1, 10, 0), (217, 1, 9, 0), (220, 1, 7, 0), (223, 1, 8, 0)],
  [(7, 6, 1, 2), (13, 6, 2, 2), (16, 6, 4, 2), (19, 6, 5, 2), (22, 6, 7, 2), (25, 6, 8, 2), (28, 6, 10, 2), (31, 6, 11, 2), (34, 6, 12, 2), (37, 6, 14, 2), (40, 6, 18, 2), (44, 6, 22, 2), (47, 6, 23, 2), (50, 6, 28, 2), (53, 6, 29, 2), (56, 6, 30, 2), (59, 6, 31, 2), (80, 6, 6, 0), (84, 6, 9, 0), (87, 6, 13, 0), (90, 6, 0, 0), (93, 6, 3, 0), (96, 6, 15, 0), (99, 6, 16, 0), (110, 6, 17, 0), (113, 6, 19, 0), (124, 6, 21, 1), (157, 6, 20, 0), (213, 6, 24, 0), (216, 6, 25, 1), (262, 6, 27, 0), (265, 6, 26, 0), (288, 6, 33, 0), (291, 6, 32, 0), (294, 6, 35, 0), (297, 6, 34, 0), (300, 6, 36, 0)],
  [],
  []]
def lsta : List (List (Nat × Nat)) := [[],
  [],
  [(72, 2)],
  [],
  [],
  [(245, 3)],
  [],
  [],
  []]
def lnew : List (List (Nat × Nat)) := [[(9, 2)],
  [(11, 2)],
  [],
  [],
  [(9, 2)],
  [(7, 4), (16, 2), (26, 0), (33, 1), (40, 3)],
  [],
  [(7, 5), (10, 6)],
  []]
def llng : List (List (Nat × Int)) := [[],
  [],
  [],
  [],
  [],
  [(239, 7919), (241, 6151), (243, 65521)],
  [(102, 32), (104, 126), (120, 48), (122, 57), (128, 2), (134, 5), (155, 13), (179, 6), (181, -1), (183, 9), (185, 7), (191, 3), (277, 10), (303, 20000), (305, 29999), (344, 99), (346, 200), (348, 4), (356, 9999), (358, 20), (360, 7919), (362, 6151), (364, 65521)],
  [],
  []]
def lint : List (List (Nat × Int)) := [[],
  [],
  [],
  [],
  [],
  [],
  [],
  [],
  [(265, 1431655765), (266, 858993459), (267, 252645135)]]
def lstr : List (List (Nat × Nat)) := [[], [], [], [], [], [(52, 4)], [], [], []]
def invOf (c k : Nat) : Option (Nat × Nat) := lkp (linv.getD c []) k
def fldOf (c k : Nat) : Option (Nat × Nat × Nat) := lkp (lfld.getD c []) k
def staOf (c k : Nat) : Option (Nat) := lkp (lsta.getD c []) k
def newOf (c k : Nat) : Option (Nat) := lkp (lnew.getD c []) k
def lngOf (c k : Nat) : Option (Int) := lkp (llng.getD c []) k
def intOf (c k : Nat) : Option (Int) := lkp (lint.getD c []) k
def strOf (c k : Nat) : Option (Nat) := lkp (lstr.getD c []) k
/-- the fields of each kind of object, how many -/
def nfld (ci : Nat) : Nat := [10, 11, 1, 3, 4, 7, 37].getD ci 0
/-- the type of a field (0 int, 1 boolean, 2 a reference) -/
def tfld : List (List Nat) := [[2, 2, 2, 2, 2, 0, 1, 0, 0, 0], [2, 2, 2, 2, 2, 0, 0, 0, 0, 0, 0], [2], [2, 0, 0], [2, 2, 0, 0], [2, 2, 2, 2, 2, 2, 2], [0, 2, 2, 0, 2, 2, 0, 2, 2, 0, 2, 2, 2, 0, 2, 0, 0, 0, 2, 0, 0, 1, 2, 2, 0, 1, 0, 0, 2, 2, 2, 2, 0, 0, 0, 0, 0]]
/-- final fields are set in their own class's constructors alone -/
def ffin : List (List Bool) := [[false, true, true, true, true, false, false, false, false, false], [false, true, true, true, true, false, false, false, false, false, false], [true], [true, false, false], [true, true, false, false], [true, true, true, true, true, true, true], [false, true, true, false, true, true, false, true, true, false, true, true, true, false, true, false, false, false, true, false, false, false, true, true, false, false, false, false, true, true, true, true, false, false, false, false, false]]
def minit : List Nat := [0, 26, 47, 86, 90, 104, 134]
def finB (m ci j : Nat) : Bool := !((ffin.getD ci []).getD j false) || (minit.contains m && decide (mown m = ci))
end
section
/-! THE MINI MACHINE: whole numbers, references by number, a memory of rows; no classes, no tables of the virtual machine -/
abbrev mV : Type := Int ⊕ (Int ⊕ Nat)
abbrev mL : Type := List (Option mV)
abbrev mH : Type := List (Nat × Nat) × (Nat → Nat → Int)
abbrev mR : Type := Option (Option mV × mH)
def w32 (x : Int) : Int := (x + 2147483648) % 4294967296 - 2147483648
def w64 (x : Int) : Int := (x + 9223372036854775808) % 18446744073709551616 - 9223372036854775808
def w8 (x : Int) : Int := (x + 128) % 256 - 128
def iand (x y : Int) : Int := (Int32.ofInt x &&& Int32.ofInt y).toInt
def ior (x y : Int) : Int := (Int32.ofInt x ||| Int32.ofInt y).toInt
def ixor (x y : Int) : Int := (Int32.ofInt x ^^^ Int32.ofInt y).toInt
def ishl (x y : Int) : Int := (Int32.ofInt x <<< (Int32.ofInt y &&& 31)).toInt
def ishr (x y : Int) : Int := (Int32.ofInt x >>> (Int32.ofInt y &&& 31)).toInt
def iush (x y : Int) : Int := ((Int32.ofInt x).toUInt32 >>> ((Int32.ofInt y).toUInt32 &&& Int32.toUInt32 31)).toInt32.toInt
def icmp (x y : Int) : Int := if x > y then 1 else if x = y then 0 else -1
def catV : mV → Nat
  | .inr (.inl _) => 2
  | _ => 1
def catS (st : List mV) : Nat := (st.map catV).sum
/-- is it a long -/
def lngV : Option (Option mV) → Bool
  | some (some (.inr (.inl _))) => true
  | _ => false
def set1 (ls : mL) (i : Nat) (v : mV) : Option mL :=
  if i < ls.length then some (if i ≠ 0 ∧ lngV ls[i - 1]? = true then (ls.set i (some v)).set (i - 1) none else ls.set i (some v)) else none
def set2 (ls : mL) (i : Nat) (v : mV) : Option mL :=
  if i + 1 < ls.length then some (if i ≠ 0 ∧ lngV ls[i - 1]? = true then ((ls.set i (some v)).set (i + 1) none).set (i - 1) none else (ls.set i (some v)).set (i + 1) none) else none
def ldI (ls : mL) (i : Nat) : Option Int := match ls[i]? with
  | some (some (.inl x)) => some x
  | _ => none
def ldJ (ls : mL) (i : Nat) : Option Int := match ls[i]? with
  | some (some (.inr (.inl x))) => some x
  | _ => none
def ldA (ls : mL) (i : Nat) : Option Nat := match ls[i]? with
  | some (some (.inr (.inr x))) => some x
  | _ => none
/-! memory -/
def mw (h : mH) (a j : Nat) (v : Int) : mH := (h.1, fun b k => if b = a ∧ k = j then v else h.2 b k)
def mrow (h : mH) (a : Nat) (f : Nat → Int) : mH := (h.1, fun b k => if b = a then f k else h.2 b k)
def mnew (h : mH) (kd n : Nat) : mH := (h.1 ++ [(kd, n)], fun b k => if b = h.1.length then 0 else h.2 b k)
def isO (h : mH) (a ci : Nat) : Bool := match h.1[a]? with
  | some q => decide (q.1 = ci) && decide (a ≠ 0)
  | none => false
def gfd (ci k : Nat) (h : mH) (a : Nat) : Option Int := match h.1[a]? with
  | some q => if q.1 = ci ∧ k < q.2 ∧ a ≠ 0 then some (h.2 a k) else none
  | none => none
def pfd (ci k : Nat) (h : mH) (a : Nat) (v : Int) : Option mH := match h.1[a]? with
  | some q => if q.1 = ci ∧ k < q.2 ∧ 6 ≤ a then some (mw h a k v) else none
  | none => none
def ald (kd : Nat) (h : mH) (a : Nat) (j : Int) : Option Int := match h.1[a]? with
  | some q => if q.1 = kd ∧ 0 ≤ j ∧ j < (q.2 : Int) ∧ a ≠ 0 then some (h.2 a j.toNat) else none
  | none => none
def bld (h : mH) (a : Nat) (j : Int) : Option Int := match h.1[a]? with
  | some q => if (q.1 = 11 ∨ q.1 = 12) ∧ 0 ≤ j ∧ j < (q.2 : Int) ∧ a ≠ 0 then some (h.2 a j.toNat) else none
  | none => none
def ast (h : mH) (a : Nat) (j v : Int) : Option mH := match h.1[a]? with
  | some q => if q.1 = 10 ∧ 0 ≤ j ∧ j < (q.2 : Int) ∧ 6 ≤ a then some (mw h a j.toNat v) else none
  | none => none
def bst (h : mH) (a : Nat) (j v : Int) : Option mH := match h.1[a]? with
  | some q => if (q.1 = 11 ∨ q.1 = 12) ∧ 0 ≤ j ∧ j < (q.2 : Int) ∧ 6 ≤ a then some (mw h a j.toNat (if q.1 = 11 then w8 v else iand v 1)) else none
  | none => none
def aln (h : mH) (a : Nat) : Option Int := match h.1[a]? with
  | some q => if 10 ≤ q.1 ∧ q.1 ≤ 13 ∧ q.2 < 1000000 ∧ a ≠ 0 then some (q.2 : Int) else none
  | none => none
/-- n ints of row b into row a, both from their beginnings -/
def acp (h : mH) (b a : Nat) (n : Int) : Option mH := match h.1[b]?, h.1[a]? with
  | some p, some q => if p.1 = 10 ∧ q.1 = 10 ∧ 0 ≤ n ∧ n ≤ (p.2 : Int) ∧ n ≤ (q.2 : Int) ∧ 6 ≤ a ∧ b ≠ 0 then some (mrow h a (fun j => if j < n.toNat then h.2 b j else h.2 a j)) else none
  | _, _ => none
/-- n rows of k ints, one behind the other -/
def mgrd (h : mH) (n k : Nat) : mH := (h.1 ++ (13, n) :: List.replicate n (10, k), fun b j => if b = h.1.length then (if j < n then (h.1.length + 1 + j : Nat) else 0) else if h.1.length < b then 0 else h.2 b j)
def tgt (pc : Nat) (off : Int) : Option Nat := if 0 ≤ (pc : Int) + off then some ((pc : Int) + off).toNat else none
def cnd : Jvm.ClassFile.Cond → Int → Int → Bool
  | .eq, x, y => decide (x = y)
  | .ne, x, y => decide (x ≠ y)
  | .lt, x, y => decide (x < y)
  | .ge, x, y => decide (y ≤ x)
  | .gt, x, y => decide (y < x)
  | .le, x, y => decide (x ≤ y)
def brn (b : Bool) (pc : Nat) (off : Int) (ls : mL) (r : List mV) (h : mH) : Option (Nat × mL × List mV × mH) :=
  (tgt pc off).map (fun t => (if b = true then t else pc + 3, ls, r, h))
def bin (f : Int → Int → Int) (pc : Nat) (ls : mL) (st : List mV) (h : mH) : Option (Nat × mL × List mV × mH) := match st with
  | .inl y :: .inl x :: r => some (pc + 1, ls, .inl (f x y) :: r, h)
  | _ => none
def binJ (f : Int → Int → Int) (pc : Nat) (ls : mL) (st : List mV) (h : mH) : Option (Nat × mL × List mV × mH) := match st with
  | .inr (.inl y) :: .inr (.inl x) :: r => some (pc + 1, ls, .inr (.inl (f x y)) :: r, h)
  | _ => none
/-- the length of an instruction as decoded (0: any) -/
def lenI : Instr → Nat
  | .iload _ | .lload _ | .aload _ | .istore _ | .lstore _ | .astore _ | .bipush _ | .ldc _ | .newarray _ => 2
  | .sipush _ | .ldc_w _ | .ldc2_w _ | .iinc _ _ | .ifCond _ _ | .if_icmp _ _ | .ifnull _ | .ifnonnull _ | .goto _ | .getfield _ | .putfield _ | .getstatic _ | .new _ | .invokevirtual _ | .invokespecial _ | .invokestatic _ => 3
  | .multianewarray _ _ => 4
  | .tableswitch _ _ _ _ | .lookupswitch _ _ => 0
  | _ => 1
def pstep (m : Nat) (ins : Instr) (pc : Nat) (ls : mL) (st : List mV) (h : mH) : Option (Nat × mL × List mV × mH) := match ins with
  | .iload i => (ldI ls i).map (fun x => (pc + 2, ls, .inl x :: st, h))
  | .iload_n i => (ldI ls i.val).map (fun x => (pc + 1, ls, .inl x :: st, h))
  | .lload i => (ldJ ls i).map (fun x => (pc + 2, ls, .inr (.inl x) :: st, h))
  | .lload_n i => (ldJ ls i.val).map (fun x => (pc + 1, ls, .inr (.inl x) :: st, h))
  | .aload i => (ldA ls i).map (fun x => (pc + 2, ls, .inr (.inr x) :: st, h))
  | .aload_n i => (ldA ls i.val).map (fun x => (pc + 1, ls, .inr (.inr x) :: st, h))
  | .istore i => match st with
    | .inl x :: r => (set1 ls i (.inl x)).map (fun l => (pc + 2, l, r, h))
    | _ => none
  | .istore_n i => match st with
    | .inl x :: r => (set1 ls i.val (.inl x)).map (fun l => (pc + 1, l, r, h))
    | _ => none
  | .astore i => match st with
    | .inr (.inr x) :: r => (set1 ls i (.inr (.inr x))).map (fun l => (pc + 2, l, r, h))
    | _ => none
  | .astore_n i => match st with
    | .inr (.inr x) :: r => (set1 ls i.val (.inr (.inr x))).map (fun l => (pc + 1, l, r, h))
    | _ => none
  | .lstore i => match st with
    | .inr (.inl x) :: r => (set2 ls i (.inr (.inl x))).map (fun l => (pc + 2, l, r, h))
    | _ => none
  | .lstore_n i => match st with
    | .inr (.inl x) :: r => (set2 ls i.val (.inr (.inl x))).map (fun l => (pc + 1, l, r, h))
    | _ => none
  | .iinc i n => if -32768 ≤ n ∧ n ≤ 32767 then (ldI ls i).bind (fun x => (set1 ls i (.inl (w32 (x + n)))).map (fun l => (pc + 3, l, st, h))) else none
  | .iconst n => if -1 ≤ n ∧ n ≤ 5 then some (pc + 1, ls, .inl n :: st, h) else none
  | .bipush n => if -128 ≤ n ∧ n ≤ 127 then some (pc + 2, ls, .inl n :: st, h) else none
  | .sipush n => if -32768 ≤ n ∧ n ≤ 32767 then some (pc + 3, ls, .inl n :: st, h) else none
  | .lconst n => some (pc + 1, ls, .inr (.inl (n.val : Int)) :: st, h)
  | .ldc k => match intOf (mown m) k with
    | some v => some (pc + 2, ls, .inl v :: st, h)
    | none => (strOf (mown m) k).map (fun a => (pc + 2, ls, .inr (.inr a) :: st, h))
  | .ldc_w k => (intOf (mown m) k).map (fun v => (pc + 3, ls, .inl v :: st, h))
  | .ldc2_w k => (lngOf (mown m) k).map (fun v => (pc + 3, ls, .inr (.inl v) :: st, h))
  | .iadd => bin (fun x y => w32 (x + y)) pc ls st h
  | .isub => bin (fun x y => w32 (x - y)) pc ls st h
  | .imul => bin (fun x y => w32 (x * y)) pc ls st h
  | .iand => bin iand pc ls st h
  | .ior => bin ior pc ls st h
  | .ixor => bin ixor pc ls st h
  | .ishl => bin ishl pc ls st h
  | .ishr => bin ishr pc ls st h
  | .iushr => bin iush pc ls st h
  | .idiv => match st with
    | .inl y :: .inl x :: r => if y = 0 then none else some (pc + 1, ls, .inl (w32 (x.tdiv y)) :: r, h)
    | _ => none
  | .irem => match st with
    | .inl y :: .inl x :: r => if y = 0 then none else some (pc + 1, ls, .inl (x.tmod y) :: r, h)
    | _ => none
  | .ladd => binJ (fun x y => w64 (x + y)) pc ls st h
  | .lmul => binJ (fun x y => w64 (x * y)) pc ls st h
  | .lrem => match st with
    | .inr (.inl y) :: .inr (.inl x) :: r => if y = 0 then none else some (pc + 1, ls, .inr (.inl (x.tmod y)) :: r, h)
    | _ => none
  | .lcmp => match st with
    | .inr (.inl y) :: .inr (.inl x) :: r => some (pc + 1, ls, .inl (icmp x y) :: r, h)
    | _ => none
  | .i2l => match st with
    | .inl x :: r => some (pc + 1, ls, .inr (.inl x) :: r, h)
    | _ => none
  | .l2i => match st with
    | .inr (.inl x) :: r => some (pc + 1, ls, .inl (w32 x) :: r, h)
    | _ => none
  | .i2b => match st with
    | .inl x :: r => some (pc + 1, ls, .inl (w8 x) :: r, h)
    | _ => none
  | .dup => match st with
    | v :: r => if catV v = 1 then some (pc + 1, ls, v :: v :: r, h) else none
    | _ => none
  | .dup2 => match st with
    | v :: w :: r => if catV v = 1 ∧ catV w = 1 then some (pc + 1, ls, v :: w :: v :: w :: r, h) else none
    | _ => none
  | .pop => match st with
    | v :: r => if catV v = 1 then some (pc + 1, ls, r, h) else none
    | _ => none
  | .ifCond cd off => match st with
    | .inl x :: r => brn (cnd cd x 0) pc off ls r h
    | _ => none
  | .if_icmp cd off => match st with
    | .inl y :: .inl x :: r => brn (cnd cd x y) pc off ls r h
    | _ => none
  | .ifnull off => match st with
    | .inr (.inr a) :: r => brn (decide (a = 0)) pc off ls r h
    | _ => none
  | .ifnonnull off => match st with
    | .inr (.inr a) :: r => brn (decide (a ≠ 0)) pc off ls r h
    | _ => none
  | .goto off => (tgt pc off).map (fun t => (t, ls, st, h))
  | .tableswitch d lo hi offs => match st with
    | .inl x :: r => if x < lo ∨ hi < x then (tgt pc d).map (fun t => (t, ls, r, h)) else (offs[(x - lo).toNat]?).bind (fun o => (tgt pc o).map (fun t => (t, ls, r, h)))
    | _ => none
  | .lookupswitch d ps => match st with
    | .inl x :: r => if (ps.toList.zip (ps.toList.drop 1)).all (fun (a, next) => a.1 < next.1) = true then (tgt pc (Op.lookupswitch.offset ps.toList d x)).map (fun t => (t, ls, r, h)) else none
    | _ => none
  | .getfield k => (fldOf (mown m) k).bind (fun f => match st with
    | .inr (.inr a) :: r => (gfd f.1 f.2.1 h a).map (fun x => (pc + 3, ls, (if f.2.2 = 2 then .inr (.inr x.toNat) else .inl x) :: r, h))
    | _ => none)
  | .putfield k => (fldOf (mown m) k).bind (fun f => match st with
    | .inl v :: .inr (.inr a) :: r => if (f.2.2 = 0 ∨ (f.2.2 = 1 ∧ (v = 0 ∨ v = 1))) ∧ finB m f.1 f.2.1 = true then (pfd f.1 f.2.1 h a v).map (fun h' => (pc + 3, ls, r, h')) else none
    | .inr (.inr b) :: .inr (.inr a) :: r => if f.2.2 = 2 ∧ finB m f.1 f.2.1 = true then (pfd f.1 f.2.1 h a (b : Int)).map (fun h' => (pc + 3, ls, r, h')) else none
    | _ => none)
  | .getstatic k => (staOf (mown m) k).map (fun a => (pc + 3, ls, .inr (.inr a) :: st, h))
  | .iaload => match st with
    | .inl j :: .inr (.inr a) :: r => (ald 10 h a j).map (fun x => (pc + 1, ls, .inl x :: r, h))
    | _ => none
  | .baload => match st with
    | .inl j :: .inr (.inr a) :: r => (bld h a j).map (fun x => (pc + 1, ls, .inl x :: r, h))
    | _ => none
  | .aaload => match st with
    | .inl j :: .inr (.inr a) :: r => (ald 13 h a j).map (fun x => (pc + 1, ls, .inr (.inr x.toNat) :: r, h))
    | _ => none
  | .iastore => match st with
    | .inl v :: .inl j :: .inr (.inr a) :: r => (ast h a j v).map (fun h' => (pc + 1, ls, r, h'))
    | _ => none
  | .bastore => match st with
    | .inl v :: .inl j :: .inr (.inr a) :: r => (bst h a j v).map (fun h' => (pc + 1, ls, r, h'))
    | _ => none
  | .arraylength => match st with
    | .inr (.inr a) :: r => (aln h a).map (fun n => (pc + 1, ls, .inl n :: r, h))
    | _ => none
  | .newarray t => match st with
    | .inl n :: r => if 0 ≤ n ∧ n ≤ 100000 then (match t with
      | .int => some (pc + 2, ls, .inr (.inr h.1.length) :: r, mnew h 10 n.toNat)
      | .byte => some (pc + 2, ls, .inr (.inr h.1.length) :: r, mnew h 11 n.toNat)
      | .boolean => some (pc + 2, ls, .inr (.inr h.1.length) :: r, mnew h 12 n.toNat)
      | _ => none) else none
    | _ => none
  | .new k => (newOf (mown m) k).map (fun ci => (pc + 3, ls, .inr (.inr h.1.length) :: st, mnew h ci (nfld ci)))
  | .multianewarray k d => match st with
    | .inl n2 :: .inl n1 :: r => if mown m = 3 ∧ k = 9 ∧ d = 2 ∧ 0 ≤ n1 ∧ n1 ≤ 100 ∧ 0 ≤ n2 ∧ n2 ≤ 1000 then some (pc + 4, ls, .inr (.inr h.1.length) :: r, mgrd h n1.toNat n2.toNat) else none
    | _ => none
  | .invokespecial k => match invOf (mown m) k, st with
    | some (4, _), .inr (.inr a) :: r => if a ≠ 0 ∧ catS r ≤ 8 ∧ 1 ≤ mdep m then some (pc + 3, ls, r, h) else none
    | _, _ => none
  | .invokestatic k => match invOf (mown m) k, st with
    | some (5, _), .inl n :: .inl dp :: .inr (.inr a) :: .inl sp :: .inr (.inr b) :: r => if sp = 0 ∧ dp = 0 ∧ catS r ≤ 8 ∧ 1 ≤ mdep m then (acp h b a n).map (fun h' => (pc + 3, ls, r, h')) else none
    | _, _ => none
  | .invokevirtual k => match invOf (mown m) k, st with
    | some (6, _), .inr (.inr a) :: r => if a = 4 ∧ catS r ≤ 8 ∧ 2 ≤ mdep m then (aln h 5).map (fun n => (pc + 3, ls, .inl n :: r, h)) else none
    | some (7, _), .inl i :: .inr (.inr a) :: r => if a = 4 ∧ catS r ≤ 8 ∧ 5 ≤ mdep m then (ald 11 h 5 i).map (fun x => (pc + 3, ls, .inl x :: r, h)) else none
    | _, _ => none
  | _ => none
/-- a method's locals at its entry -/
def argL : List mV → mL
  | [] => []
  | v :: r => if catV v = 2 then some v :: none :: argL r else some v :: argL r
/-- what a call takes: the method, its arguments, what is left -/
def callOf (m : Nat) (ins : Instr) (st : List mV) : Option (Nat × List mV × List mV) := match ins with
  | .invokevirtual k => match invOf (mown m) k with
    | some (0, t) => if mpar t + 1 ≤ st.length ∧ catS (st.drop (mpar t + 1)) ≤ 8 ∧ mdep t < mdep m ∧ (argL (st.take (mpar t + 1)).reverse).length ≤ mmax t then some (t, (st.take (mpar t + 1)).reverse, st.drop (mpar t + 1)) else none
    | _ => none
  | .invokespecial k => match invOf (mown m) k with
    | some (1, t) => if mpar t + 1 ≤ st.length ∧ catS (st.drop (mpar t + 1)) ≤ 8 ∧ mdep t < mdep m ∧ (argL (st.take (mpar t + 1)).reverse).length ≤ mmax t then some (t, (st.take (mpar t + 1)).reverse, st.drop (mpar t + 1)) else none
    | some (3, t) => if mpar t + 1 ≤ st.length ∧ catS (st.drop (mpar t + 1)) ≤ 8 ∧ mdep t < mdep m ∧ (argL (st.take (mpar t + 1)).reverse).length ≤ mmax t then some (t, (st.take (mpar t + 1)).reverse, st.drop (mpar t + 1)) else none
    | _ => none
  | .invokestatic k => match invOf (mown m) k with
    | some (2, t) => if mpar t ≤ st.length ∧ catS (st.drop (mpar t)) ≤ 8 ∧ mdep t < mdep m ∧ (argL (st.take (mpar t)).reverse).length ≤ mmax t then some (t, (st.take (mpar t)).reverse, st.drop (mpar t)) else none
    | _ => none
  | _ => none
def retOf (m : Nat) (ins : Instr) (st : List mV) : Option (Option mV) := match ins with
  | .ireturn => match st with
    | [.inl x] => if mans m = 1 ∨ (mans m = 2 ∧ (x = 0 ∨ x = 1)) then some (some (.inl x)) else none
    | _ => none
  | .return_ => match st with
    | [] => if mans m = 0 then some none else none
    | _ => none
  | _ => none
def entL (t : Nat) (as : List mV) : mL := argL as ++ List.replicate (mmax t - (argL as).length) none
/-- of an instance method the receiver is of its own kind; of a constructor it is there -/
def rok (k : Nat) (t : Nat) (as : List mV) (h : mH) : Bool := match k with
  | 0 => (match as with
    | .inr (.inr a) :: _ => isO h a (mown t)
    | _ => false)
  | 2 => true
  | _ => (match as with
    | .inr (.inr a) :: _ => decide (a ≠ 0)
    | _ => false)
def wayI : Instr → Nat
  | .invokevirtual _ => 0
  | .invokestatic _ => 2
  | _ => 1
abbrev mF : Type := Nat → Nat → mL → List mV → mH → mR
def asI (x : mR) : Option (Int × mH) := x.bind (fun r => match r.1 with
  | some (.inl v) => some (v, r.2)
  | _ => none)
def asU (x : mR) : Option mH := x.bind (fun r => match r.1 with
  | none => some r.2
  | _ => none)
def cal (f : mF) (k t : Nat) (as : List mV) (h : mH) : mR := if rok k t as h = true then f t 0 (entL t as) [] h else none
def ex (f : mF) (ins : Instr) (m pc : Nat) (ls : mL) (st : List mV) (h : mH) : mR := match retOf m ins st with
  | some v => some (v, h)
  | none => match callOf m ins st with
    | some q => if mans q.1 = 0 then (asU (cal f (wayI ins) q.1 q.2.1 h)).bind (fun h' => f m (pc + 3) ls q.2.2 h')
      else (asI (cal f (wayI ins) q.1 q.2.1 h)).bind (fun r => f m (pc + 3) ls (.inl r.1 :: q.2.2) r.2)
    | none => match pstep m ins pc ls st h with
      | some q => f m q.1 q.2.1 q.2.2.1 q.2.2.2
      | none => none
def exec1 (f : mF) (m pc : Nat) (ls : mL) (st : List mV) (h : mH) : mR := match decode (codeOf m) pc with
  | .ok q => if lenI q.1 = q.2 ∨ lenI q.1 = 0 then ex f q.1 m pc ls st h else none
  | .error _ => none
def mrun : Nat → mF
  | 0 => fun _ _ _ _ _ => none
  | n + 1 => exec1 (mrun n)
/-! its limit -/
def mle (f g : mF) : Prop := ∀ m pc ls st h r, f m pc ls st h = some r → g m pc ls st h = some r
theorem cal_mono {f g : mF} (hfg : mle f g) {k t : Nat} {as : List mV} {h : mH} {r} (e : cal f k t as h = some r) : cal g k t as h = some r := by
  unfold cal at e ⊢
  split at e
  · rename_i h1; rw [if_pos h1]; exact hfg _ _ _ _ _ _ e
  · cases e
theorem ex_mono {f g : mF} (hfg : mle f g) {ins : Instr} {m pc : Nat} {ls : mL} {st : List mV} {h : mH} {r} (e : ex f ins m pc ls st h = some r) : ex g ins m pc ls st h = some r := by
  unfold ex at e ⊢
  split at e
  · exact e
  · split at e
    · split at e
      · rename_i h3
        rw [if_pos h3]
        obtain ⟨h', e1, e2⟩ := Option.bind_eq_some_iff.mp e
        obtain ⟨r0, e3, e4⟩ := Option.bind_eq_some_iff.mp e1
        refine Option.bind_eq_some_iff.mpr ⟨h', Option.bind_eq_some_iff.mpr ⟨r0, cal_mono hfg e3, e4⟩, hfg _ _ _ _ _ _ e2⟩
      · rename_i h3
        rw [if_neg h3]
        obtain ⟨h', e1, e2⟩ := Option.bind_eq_some_iff.mp e
        obtain ⟨r0, e3, e4⟩ := Option.bind_eq_some_iff.mp e1
        refine Option.bind_eq_some_iff.mpr ⟨h', Option.bind_eq_some_iff.mpr ⟨r0, cal_mono hfg e3, e4⟩, hfg _ _ _ _ _ _ e2⟩
    · split at e
      · exact hfg _ _ _ _ _ _ e
      · cases e
theorem exec1_mono {f g : mF} (hfg : mle f g) {m pc : Nat} {ls : mL} {st : List mV} {h : mH} {r} (e : exec1 f m pc ls st h = some r) : exec1 g m pc ls st h = some r := by
  unfold exec1 at e ⊢
  split at e
  · split at e
    · rename_i h1; rw [if_pos h1]; exact ex_mono hfg e
    · cases e
  · cases e
theorem mrun_succ : ∀ n, mle (mrun n) (mrun (n + 1))
  | 0 => fun _ _ _ _ _ _ e => by cases e
  | n + 1 => fun _ _ _ _ _ _ e => exec1_mono (mrun_succ n) e
theorem mrun_le {a b : Nat} (hab : a ≤ b) : mle (mrun a) (mrun b) := by
  induction hab with
  | refl => exact fun _ _ _ _ _ _ e => e
  | step _ ih => exact fun _ _ _ _ _ _ e => mrun_succ _ _ _ _ _ _ _ (ih _ _ _ _ _ _ e)

/-- what a predicate singles out, if anything -/
noncomputable def pick1 {α : Type} (P : α → Prop) : Option α := by
  classical
  exact if e : ∃ r, P r then some (Classical.choose e) else none
theorem pick1_some {α : Type} {P : α → Prop} (hu : ∀ a b, P a → P b → a = b) (r : α) : pick1 P = some r ↔ P r := by
  unfold pick1
  constructor
  · intro h
    split at h
    · rename_i e
      have := Classical.choose_spec e
      cases h; exact this
    · cases h
  · intro h
    rw [dif_pos ⟨r, h⟩]
    exact congrArg some (hu _ _ (Classical.choose_spec (⟨r, h⟩ : ∃ r, P r)) h)
noncomputable def Lim : mF := fun m pc ls st h => pick1 (fun r => ∃ n, mrun n m pc ls st h = some r)
theorem Lim_some {m pc : Nat} {ls : mL} {st : List mV} {h : mH} {r} : Lim m pc ls st h = some r ↔ ∃ n, mrun n m pc ls st h = some r := by
  unfold Lim
  refine pick1_some (fun a b ha hb => ?_) r
  obtain ⟨n, ha⟩ := ha
  obtain ⟨k, hb⟩ := hb
  have h1 := mrun_le (Nat.le_max_left n k) _ _ _ _ _ _ ha
  have h2 := mrun_le (Nat.le_max_right n k) _ _ _ _ _ _ hb
  exact Option.some.inj (h1.symm.trans h2)
theorem mrun_Lim (n : Nat) : mle (mrun n) Lim := fun _ _ _ _ _ _ e => Lim_some.mpr ⟨n, e⟩
theorem cal_Lim {k t : Nat} {as : List mV} {h : mH} {r} (e : cal Lim k t as h = some r) : ∃ n, cal (mrun n) k t as h = some r := by
  unfold cal at e
  split at e
  · rename_i h1
    obtain ⟨n, hn⟩ := Lim_some.mp e
    exact ⟨n, by unfold cal; rw [if_pos h1]; exact hn⟩
  · cases e
theorem ex_Lim {ins : Instr} {m pc : Nat} {ls : mL} {st : List mV} {h : mH} {r} (e : ex Lim ins m pc ls st h = some r) : ∃ n, ex (mrun n) ins m pc ls st h = some r := by
  unfold ex at e
  split at e
  · rename_i v h1
    exact ⟨0, by unfold ex; rw [h1]; exact e⟩
  · rename_i h1
    split at e
    · rename_i q h2
      split at e
      · rename_i h3
        obtain ⟨h', e1, e2⟩ := Option.bind_eq_some_iff.mp e
        obtain ⟨r0, e3, e4⟩ := Option.bind_eq_some_iff.mp e1
        obtain ⟨n, hn⟩ := cal_Lim e3
        obtain ⟨k, hk⟩ := Lim_some.mp e2
        refine ⟨max n k, ?_⟩
        unfold ex
        rw [h1, h2]
        simp only [if_pos h3]
        exact Option.bind_eq_some_iff.mpr ⟨h', Option.bind_eq_some_iff.mpr ⟨r0, cal_mono (mrun_le (Nat.le_max_left n k)) hn, e4⟩, mrun_le (Nat.le_max_right n k) _ _ _ _ _ _ hk⟩
      · rename_i h3
        obtain ⟨h', e1, e2⟩ := Option.bind_eq_some_iff.mp e
        obtain ⟨r0, e3, e4⟩ := Option.bind_eq_some_iff.mp e1
        obtain ⟨n, hn⟩ := cal_Lim e3
        obtain ⟨k, hk⟩ := Lim_some.mp e2
        refine ⟨max n k, ?_⟩
        unfold ex
        rw [h1, h2]
        simp only [if_neg h3]
        exact Option.bind_eq_some_iff.mpr ⟨h', Option.bind_eq_some_iff.mpr ⟨r0, cal_mono (mrun_le (Nat.le_max_left n k)) hn, e4⟩, mrun_le (Nat.le_max_right n k) _ _ _ _ _ _ hk⟩
    · rename_i h2
      split at e
      · rename_i q h3
        obtain ⟨k, hk⟩ := Lim_some.mp e
        exact ⟨k, by unfold ex; rw [h1, h2, h3]; exact hk⟩
      · cases e
theorem Lim_eq (m pc : Nat) (ls : mL) (st : List mV) (h : mH) : Lim m pc ls st h = exec1 Lim m pc ls st h := by
  apply Option.ext
  intro r
  constructor
  · intro e
    obtain ⟨n, hn⟩ := Lim_some.mp e
    cases n with
    | zero => cases hn
    | succ n => exact exec1_mono (mrun_Lim n) hn
  · intro e
    unfold exec1 at e
    split at e
    · rename_i q hd
      split at e
      · rename_i h1
        obtain ⟨n, hn⟩ := ex_Lim e
        refine Lim_some.mpr ⟨n + 1, ?_⟩
        show exec1 (mrun n) m pc ls st h = some r
        unfold exec1
        rw [hd]
        show (if lenI q.1 = q.2 ∨ lenI q.1 = 0 then ex (mrun n) q.1 m pc ls st h else none) = some r
        rw [if_pos h1]
        exact hn
      · cases e
    · cases e
end
section
/-! whole numbers behind the machine's ints and longs -/
theorem w32_bmod (x : Int) : Int.bmod x 4294967296 = w32 x := by
  unfold w32
  simp only [Int.bmod]
  split <;> omega
theorem w64_bmod (x : Int) : Int.bmod x 18446744073709551616 = w64 x := by
  unfold w64
  simp only [Int.bmod]
  split <;> omega
theorem i32_add (a b : Int32) : (a + b).toInt = w32 (a.toInt + b.toInt) := by
  rw [Int32.toInt_add]; exact w32_bmod _
theorem i32_sub (a b : Int32) : (a - b).toInt = w32 (a.toInt - b.toInt) := by
  rw [Int32.toInt_sub]; exact w32_bmod _
theorem i32_mul (a b : Int32) : (a * b).toInt = w32 (a.toInt * b.toInt) := by
  rw [Int32.toInt_mul]; exact w32_bmod _
theorem i32_div (a b : Int32) : (a / b).toInt = w32 (a.toInt.tdiv b.toInt) := by
  rw [Int32.toInt_div]; exact w32_bmod _
theorem i64_add (a b : Int64) : (a + b).toInt = w64 (a.toInt + b.toInt) := by
  rw [Int64.toInt_add]; exact w64_bmod _
theorem i64_sub (a b : Int64) : (a - b).toInt = w64 (a.toInt - b.toInt) := by
  rw [Int64.toInt_sub]; exact w64_bmod _
theorem i64_mul (a b : Int64) : (a * b).toInt = w64 (a.toInt * b.toInt) := by
  rw [Int64.toInt_mul]; exact w64_bmod _
theorem i64_div (a b : Int64) : (a / b).toInt = w64 (a.toInt.tdiv b.toInt) := by
  rw [Int64.toInt_div]; exact w64_bmod _
theorem i32_rng (a : Int32) : -2147483648 ≤ a.toInt ∧ a.toInt < 2147483648 := by
  have h1 := Int32.le_toInt a
  have h2 := Int32.toInt_lt a
  constructor <;> omega
theorem i64_rng (a : Int64) : -9223372036854775808 ≤ a.toInt ∧ a.toInt < 9223372036854775808 := by
  have h1 := Int64.le_toInt a
  have h2 := Int64.toInt_lt a
  constructor <;> omega
theorem w32_in {x : Int} (h1 : -2147483648 ≤ x) (h2 : x < 2147483648) : w32 x = x := by
  unfold w32; omega
theorem w64_in {x : Int} (h1 : -9223372036854775808 ≤ x) (h2 : x < 9223372036854775808) : w64 x = x := by
  unfold w64; omega
theorem w32_mul (a b : Int) : w32 (w32 a * b) = w32 (a * b) := by
  rw [← w32_bmod a, ← w32_bmod (a * b), ← w32_bmod]
  exact Int.bmod_mul_bmod
theorem w64_mul (a b : Int) : w64 (w64 a * b) = w64 (a * b) := by
  rw [← w64_bmod a, ← w64_bmod (a * b), ← w64_bmod]
  exact Int.bmod_mul_bmod
theorem w32_sub (a b : Int) : w32 (a - w32 b) = w32 (a - b) := by
  unfold w32; omega
theorem w64_sub (a b : Int) : w64 (a - w64 b) = w64 (a - b) := by
  unfold w64; omega
theorem tmod_rng {x y M : Int} (h1 : -M ≤ x) (h2 : x < M) : -M ≤ x.tmod y ∧ x.tmod y < M := by
  have h : (x.tmod y).natAbs ≤ x.natAbs := by rw [Int.natAbs_tmod]; exact Nat.mod_le _ _
  have hs := Int.tmod_nonneg (a := x) y
  have hn : x ≤ 0 → x.tmod y ≤ 0 := fun hx => by
    have := Int.tmod_nonneg (a := -x) y (by omega)
    rw [Int.neg_tmod] at this
    omega
  by_cases hx : 0 ≤ x
  · have := hs hx
    omega
  · have := hn (by omega)
    omega
theorem i32_rem (a b : Int32) : (a - a / b * b).toInt = a.toInt.tmod b.toInt := by
  rw [i32_sub, i32_mul, i32_div, w32_sub]
  have e : w32 (a.toInt - w32 (a.toInt.tdiv b.toInt) * b.toInt) = w32 (a.toInt - a.toInt.tdiv b.toInt * b.toInt) := by
    rw [← w32_sub, w32_mul, w32_sub]
  rw [e]
  have h3 : a.toInt - a.toInt.tdiv b.toInt * b.toInt = a.toInt.tmod b.toInt := by
    have := Int.tdiv_mul_add_tmod a.toInt b.toInt
    omega
  rw [h3]
  obtain ⟨r1, r2⟩ := i32_rng a
  obtain ⟨q1, q2⟩ := tmod_rng (y := b.toInt) r1 r2
  exact w32_in q1 q2
theorem i64_rem (a b : Int64) : (a - a / b * b).toInt = a.toInt.tmod b.toInt := by
  rw [i64_sub, i64_mul, i64_div, w64_sub]
  have e : w64 (a.toInt - w64 (a.toInt.tdiv b.toInt) * b.toInt) = w64 (a.toInt - a.toInt.tdiv b.toInt * b.toInt) := by
    rw [← w64_sub, w64_mul, w64_sub]
  rw [e]
  have h3 : a.toInt - a.toInt.tdiv b.toInt * b.toInt = a.toInt.tmod b.toInt := by
    have := Int.tdiv_mul_add_tmod a.toInt b.toInt
    omega
  rw [h3]
  obtain ⟨r1, r2⟩ := i64_rng a
  obtain ⟨q1, q2⟩ := tmod_rng (y := b.toInt) r1 r2
  exact w64_in q1 q2
theorem i32_iand (a b : Int32) : (a &&& b).toInt = iand a.toInt b.toInt := by simp [iand]
theorem i32_ior (a b : Int32) : (a ||| b).toInt = ior a.toInt b.toInt := by simp [ior]
theorem i32_ixor (a b : Int32) : (a ^^^ b).toInt = ixor a.toInt b.toInt := by simp [ixor]
theorem i32_shl (a b : Int32) : (a <<< (b &&& 31)).toInt = ishl a.toInt b.toInt := by simp [ishl]
theorem i32_shr (a b : Int32) : (a >>> (b &&& 31)).toInt = ishr a.toInt b.toInt := by simp [ishr]
theorem i32_ush (a b : Int32) : ((a.toUInt32 >>> (b.toUInt32 &&& Int32.toUInt32 31)).toInt32).toInt = iush a.toInt b.toInt := by simp [iush]
theorem i64_i32 (a : Int64) : a.toInt32.toInt = w32 a.toInt := by
  rw [Int64.toInt_toInt32]; exact w32_bmod _
theorem i32_i64 (a : Int32) : a.toInt64.toInt = a.toInt := by simp
theorem i32_i8 (a : Int32) : a.toInt8.toInt32.toInt = w8 a.toInt := by
  simp only [Int8.toInt_toInt32, Int32.toInt_toInt8, Int.bmod]
  unfold w8
  split <;> omega
theorem i32_eq {a b : Int32} : a = b ↔ a.toInt = b.toInt := Int32.toInt_inj.symm
theorem i32_nat {a : Int32} (h : 0 ≤ a.toInt) : (a.toNatClampNeg : Int) = a.toInt := by
  show ((a.toInt.toNat : Nat) : Int) = a.toInt
  omega
theorem i32_cl (a : Int32) : a.toNatClampNeg = a.toInt.toNat := rfl
theorem i32_of {n : Int} (h1 : -2147483648 ≤ n) (h2 : n < 2147483648) : (Int32.ofInt n).toInt = n := by
  rw [Int32.toInt_ofInt]
  simp only [Int.bmod, Int32.size]
  split <;> omega
theorem i8_of {n : Int} (h1 : -128 ≤ n) (h2 : n ≤ 127) : ((Int8.ofInt n).toInt32).toInt = n := by
  rw [Int8.toInt_toInt32, Int8.toInt_ofInt]
  simp only [Int.bmod, Int8.size]
  split <;> omega
theorem i16_of {n : Int} (h1 : -32768 ≤ n) (h2 : n ≤ 32767) : ((Int16.ofInt n).toInt32).toInt = n := by
  rw [Int16.toInt_toInt32, Int16.toInt_ofInt]
  simp only [Int.bmod, Int16.size]
  split <;> omega
end
section
/-! how the mini machine's values and memory stand in the machine -/
/-- the size of the heap at the law's entry; where the cells 1 to 5 are; the classes and their slots -/
abbrev mG : Type := Nat × (Nat → Nat) × va_G
def rho (G : mG) (k : Nat) : Nat := if k < 6 then G.2.1 k else G.1 + (k - 6)
def RV (G : mG) (v : mV) (w : Value) : Prop := match v with
  | .inl x => ∃ a : Int32, w = .int a ∧ a.toInt = x
  | .inr (.inl x) => ∃ a : Int64, w = .long a ∧ a.toInt = x
  | .inr (.inr k) => w = if k = 0 then .null else .ref (rho G k)
def RL (G : mG) : List mV → List Value → Prop
  | [], [] => True
  | v :: r, w :: q => RV G v w ∧ RL G r q
  | _, _ => False
def RS (G : mG) (ty : Nat) (x : Int) (w : Value) : Prop := if ty = 2 then 0 ≤ x ∧ RV G (.inr (.inr x.toNat)) w else RV G (.inl x) w
def tyf (ci j : Nat) : Nat := (tfld.getD ci []).getD j 0
def tyA (kd : Nat) : FieldType := if kd = 10 then .int else if kd = 11 then .byte else if kd = 12 then .boolean else .array .int
def RC (G : mG) (s : State) (kd n : Nat) (row : Nat → Int) (cell : Cell) : Prop :=
  (kd < 7 ∧ n = nfld kd ∧ cell.cls = G.2.2.1 kd ∧ cell.vm = .none ∧ ∀ j, j < n → ∃ w, cell.slots[G.2.2.2 kd j]? = some w ∧ RS G (tyf kd j) (row j) w) ∨
  (10 ≤ kd ∧ kd ≤ 13 ∧ n < 1000000 ∧ s.isArrayOf cell (tyA kd) ∧ cell.vm ≠ .unknown ∧ cell.slots.size = n ∧ ∀ j, j < n → ∃ w, cell.slots[j]? = some w ∧ RS G (if kd = 13 then 2 else 0) (row j) w) ∨
  kd = 20
def Rep (G : mG) (s : State) (h : mH) (H : Heap) : Prop := H.size = G.1 + (h.1.length - 6) ∧ 6 ≤ h.1.length ∧ (∀ k, 1 ≤ k → k < 6 → G.2.1 k < G.1) ∧
  ∀ (k : Nat) (q : Nat × Nat), 1 ≤ k → h.1[k]? = some q → ∃ cell, H[rho G k]? = some cell ∧ RC G s q.1 q.2 (h.2 k) cell
def LR (G : mG) (n : Nat) (ls : mL) (L : Array Slot) : Prop := L.size = n ∧ lv_wf L ∧ ls.length = n ∧ ∀ (i : Nat) (v : mV), ls[i]? = some (some v) → ∃ w, L[i]? = some (.val w) ∧ RV G v w
theorem RV_cat {G : mG} {v : mV} {w : Value} (h : RV G v w) : w.category = catV v := by
  match v, h with
  | .inl x, ⟨a, e, _⟩ => rw [e]; rfl
  | .inr (.inl x), ⟨a, e, _⟩ => rw [e]; rfl
  | .inr (.inr k), h =>
    have h : w = if k = 0 then .null else .ref (rho G k) := h
    rw [h]
    split <;> rfl
theorem RL_cat {G : mG} : ∀ {st : List mV} {S : List Value}, RL G st S → (S.map fun v => v.category).sum = catS st
  | [], [], _ => rfl
  | v :: r, w :: q, h => by
    have h1 := RV_cat h.1
    have h2 := RL_cat h.2
    simp only [List.map_cons, List.sum_cons, catS] at h2 ⊢
    rw [h1, h2]
theorem RL_len {G : mG} : ∀ {st : List mV} {S : List Value}, RL G st S → S.length = st.length
  | [], [], _ => rfl
  | v :: r, w :: q, h => by simp [RL_len h.2]
theorem RL_cons {G : mG} {v : mV} {r : List mV} {S : List Value} (h : RL G (v :: r) S) : ∃ w q, S = w :: q ∧ RV G v w ∧ RL G r q := by
  match S, h with
  | w :: q, h => exact ⟨w, q, rfl, h.1, h.2⟩
theorem RL_nil {G : mG} {S : List Value} (h : RL G [] S) : S = [] := by
  match S, h with
  | [], _ => rfl
theorem RL_app {G : mG} : ∀ {a b : List mV} {A B : List Value}, RL G a A → RL G b B → RL G (a ++ b) (A ++ B)
  | [], _, [], _, _, h => h
  | _ :: _, _, _ :: _, _, h1, h2 => ⟨h1.1, RL_app h1.2 h2⟩
theorem RL_take {G : mG} : ∀ (n : Nat) {a : List mV} {A : List Value}, RL G a A → RL G (a.take n) (A.take n)
  | 0, _, _, _ => by simp [RL]
  | n + 1, [], [], _ => by simp [RL]
  | n + 1, _ :: _, _ :: _, h => ⟨h.1, RL_take n h.2⟩
theorem RL_drop {G : mG} : ∀ (n : Nat) {a : List mV} {A : List Value}, RL G a A → RL G (a.drop n) (A.drop n)
  | 0, _, _, h => h
  | n + 1, [], [], _ => by simp [RL]
  | n + 1, _ :: _, _ :: _, h => RL_drop n h.2
theorem RL_rev {G : mG} : ∀ {a : List mV} {A : List Value}, RL G a A → RL G a.reverse A.reverse
  | [], [], _ => by simp [RL]
  | v :: r, w :: q, h => by
    rw [List.reverse_cons, List.reverse_cons]
    exact RL_app (RL_rev h.2) ⟨h.1, trivial⟩
theorem RV_int {G : mG} {x : Int} {w : Value} (h : RV G (.inl x) w) : ∃ a : Int32, w = .int a ∧ a.toInt = x := h
theorem RV_lng {G : mG} {x : Int} {w : Value} (h : RV G (.inr (.inl x)) w) : ∃ a : Int64, w = .long a ∧ a.toInt = x := h
theorem RV_ref {G : mG} {k : Nat} {w : Value} (h : RV G (.inr (.inr k)) w) : w = if k = 0 then .null else .ref (rho G k) := h
theorem RV_ref1 {G : mG} {k : Nat} {w : Value} (h : RV G (.inr (.inr k)) w) (hk : k ≠ 0) : w = .ref (rho G k) := by
  rw [RV_ref h, if_neg hk]
/-! locals -/
def lvO (ls : mL) (L : Array Slot) : List (Nat × Value) := (List.range ls.length).filterMap (fun i => match ls[i]?, (L[i]? : Option Slot) with
  | some (some _), some (Slot.val w) => some (i, w)
  | _, _ => none)
theorem lvO_mem {ls : mL} {L : Array Slot} {i : Nat} {w : Value} {v : mV} (h1 : ls[i]? = some (some v)) (h2 : L[i]? = some (.val w)) : (i, w) ∈ lvO ls L := by
  unfold lvO
  refine List.mem_filterMap.mpr ⟨i, List.mem_range.mpr (List.getElem?_eq_some_iff.mp h1).1, ?_⟩
  rw [h1, h2]
theorem lvO_of {ls : mL} {L : Array Slot} {q : Nat × Value} (h : q ∈ lvO ls L) : L[q.1]? = some (.val q.2) := by
  unfold lvO at h
  obtain ⟨i, -, h⟩ := List.mem_filterMap.mp h
  split at h
  · rename_i h1 h2
    cases h
    exact h2
  · cases h
theorem LR_has {G : mG} {n : Nat} {ls : mL} {L : Array Slot} (h : LR G n ls L) : lv_has L n (lvO ls L) := ⟨h.1, h.2.1, fun _ hq => lvO_of hq⟩
theorem LR_set1 {G : mG} {n i : Nat} {ls ls' : mL} {L L' : Array Slot} {v : mV} {w : Value} (h : LR G n ls L) (hs : set1 ls i v = some ls') (hv : RV G v w)
    (hl : lv_has L' n ((i, w) :: (lvO ls L).filter (fun q => !(q.1 == i) && !(q.1 + 1 == i && q.2.category == 2)))) : LR G n ls' L' := by
  obtain ⟨h1, h2, h3, h4⟩ := h
  unfold set1 at hs
  split at hs
  · rename_i hi
    have key : ∀ (j : Nat) (u : mV), j ≠ i → ls[j]? = some (some u) → ¬ (j + 1 = i ∧ catV u = 2) → ∃ w, L'[j]? = some (.val w) ∧ RV G u w := by
      intro j u hj hu hc
      obtain ⟨z, z1, z2⟩ := h4 j u hu
      refine ⟨z, hl.2.2 (j, z) (List.mem_cons_of_mem _ (List.mem_filter.mpr ⟨lvO_mem hu z1, ?_⟩)), z2⟩
      have hz := RV_cat z2
      by_cases hji : j + 1 = i
      · have : catV u ≠ 2 := fun q => hc ⟨hji, q⟩
        simp [hj, hz, this]
      · simp [hj, hji]
    have hnew : L'[i]? = some (.val w) := hl.2.2 (i, w) List.mem_cons_self
    have e : ls' = if i ≠ 0 ∧ lngV ls[i - 1]? = true then (ls.set i (some v)).set (i - 1) none else ls.set i (some v) := (Option.some.inj hs).symm
    refine ⟨hl.1, hl.2.1, ?_, ?_⟩
    · rw [e]; split <;> simp [h3]
    · intro j u hu
      rw [e] at hu
      split at hu
      · rename_i hc
        by_cases hj : j = i - 1
        · subst hj
          rw [List.getElem?_set_self (by simp; omega)] at hu
          cases hu
        · rw [List.getElem?_set_ne (Ne.symm hj)] at hu
          by_cases hj2 : j = i
          · subst hj2
            rw [List.getElem?_set_self hi] at hu
            cases hu
            exact ⟨w, hnew, hv⟩
          · rw [List.getElem?_set_ne (Ne.symm hj2)] at hu
            exact key j u hj2 hu (fun q => hj (by omega))
      · rename_i hc
        by_cases hj2 : j = i
        · subst hj2
          rw [List.getElem?_set_self hi] at hu
          cases hu
          exact ⟨w, hnew, hv⟩
        · rw [List.getElem?_set_ne (Ne.symm hj2)] at hu
          refine key j u hj2 hu (fun q => hc ⟨by omega, ?_⟩)
          have : i - 1 = j := by omega
          rw [this, hu]
          match u, q.2 with
          | .inr (.inl _), _ => rfl
  · cases hs
theorem LR_set2 {G : mG} {n i : Nat} {ls ls' : mL} {L L' : Array Slot} {v : mV} {w : Value} (h : LR G n ls L) (hs : set2 ls i v = some ls') (hv : RV G v w)
    (hl : lv_has L' n ((i, w) :: (lvO ls L).filter (fun q => !(q.1 == i) && (!(q.1 == i + 1) && !(q.1 + 1 == i && q.2.category == 2))))) : LR G n ls' L' := by
  obtain ⟨h1, h2, h3, h4⟩ := h
  unfold set2 at hs
  split at hs
  · rename_i hi
    have key : ∀ (j : Nat) (u : mV), j ≠ i → j ≠ i + 1 → ls[j]? = some (some u) → ¬ (j + 1 = i ∧ catV u = 2) → ∃ w, L'[j]? = some (.val w) ∧ RV G u w := by
      intro j u hj hj' hu hc
      obtain ⟨z, z1, z2⟩ := h4 j u hu
      refine ⟨z, hl.2.2 (j, z) (List.mem_cons_of_mem _ (List.mem_filter.mpr ⟨lvO_mem hu z1, ?_⟩)), z2⟩
      have hz := RV_cat z2
      by_cases hji : j + 1 = i
      · have : catV u ≠ 2 := fun q => hc ⟨hji, q⟩
        simp [hj, hj', hz, this]
      · simp [hj, hj', hji]
    have hnew : L'[i]? = some (.val w) := hl.2.2 (i, w) List.mem_cons_self
    have e : ls' = if i ≠ 0 ∧ lngV ls[i - 1]? = true then ((ls.set i (some v)).set (i + 1) none).set (i - 1) none else (ls.set i (some v)).set (i + 1) none := (Option.some.inj hs).symm
    have hmid : ∀ (j : Nat) (u : mV), ((ls.set i (some v)).set (i + 1) none)[j]? = some (some u) → ¬ (j + 1 = i ∧ catV u = 2) → ∃ w, L'[j]? = some (.val w) ∧ RV G u w := by
      intro j u hu hc
      by_cases hj : j = i + 1
      · subst hj
        rw [List.getElem?_set_self (by simp; omega)] at hu
        cases hu
      · rw [List.getElem?_set_ne (Ne.symm hj)] at hu
        by_cases hj2 : j = i
        · subst hj2
          rw [List.getElem?_set_self (by omega)] at hu
          cases hu
          exact ⟨w, hnew, hv⟩
        · rw [List.getElem?_set_ne (Ne.symm hj2)] at hu
          exact key j u hj2 hj hu hc
    refine ⟨hl.1, hl.2.1, ?_, ?_⟩
    · rw [e]; split <;> simp [h3]
    · intro j u hu
      rw [e] at hu
      split at hu
      · rename_i hc
        by_cases hj : j = i - 1
        · subst hj
          rw [List.getElem?_set_self (by simp; omega)] at hu
          cases hu
        · rw [List.getElem?_set_ne (Ne.symm hj)] at hu
          exact hmid j u hu (fun q => hj (by omega))
      · rename_i hc
        refine hmid j u hu (fun q => hc ⟨by omega, ?_⟩)
        have hji : j ≠ i := by omega
        have hji' : j ≠ i + 1 := by omega
        rw [List.getElem?_set_ne (Ne.symm hji'), List.getElem?_set_ne (Ne.symm hji)] at hu
        have : i - 1 = j := by omega
        rw [this, hu]
        match u, q.2 with
        | .inr (.inl _), _ => rfl
  · cases hs
theorem ldI_of {G : mG} {n i : Nat} {ls : mL} {L : Array Slot} {x : Int} (h : LR G n ls L) (e : ldI ls i = some x) : ∃ a : Int32, L[i]? = some (.val (.int a)) ∧ a.toInt = x := by
  unfold ldI at e
  split at e
  · rename_i y hy
    cases e
    obtain ⟨w, h1, a, rfl, h2⟩ := h.2.2.2 i _ hy
    exact ⟨a, h1, h2⟩
  · cases e
theorem ldJ_of {G : mG} {n i : Nat} {ls : mL} {L : Array Slot} {x : Int} (h : LR G n ls L) (e : ldJ ls i = some x) : ∃ a : Int64, L[i]? = some (.val (.long a)) ∧ a.toInt = x := by
  unfold ldJ at e
  split at e
  · rename_i y hy
    cases e
    obtain ⟨w, h1, a, rfl, h2⟩ := h.2.2.2 i _ hy
    exact ⟨a, h1, h2⟩
  · cases e
theorem ldA_of {G : mG} {n i : Nat} {ls : mL} {L : Array Slot} {x : Nat} (h : LR G n ls L) (e : ldA ls i = some x) : L[i]? = some (.val (if x = 0 then .null else .ref (rho G x))) := by
  unfold ldA at e
  split at e
  · rename_i y hy
    cases e
    obtain ⟨w, h1, h2⟩ := h.2.2.2 i _ hy
    rw [h1, RV_ref h2]
  · cases e
/-- a method's locals at its entry -/
theorem LR_args {G : mG} : ∀ {as : List mV} {A : List Value}, RL G as A → (lg_sl A).length = (argL as).length ∧ ∀ (i : Nat) (v : mV), (argL as)[i]? = some (some v) → ∃ w, (∀ b, (b + i, w) ∈ lv_args b A) ∧ RV G v w
  | [], [], _ => ⟨rfl, fun i v h => by simp [argL] at h⟩
  | v :: r, w :: q, h => by
    obtain ⟨e, f⟩ := LR_args h.2
    have hc := RV_cat h.1
    by_cases h2 : catV v = 2
    · have ea : argL (v :: r) = some v :: none :: argL r := by simp [argL, h2]
      have el : lg_sl (w :: q) = .val w :: .second :: lg_sl q := by simp [lg_sl, hc, h2]
      refine ⟨by rw [ea, el]; simp [e], fun i u hu => ?_⟩
      rw [ea] at hu
      match i, hu with
      | 0, hu =>
        cases hu
        exact ⟨w, fun b => by simp [lv_args], h.1⟩
      | 1, hu => cases hu
      | i + 2, hu =>
        obtain ⟨z, z1, z2⟩ := f i u (by simpa using hu)
        refine ⟨z, fun b => ?_, z2⟩
        have := z1 (b + 2)
        simp only [lv_args, hc, h2, if_true]
        refine List.mem_cons_of_mem _ ?_
        rw [show b + (i + 2) = b + 2 + i by omega]
        exact this
    · have ea : argL (v :: r) = some v :: argL r := by simp [argL, h2]
      have el : lg_sl (w :: q) = .val w :: lg_sl q := by simp [lg_sl, hc, h2]
      refine ⟨by rw [ea, el]; simp [e], fun i u hu => ?_⟩
      rw [ea] at hu
      match i, hu with
      | 0, hu =>
        cases hu
        exact ⟨w, fun b => by simp [lv_args], h.1⟩
      | i + 1, hu =>
        obtain ⟨z, z1, z2⟩ := f i u (by simpa using hu)
        refine ⟨z, fun b => ?_, z2⟩
        have := z1 (b + 1)
        simp only [lv_args, hc, h2, if_false]
        refine List.mem_cons_of_mem _ ?_
        rw [show b + (i + 1) = b + 1 + i by omega]
        exact this
theorem LR_entry {G : mG} {t : Nat} {as : List mV} {A : List Value} (h : RL G as A) (hm : (argL as).length ≤ mmax t) :
    LR G (mmax t) (entL t as) ((lg_sl A ++ List.replicate (mmax t - (lg_sl A).length) Slot.unset).toArray) := by
  obtain ⟨e, f⟩ := LR_args h
  obtain ⟨q1, q2, q3⟩ := lv_entry A (n := mmax t) (by rw [e]; exact hm)
  refine ⟨q1, q2, by unfold entL; simp; omega, fun i v hv => ?_⟩
  unfold entL at hv
  by_cases hi : i < (argL as).length
  · rw [List.getElem?_append_left hi] at hv
    obtain ⟨w, w1, w2⟩ := f i v hv
    have := w1 0
    rw [Nat.zero_add] at this
    exact ⟨w, q3 (i, w) this, w2⟩
  · rw [List.getElem?_append_right (by omega)] at hv
    have := List.eq_of_mem_replicate (List.mem_of_getElem? hv)
    cases this
end
section
/-! names of classes, fields and methods; the words of each link, by their places in lw_tbl -/
def cnm (c : Nat) : String := ["TypedBlocks$Checker", "TypedBlocks$Machine", "TypedBlocks$Program", "TypedBlocks$Shelf", "TypedBlocks$Text", "TypedBlocks", "TypedBlocksModel", "TypedBlocksLaw", "java/lang/Integer"].getD c ""
def TX0 : u_T := fun k => match k with
  | 0 => ("TypedBlocks$Checker", "program", "LTypedBlocks$Program;", false)
  | 1 => ("TypedBlocks$Checker", "registers", "[I", true)
  | 2 => ("TypedBlocks$Checker", "stack", "[I", true)
  | 3 => ("TypedBlocks$Checker", "allFields", "[I", true)
  | 4 => ("TypedBlocks$Checker", "standsFor", "[Z", true)
  | 5 => ("TypedBlocks$Checker", "open", "I", false)
  | 6 => ("TypedBlocks$Checker", "ended", "Z", false)
  | 7 => ("TypedBlocks$Checker", "height", "I", false)
  | 8 => ("TypedBlocks$Checker", "place", "I", false)
  | _ => ("TypedBlocks$Checker", "refusal", "I", false)
def TX1 : u_T := fun k => match k with
  | 0 => ("TypedBlocks$Machine", "program", "LTypedBlocks$Program;", false)
  | 1 => ("TypedBlocks$Machine", "registers", "[I", true)
  | 2 => ("TypedBlocks$Machine", "stack", "[I", true)
  | 3 => ("TypedBlocks$Machine", "sortOf", "[I", true)
  | 4 => ("TypedBlocks$Machine", "fields", "[I", true)
  | 5 => ("TypedBlocks$Machine", "height", "I", false)
  | 6 => ("TypedBlocks$Machine", "tuples", "I", false)
  | 7 => ("TypedBlocks$Machine", "block", "I", false)
  | 8 => ("TypedBlocks$Machine", "place", "I", false)
  | 9 => ("TypedBlocks$Machine", "steps", "I", false)
  | _ => ("TypedBlocks$Machine", "how", "I", false)
def TX2 : u_T := fun k => match k with
  | _ => ("TypedBlocks$Program", "cells", "[I", true)
def TX3 : u_T := fun k => match k with
  | 0 => ("TypedBlocks$Shelf", "rows", "[[I", true)
  | 1 => ("TypedBlocks$Shelf", "next", "I", false)
  | _ => ("TypedBlocks$Shelf", "held", "I", false)
def TX4 : u_T := fun k => match k with
  | 0 => ("TypedBlocks$Text", "told", "LTypedBlocks$Program;", true)
  | 1 => ("TypedBlocks$Text", "letters", "[I", true)
  | 2 => ("TypedBlocks$Text", "length", "I", false)
  | _ => ("TypedBlocks$Text", "at", "I", false)
def TX5 : u_T := fun k => match k with
  | 0 => ("TypedBlocks", "text", "LTypedBlocks$Text;", true)
  | 1 => ("TypedBlocks", "now", "LTypedBlocks$Program;", true)
  | 2 => ("TypedBlocks", "trial", "LTypedBlocks$Program;", true)
  | 3 => ("TypedBlocks", "checker", "LTypedBlocks$Checker;", true)
  | 4 => ("TypedBlocks", "machine", "LTypedBlocks$Machine;", true)
  | 5 => ("TypedBlocks", "undoable", "LTypedBlocks$Shelf;", true)
  | _ => ("TypedBlocks", "kept", "LTypedBlocks$Shelf;", true)
def TX6 : u_T := fun k => match k with
  | 0 => ("TypedBlocksModel", "sorts", "I", false)
  | 1 => ("TypedBlocksModel", "fields", "[I", true)
  | 2 => ("TypedBlocksModel", "field", "[I", true)
  | 3 => ("TypedBlocksModel", "labels", "I", false)
  | 4 => ("TypedBlocksModel", "high", "[I", true)
  | 5 => ("TypedBlocksModel", "stack", "[I", true)
  | 6 => ("TypedBlocksModel", "newSorts", "I", false)
  | 7 => ("TypedBlocksModel", "newFields", "[I", true)
  | 8 => ("TypedBlocksModel", "newField", "[I", true)
  | 9 => ("TypedBlocksModel", "newLabels", "I", false)
  | 10 => ("TypedBlocksModel", "newHigh", "[I", true)
  | 11 => ("TypedBlocksModel", "newStack", "[I", true)
  | 12 => ("TypedBlocksModel", "newSlot", "[I", true)
  | 13 => ("TypedBlocksModel", "meant", "I", false)
  | 14 => ("TypedBlocksModel", "slot", "[I", true)
  | 15 => ("TypedBlocksModel", "acts", "I", false)
  | 16 => ("TypedBlocksModel", "kept", "I", false)
  | 17 => ("TypedBlocksModel", "length", "I", false)
  | 18 => ("TypedBlocksModel", "text", "[B", true)
  | 19 => ("TypedBlocksModel", "next", "I", false)
  | 20 => ("TypedBlocksModel", "place", "I", false)
  | 21 => ("TypedBlocksModel", "isWrong", "Z", false)
  | 22 => ("TypedBlocksModel", "register", "[I", true)
  | 23 => ("TypedBlocksModel", "pile", "[I", true)
  | 24 => ("TypedBlocksModel", "piled", "I", false)
  | 25 => ("TypedBlocksModel", "isBelow", "Z", false)
  | 26 => ("TypedBlocksModel", "refusedAt", "I", false)
  | 27 => ("TypedBlocksModel", "reason", "I", false)
  | 28 => ("TypedBlocksModel", "holds", "[I", true)
  | 29 => ("TypedBlocksModel", "heap", "[I", true)
  | 30 => ("TypedBlocksModel", "sortAt", "[I", true)
  | 31 => ("TypedBlocksModel", "things", "[I", true)
  | 32 => ("TypedBlocksModel", "height", "I", false)
  | 33 => ("TypedBlocksModel", "tuples", "I", false)
  | 34 => ("TypedBlocksModel", "pc", "I", false)
  | 35 => ("TypedBlocksModel", "at", "I", false)
  | _ => ("TypedBlocksModel", "how", "I", false)
def TXs (c : Nat) : u_T := [TX0, TX1, TX2, TX3, TX4, TX5, TX6].getD c TX0
abbrev vwCl : List vw_C := [("TypedBlocks$Checker", TX0, 10), ("TypedBlocks$Machine", TX1, 11), ("TypedBlocks$Program", TX2, 1), ("TypedBlocks$Shelf", TX3, 3), ("TypedBlocks$Text", TX4, 4), ("TypedBlocks", TX5, 7), ("TypedBlocksModel", TX6, 37)]
def mnmL : List MethodName := [⟨"TypedBlocks$Checker", "<init>", "()V"⟩, ⟨"TypedBlocks$Checker", "take", "(LTypedBlocks$Program;)V"⟩, ⟨"TypedBlocks$Checker", "wantsSuffice", "(II)Z"⟩, ⟨"TypedBlocks$Checker", "isPlainlyEnough", "(II)Z"⟩, ⟨"TypedBlocks$Checker", "heightSuffices", "(IIII)Z"⟩, ⟨"TypedBlocks$Checker", "isEnough", "(II)Z"⟩, ⟨"TypedBlocks$Checker", "isCode", "(I)Z"⟩, ⟨"TypedBlocks$Checker", "register", "(I)I"⟩, ⟨"TypedBlocks$Checker", "setRegister", "(II)V"⟩, ⟨"TypedBlocks$Checker", "fromTop", "(I)I"⟩, ⟨"TypedBlocks$Checker", "begin", "(I)V"⟩, ⟨"TypedBlocks$Checker", "passes", "(II)Z"⟩, ⟨"TypedBlocks$Checker", "isSure", "(I)Z"⟩, ⟨"TypedBlocks$Checker", "sureBits", "()I"⟩, ⟨"TypedBlocks$Checker", "joinBits", "(I)I"⟩, ⟨"TypedBlocks$Checker", "step", "(II)I"⟩, ⟨"TypedBlocks$Checker", "jump", "(I)I"⟩, ⟨"TypedBlocks$Checker", "setField", "(III)I"⟩, ⟨"TypedBlocks$Checker", "getField", "(III)I"⟩, ⟨"TypedBlocks$Checker", "push", "(I)Z"⟩, ⟨"TypedBlocks$Checker", "pop", "(I)I"⟩, ⟨"TypedBlocks$Checker", "isTuple", "(I)Z"⟩, ⟨"TypedBlocks$Checker", "sortOf", "(I)I"⟩, ⟨"TypedBlocks$Checker", "fieldsOf", "(I)I"⟩, ⟨"TypedBlocks$Checker", "fieldsSet", "(I)I"⟩, ⟨"TypedBlocks$Checker", "tuple", "(II)I"⟩, ⟨"TypedBlocks$Machine", "<init>", "()V"⟩, ⟨"TypedBlocks$Machine", "begin", "(LTypedBlocks$Program;I)V"⟩, ⟨"TypedBlocks$Machine", "makeFirstTuples", "(I)V"⟩, ⟨"TypedBlocks$Machine", "firstThing", "(II)I"⟩, ⟨"TypedBlocks$Machine", "goOn", "(I)V"⟩, ⟨"TypedBlocks$Machine", "goTo", "(I)V"⟩, ⟨"TypedBlocks$Machine", "register", "(I)I"⟩, ⟨"TypedBlocks$Machine", "isWord", "(I)Z"⟩, ⟨"TypedBlocks$Machine", "isLabel", "(I)Z"⟩, ⟨"TypedBlocks$Machine", "step", "()I"⟩, ⟨"TypedBlocks$Machine", "leave", "(III)I"⟩, ⟨"TypedBlocks$Machine", "goOnAt", "(I)I"⟩, ⟨"TypedBlocks$Machine", "goOnBehind", "()I"⟩, ⟨"TypedBlocks$Machine", "goOnWith", "(II)I"⟩, ⟨"TypedBlocks$Machine", "sum", "(II)I"⟩, ⟨"TypedBlocks$Machine", "makeTuple", "(II)I"⟩, ⟨"TypedBlocks$Machine", "fieldAt", "(II)I"⟩, ⟨"TypedBlocks$Machine", "setField", "(III)I"⟩, ⟨"TypedBlocks$Machine", "getField", "(III)I"⟩, ⟨"TypedBlocks$Machine", "push", "(I)Z"⟩, ⟨"TypedBlocks$Machine", "pop", "(I)I"⟩, ⟨"TypedBlocks$Program", "<init>", "()V"⟩, ⟨"TypedBlocks$Program", "cell", "(I)I"⟩, ⟨"TypedBlocks$Program", "setCell", "(II)V"⟩, ⟨"TypedBlocks$Program", "copyFrom", "([I)V"⟩, ⟨"TypedBlocks$Program", "empty", "()V"⟩, ⟨"TypedBlocks$Program", "sorts", "()I"⟩, ⟨"TypedBlocks$Program", "labels", "()I"⟩, ⟨"TypedBlocks$Program", "allLabels", "()I"⟩, ⟨"TypedBlocks$Program", "hasSort", "(I)Z"⟩, ⟨"TypedBlocks$Program", "hasLabel", "(I)Z"⟩, ⟨"TypedBlocks$Program", "hasInstruction", "(II)Z"⟩, ⟨"TypedBlocks$Program", "hasType", "(I)Z"⟩, ⟨"TypedBlocks$Program", "fields", "(I)I"⟩, ⟨"TypedBlocks$Program", "fieldType", "(II)I"⟩, ⟨"TypedBlocks$Program", "addSort", "()V"⟩, ⟨"TypedBlocks$Program", "addField", "(II)V"⟩, ⟨"TypedBlocks$Program", "addLabel", "()V"⟩, ⟨"TypedBlocks$Program", "labelCell", "(II)I"⟩, ⟨"TypedBlocks$Program", "setLabelCell", "(III)V"⟩, ⟨"TypedBlocks$Program", "wanted", "(II)I"⟩, ⟨"TypedBlocks$Program", "setWanted", "(III)V"⟩, ⟨"TypedBlocks$Program", "wantedHeight", "(I)I"⟩, ⟨"TypedBlocks$Program", "wantedFromTop", "(II)I"⟩, ⟨"TypedBlocks$Program", "addWantedBelow", "(II)V"⟩, ⟨"TypedBlocks$Program", "openBelow", "(I)I"⟩, ⟨"TypedBlocks$Program", "setOpenBelow", "(II)V"⟩, ⟨"TypedBlocks$Program", "size", "(I)I"⟩, ⟨"TypedBlocks$Program", "part", "(III)I"⟩, ⟨"TypedBlocks$Program", "setInstruction", "(IIIIII)V"⟩, ⟨"TypedBlocks$Program", "makeRoom", "(II)V"⟩, ⟨"TypedBlocks$Program", "takeOut", "(II)V"⟩, ⟨"TypedBlocks$Program", "instructions", "()I"⟩, ⟨"TypedBlocks$Program", "allows", "(IIII)Z"⟩, ⟨"TypedBlocks$Program", "mayBeTold", "(IIIIII)Z"⟩, ⟨"TypedBlocks$Program", "choices", "(III)I"⟩, ⟨"TypedBlocks$Program", "isTarget", "(II)Z"⟩, ⟨"TypedBlocks$Program", "targets", "(I)I"⟩, ⟨"TypedBlocks$Program", "wantedCode", "(I)I"⟩, ⟨"TypedBlocks$Program", "codeBit", "(I)I"⟩, ⟨"TypedBlocks$Shelf", "<init>", "(I)V"⟩, ⟨"TypedBlocks$Shelf", "clear", "()V"⟩, ⟨"TypedBlocks$Shelf", "hold", "([I)V"⟩, ⟨"TypedBlocks$Shelf", "giveBack", "(LTypedBlocks$Program;)V"⟩, ⟨"TypedBlocks$Text", "<init>", "()V"⟩, ⟨"TypedBlocks$Text", "append", "(I)Z"⟩, ⟨"TypedBlocks$Text", "readAll", "()I"⟩, ⟨"TypedBlocks$Text", "isClosed", "()Z"⟩, ⟨"TypedBlocks$Text", "readItem", "()Z"⟩, ⟨"TypedBlocks$Text", "readSort", "()Z"⟩, ⟨"TypedBlocks$Text", "readLabel", "()Z"⟩, ⟨"TypedBlocks$Text", "readInstruction", "()Z"⟩, ⟨"TypedBlocks$Text", "isTold", "(I)Z"⟩, ⟨"TypedBlocks$Text", "peek", "()I"⟩, ⟨"TypedBlocks$Text", "isFigure", "(I)Z"⟩, ⟨"TypedBlocks$Text", "readFigure", "()I"⟩, ⟨"TypedBlocks$Text", "readNumber", "()I"⟩, ⟨"TypedBlocks$Text", "passes", "(I)Z"⟩, ⟨"TypedBlocks", "<init>", "()V"⟩, ⟨"TypedBlocks", "write", "(I)I"⟩, ⟨"TypedBlocks", "wipe", "()I"⟩, ⟨"TypedBlocks", "fault", "()I"⟩, ⟨"TypedBlocks", "lay", "()I"⟩, ⟨"TypedBlocks", "sort", "(II)I"⟩, ⟨"TypedBlocks", "label", "(II)I"⟩, ⟨"TypedBlocks", "code", "(III)I"⟩, ⟨"TypedBlocks", "put", "(IIIIII)I"⟩, ⟨"TypedBlocks", "add", "(IIIIII)I"⟩, ⟨"TypedBlocks", "cut", "(II)I"⟩, ⟨"TypedBlocks", "want", "(III)I"⟩, ⟨"TypedBlocks", "below", "(II)I"⟩, ⟨"TypedBlocks", "undo", "()I"⟩, ⟨"TypedBlocks", "check", "(I)I"⟩, ⟨"TypedBlocks", "reason", "(I)I"⟩, ⟨"TypedBlocks", "ahead", "(III)I"⟩, ⟨"TypedBlocks", "sure", "()I"⟩, ⟨"TypedBlocks", "joins", "(I)I"⟩, ⟨"TypedBlocks", "might", "(II)I"⟩, ⟨"TypedBlocks", "reached", "()I"⟩, ⟨"TypedBlocks", "mends", "(II)I"⟩, ⟨"TypedBlocks", "mendsBy", "(III)Z"⟩, ⟨"TypedBlocks", "run", "(III)I"⟩, ⟨"TypedBlocks", "day", "(III)I"⟩, ⟨"TypedBlocks", "drawn", "(II)I"⟩, ⟨"TypedBlocks", "change", "(I)V"⟩, ⟨"TypedBlocks", "keep", "()I"⟩, ⟨"TypedBlocks", "back", "()I"⟩, ⟨"TypedBlocks", "count", "(I)I"⟩, ⟨"TypedBlocksModel", "<init>", "()V"⟩, ⟨"TypedBlocksModel", "in", "(JJJ)Z"⟩, ⟨"TypedBlocksModel", "has", "(II)Z"⟩, ⟨"TypedBlocksModel", "bits", "(I)I"⟩, ⟨"TypedBlocksModel", "begins", "()V"⟩, ⟨"TypedBlocksModel", "tellsSort", "(II)V"⟩, ⟨"TypedBlocksModel", "tellsLabel", "(III)V"⟩, ⟨"TypedBlocksModel", "tells", "(IIII)V"⟩, ⟨"TypedBlocksModel", "settles", "()V"⟩, ⟨"TypedBlocksModel", "write", "(I)I"⟩, ⟨"TypedBlocksModel", "wipe", "()I"⟩, ⟨"TypedBlocksModel", "letterAt", "(I)I"⟩, ⟨"TypedBlocksModel", "number", "(II)I"⟩, ⟨"TypedBlocksModel", "comma", "()V"⟩, ⟨"TypedBlocksModel", "isFigure", "()Z"⟩, ⟨"TypedBlocksModel", "type", "()I"⟩, ⟨"TypedBlocksModel", "sortItem", "()V"⟩, ⟨"TypedBlocksModel", "labelItem", "()V"⟩, ⟨"TypedBlocksModel", "codeItem", "()V"⟩, ⟨"TypedBlocksModel", "labelsIn", "(III)I"⟩, ⟨"TypedBlocksModel", "mayBe", "(IIIIII)Z"⟩, ⟨"TypedBlocksModel", "reads", "()V"⟩, ⟨"TypedBlocksModel", "fault", "()I"⟩, ⟨"TypedBlocksModel", "lay", "()I"⟩, ⟨"TypedBlocksModel", "isLabel", "(I)Z"⟩, ⟨"TypedBlocksModel", "spot", "(III)I"⟩, ⟨"TypedBlocksModel", "many", "(II)I"⟩, ⟨"TypedBlocksModel", "isCode", "(II)Z"⟩, ⟨"TypedBlocksModel", "isType", "(I)Z"⟩, ⟨"TypedBlocksModel", "sort", "(II)I"⟩, ⟨"TypedBlocksModel", "label", "(II)I"⟩, ⟨"TypedBlocksModel", "code", "(III)I"⟩, ⟨"TypedBlocksModel", "copies", "(II)V"⟩, ⟨"TypedBlocksModel", "known", "()V"⟩, ⟨"TypedBlocksModel", "writes", "(IIIIIII)V"⟩, ⟨"TypedBlocksModel", "put", "(IIIIII)I"⟩, ⟨"TypedBlocksModel", "add", "(IIIIII)I"⟩, ⟨"TypedBlocksModel", "cut", "(II)I"⟩, ⟨"TypedBlocksModel", "want", "(III)I"⟩, ⟨"TypedBlocksModel", "below", "(II)I"⟩, ⟨"TypedBlocksModel", "undo", "()I"⟩, ⟨"TypedBlocksModel", "joinsFlat", "(III)Z"⟩, ⟨"TypedBlocksModel", "isEnough", "(III)Z"⟩, ⟨"TypedBlocksModel", "stands", "(II)V"⟩, ⟨"TypedBlocksModel", "areEnough", "(II)Z"⟩, ⟨"TypedBlocksModel", "isStackEnough", "(II)Z"⟩, ⟨"TypedBlocksModel", "jumps", "(II)I"⟩, ⟨"TypedBlocksModel", "isTuple", "(I)Z"⟩, ⟨"TypedBlocksModel", "sortOf", "(I)I"⟩, ⟨"TypedBlocksModel", "setOf", "(I)I"⟩, ⟨"TypedBlocksModel", "puts", "(IIII)I"⟩, ⟨"TypedBlocksModel", "gets", "(III)I"⟩, ⟨"TypedBlocksModel", "pushes", "(I)I"⟩, ⟨"TypedBlocksModel", "pops", "(I)I"⟩, ⟨"TypedBlocksModel", "moves", "(II)I"⟩, ⟨"TypedBlocksModel", "goes", "(II)I"⟩, ⟨"TypedBlocksModel", "ends", "(I)Z"⟩, ⟨"TypedBlocksModel", "checks", "(III)V"⟩, ⟨"TypedBlocksModel", "isSure", "(II)Z"⟩, ⟨"TypedBlocksModel", "check", "(I)I"⟩, ⟨"TypedBlocksModel", "reason", "(I)I"⟩, ⟨"TypedBlocksModel", "ahead", "(III)I"⟩, ⟨"TypedBlocksModel", "sureOnes", "(I)I"⟩, ⟨"TypedBlocksModel", "sure", "()I"⟩, ⟨"TypedBlocksModel", "joins", "(I)I"⟩, ⟨"TypedBlocksModel", "might", "(II)I"⟩, ⟨"TypedBlocksModel", "reached", "()I"⟩, ⟨"TypedBlocksModel", "mends", "(II)I"⟩, ⟨"TypedBlocksModel", "begun", "(II)I"⟩, ⟨"TypedBlocksModel", "starts", "(I)V"⟩, ⟨"TypedBlocksModel", "isWord", "(I)Z"⟩, ⟨"TypedBlocksModel", "isHeap", "(I)Z"⟩, ⟨"TypedBlocksModel", "goesTo", "(I)V"⟩, ⟨"TypedBlocksModel", "lands", "(II)V"⟩, ⟨"TypedBlocksModel", "makes", "(II)V"⟩, ⟨"TypedBlocksModel", "stores", "(III)V"⟩, ⟨"TypedBlocksModel", "loads", "(III)V"⟩, ⟨"TypedBlocksModel", "piles", "(I)V"⟩, ⟨"TypedBlocksModel", "unpiles", "(I)V"⟩, ⟨"TypedBlocksModel", "adds", "(II)V"⟩, ⟨"TypedBlocksModel", "parts", "(II)V"⟩, ⟨"TypedBlocksModel", "backs", "(I)V"⟩, ⟨"TypedBlocksModel", "step", "()V"⟩, ⟨"TypedBlocksModel", "run", "(III)I"⟩, ⟨"TypedBlocksModel", "day", "(III)I"⟩, ⟨"TypedBlocksModel", "keep", "()I"⟩, ⟨"TypedBlocksModel", "back", "()I"⟩, ⟨"TypedBlocksModel", "count", "(I)I"⟩, ⟨"java/lang/Integer", "bitCount", "(I)I"⟩, ⟨"TypedBlocksLaw", "law", "([I)Z"⟩]
def mname (t : Nat) : MethodName := mnmL.getD t ⟨"", "", ""⟩
def mret (t : Nat) : Option FieldType := if mans t = 1 then some .int else if mans t = 2 then some .boolean else none
def yStrLen : MethodName := ⟨"java/lang/String", "length", "()I"⟩
def yStrAt : MethodName := ⟨"java/lang/String", "charAt", "(I)C"⟩
def invW (c k way t : Nat) : List Cond := match way with
  | 0 => [.methodLink (cnm c) k (mname t), .instanceMethod (mname t), .selects (cnm (mown t)) (mname t) (mname t)]
  | 1 => [.methodLink (cnm c) k (mname t), .instanceMethod (mname t)]
  | 2 => [.methodLink (cnm c) k (mname t), .static (mname t)]
  | 3 => [.instanceMethod (mname t)]
  | 4 => [.methodLink (cnm c) k objectInit, .instanceMethod objectInit, .code objectInit ⟨#[0xb1]⟩ 1 none]
  | 5 => [.methodLink (cnm c) k arraycopyName, .native arraycopyName, .static arraycopyName, .initialized "java/lang/System"]
  | 6 => [.methodLink (cnm c) k yStrLen, .instanceMethod yStrLen, .selects "java/lang/String" yStrLen yStrLen, .initialized "java/lang/String"]
  | 7 => [.methodLink (cnm c) k yStrAt, .instanceMethod yStrAt, .selects "java/lang/String" yStrAt yStrAt, .initialized "java/lang/String"]
  | _ => []
def linvP : List (List (Nat × List Nat)) := [[(3, [149, 107, 108]), (11, [118]), (32, [617, 619, 9]), (36, [631, 353, 354]), (40, [621, 390, 391]), (43, [622, 596, 597]), (46, [623, 624]), (50, [626, 501, 502]), (54, [627, 628]), (57, [630, 508, 509]), (60, [685, 686]), (68, [645, 647, 11]), (84, [641, 643, 10]), (88, [649, 651, 12]), (91, [636, 414, 415]), (94, [637, 638, 639]), (97, [727, 365, 366]), (101, [728, 633, 634]), (104, [704, 706, 21]), (107, [653, 431, 432]), (111, [654, 655, 656]), (114, [658, 660, 13]), (118, [662, 664, 14]), (121, [670, 672, 16]), (124, [692, 694, 19]), (127, [696, 698, 20]), (130, [681, 683, 17]), (133, [700, 701, 702]), (136, [674, 675]), (139, [677, 678]), (142, [680, 528, 529]), (145, [688, 690, 18]), (148, [666, 668, 15])],
  [(5, [192, 107, 108]), (13, [118]), (31, [763, 765, 23]), (35, [771, 501, 502]), (39, [768, 769]), (46, [772, 390, 391]), (50, [773, 508, 509]), (53, [774, 776, 24]), (57, [778, 780, 25]), (66, [767, 528, 529]), (78, [786, 546, 547]), (82, [787, 789, 26]), (86, [791, 431, 432]), (90, [792, 793, 794]), (93, [796, 798, 27]), (96, [804, 806, 29]), (99, [811, 813, 30]), (102, [815, 817, 31]), (105, [824, 826, 33]), (108, [800, 802, 28]), (111, [828, 830, 34]), (114, [832, 834, 35]), (117, [836, 838, 36]), (120, [808, 809]), (123, [840, 841]), (126, [823, 353, 354]), (128, [819, 821, 32])],
  [(5, [120, 107, 108]), (15, [443, 445, 444, 98]), (21, [515, 365, 366]), (25, [376, 326, 327]), (28, [549, 536, 537]), (32, [429, 414, 415]), (36, [588, 373, 374]), (39, [340, 341, 342]), (42, [344, 345, 346]), (46, [393, 394, 395]), (50, [381, 382, 383]), (54, [389, 390, 391]), (57, [430, 431, 432]), (61, [434, 435, 436]), (65, [559, 418]), (69, [420, 421]), (75, [493, 494]), (79, [500, 501, 502]), (82, [504, 505]), (85, [507, 508, 509])],
  [(1, [238, 107, 108]), (23, [564, 445, 444, 98]), (29, [608, 440, 441])],
  [(3, [114, 107, 108]), (11, [118]), (29, [309, 310, 311]), (32, [313, 315, 0]), (36, [364, 365, 366]), (40, [489, 490, 491]), (44, [496, 497, 498]), (47, [511, 512, 513]), (50, [317, 319, 1]), (53, [321, 323, 2]), (56, [360, 362, 5]), (59, [409, 411, 8]), (62, [325, 326, 327]), (65, [329, 330]), (69, [332, 334, 3]), (72, [336, 337, 338]), (76, [348, 349, 350]), (79, [352, 353, 354]), (82, [356, 358, 4]), (85, [368, 370, 6]), (88, [377, 378, 379]), (92, [385, 386, 387]), (95, [397, 399, 7]), (98, [401, 402, 403]), (101, [405, 406, 407]), (104, [413, 414, 415]), (107, [417, 418]), (111, [425, 426, 427]), (114, [438, 435, 436]), (118, [372, 373, 374])],
  [(1, [106, 107, 108]), (9, [112]), (18, [118]), (28, [147]), (35, [190]), (42, [235, 236]), (54, [253, 254, 255, 94]), (60, [263, 264, 265, 94]), (64, [301, 302, 303]), (68, [305, 306, 307]), (78, [439, 440, 441]), (85, [485, 486, 487]), (89, [516, 517, 518]), (92, [520, 365, 366]), (95, [525, 373, 374]), (98, [526, 353, 354]), (102, [527, 528, 529]), (106, [535, 536, 537]), (109, [539, 390, 391]), (112, [540, 394, 395]), (115, [545, 546, 547]), (119, [550, 431, 432]), (123, [555, 556, 557]), (127, [560, 561, 562]), (130, [565, 435, 436]), (134, [570, 414, 415]), (137, [571, 426, 427]), (141, [576, 577, 578]), (144, [584, 585, 586]), (147, [589, 501, 502]), (150, [590, 378, 379]), (154, [595, 596, 597]), (157, [599, 402, 403]), (163, [604, 605, 606]), (167, [613, 614, 615]), (170, [632, 633, 634]), (179, [716, 638, 639]), (182, [717, 655, 656]), (188, [718, 701, 702]), (191, [723, 724, 725]), (194, [733, 734, 735]), (197, [741, 512, 513]), (200, [746, 490, 491]), (203, [751, 753, 22]), (207, [759, 760, 761]), (211, [782, 783, 784]), (224, [843, 793, 794]), (225, [844, 809]), (228, [849, 850]), (231, [855, 857, 37]), (234, [861, 862]), (248, [879, 326, 327]), (251, [880, 881, 882])],
  [(1, [889, 107, 108]), (62, [890, 892, 38]), (65, [894, 896, 39]), (69, [898, 900, 40]), (73, [902, 904, 41]), (77, [906, 908, 42]), (106, [1028, 1029]), (116, [1043, 1045, 44]), (130, [1051, 1053, 46]), (136, [1061, 1063, 48]), (140, [1067, 1069, 49]), (143, [1071, 1073, 50]), (147, [1079, 1080]), (151, [1083, 1084]), (160, [1047, 1049, 45]), (163, [1057, 1059, 47]), (166, [1075, 1077, 51]), (169, [1039, 1041, 43]), (172, [1099, 1101, 52]), (176, [1105, 1107, 53]), (187, [1113, 1115, 54]), (193, [1118, 1119]), (196, [1129, 1131, 56]), (199, [1125, 1127, 55]), (202, [1133, 1135, 57]), (206, [1149, 1151, 58]), (209, [1196, 1198, 65]), (219, [1192, 1194, 64]), (222, [1223, 1225, 71]), (225, [1227, 1229, 72]), (228, [1186, 1187]), (231, [1189, 1190]), (234, [1200, 1202, 66]), (237, [1208, 1209]), (240, [1178, 1180, 62]), (243, [1182, 1184, 63]), (247, [1204, 1206, 67]), (250, [1211, 1213, 68]), (253, [1215, 1217, 69]), (256, [1219, 1221, 70]), (259, [1170, 1172, 60]), (268, [1174, 1176, 61]), (271, [1231, 1232]), (274, [1166, 1168, 59]), (279, [1251, 1253, 74]), (282, [1247, 1249, 73]), (285, [1282, 1283]), (307, [1289, 1291, 77]), (310, [1308, 1309]), (313, [1297, 1298]), (316, [1325, 1327, 84]), (320, [1293, 1295, 78]), (323, [1300, 1302, 79]), (326, [1304, 1306, 80]), (329, [1313, 1315, 81]), (332, [1317, 1319, 82]), (335, [1321, 1323, 83]), (338, [1329, 1331, 85]), (341, [1333, 1335, 86]), (350, [1278, 1280, 75]), (353, [1285, 1287, 76]), (366, [1346, 1347])],
  [(9, [103, 104]), (12, [886, 887]), (13, [469, 470, 471]), (17, [1022, 1023, 1024]), (18, [473, 474, 475]), (22, [1031, 1032, 1033]), (23, [477, 478, 479]), (26, [1035, 1036, 1037]), (27, [481, 482, 483]), (30, [1086, 1087, 1088]), (31, [521, 522, 523]), (35, [1090, 1091, 1092]), (36, [531, 532, 533]), (39, [1095, 1096, 1097]), (40, [541, 542, 543]), (44, [1109, 1110, 1111]), (45, [551, 552, 553]), (49, [1121, 1122, 1123]), (50, [566, 567, 568]), (53, [1137, 1138, 1139]), (54, [572, 573, 574]), (57, [1141, 1142, 1143]), (58, [580, 581, 582]), (61, [1145, 1146, 1147]), (62, [591, 592, 593]), (65, [1154, 1155, 1156]), (66, [600, 601, 602]), (69, [1158, 1159, 1160]), (70, [609, 610, 611]), (73, [1162, 1163, 1164]), (74, [708, 709, 710]), (77, [1234, 1235, 1236]), (78, [712, 713, 714]), (81, [1238, 1239, 1240]), (82, [719, 720, 721]), (85, [1243, 1244, 1245]), (86, [729, 730, 731]), (89, [1255, 1256, 1257]), (90, [737, 738, 739]), (93, [1259, 1260, 1261]), (94, [742, 743, 744]), (97, [1263, 1264, 1265]), (98, [747, 748, 749]), (101, [1267, 1268, 1269]), (102, [755, 756, 757]), (105, [1271, 1272, 1273]), (106, [845, 846, 847]), (109, [1337, 1338, 1339]), (110, [867, 868, 869]), (113, [1349, 1350, 1351]), (114, [871, 872, 873]), (117, [1353, 1354, 1355]), (118, [875, 876, 877]), (121, [1357, 1358, 1359])],
  []]
def wAt (ps : List Nat) : List Cond := ps.filterMap (fun i => lw_tbl[i]?)
/-- the words that the limit of a call keeps -/
def gtbl : List Cond := lw_tbl.filter goodWord
theorem wAt_in {ps : List Nat} {ws : List Cond} (h : ws = wAt ps) (hg : ws.all goodWord = true) {w : Cond} (hw : w ∈ ws) : w ∈ gtbl := by
  have h1 := List.all_eq_true.mp hg w hw
  rw [h] at hw
  obtain ⟨i, -, hi⟩ := List.mem_filterMap.mp hw
  exact List.mem_filter.mpr ⟨List.mem_of_getElem? hi, h1⟩
theorem lkp_mem {α : Type} : ∀ {l : List (Nat × α)} {k : Nat} {a : α}, lkp l k = some a → (k, a) ∈ l
  | e :: r, k, a, h => by
    unfold lkp at h
    split at h
    · rename_i q
      cases h
      cases q
      exact List.mem_cons_self
    · exact List.mem_cons_of_mem _ (lkp_mem h)
theorem getD_lt {α : Type} {l : List (List α)} {c : Nat} {x : α} (h : x ∈ l.getD c []) : c < l.length := by
  rcases Nat.lt_or_ge c l.length with q | q
  · exact q
  · rw [List.getD_eq_getElem?_getD, List.getElem?_eq_none q] at h
    cases h
set_option maxRecDepth 100000 in
theorem inv_chk : (List.range 9).all (fun c => (linv.getD c []).all (fun e => decide (invW c e.1 e.2.1 e.2.2 = wAt ((lkp (linvP.getD c []) e.1).getD [])) && (invW c e.1 e.2.1 e.2.2).all goodWord)) = true := by decide +kernel
theorem inv_in {c k way t : Nat} (h : invOf c k = some (way, t)) {w : Cond} (hw : w ∈ invW c k way t) : w ∈ gtbl := by
  have h1 := lkp_mem h
  have h2 := List.all_eq_true.mp inv_chk c (List.mem_range.mpr (getD_lt h1))
  have h3 := List.all_eq_true.mp h2 _ h1
  simp only [Bool.and_eq_true, decide_eq_true_eq] at h3
  exact wAt_in h3.1 h3.2 hw
def mW (t : Nat) : List Cond := [.code (mname t) (codeOf t) (mmax t) (mret t), .initialized (mname t).cls]
def mWP : List (List Nat) := [[148, 91], [616, 91], [620, 91], [629, 91], [625, 91], [684, 91], [687, 91], [657, 91], [661, 91], [703, 91], [644, 91], [640, 91], [635, 91], [726, 91], [736, 91], [652, 91], [707, 91], [673, 91], [695, 91], [648, 91], [699, 91], [676, 91], [679, 91], [669, 91], [691, 91], [665, 91], [191, 92], [762, 92], [766, 92], [770, 92], [785, 92], [781, 92], [795, 92], [810, 92], [842, 92], [790, 92], [835, 92], [839, 92], [803, 92], [799, 92], [807, 92], [814, 92], [822, 92], [818, 92], [827, 92], [777, 92], [831, 92], [119, 90], [343, 90], [347, 90], [442, 90], [312, 90], [328, 90], [367, 90], [514, 90], [375, 90], [538, 90], [548, 90], [587, 90], [355, 90], [530, 90], [351, 90], [339, 90], [408, 90], [396, 90], [384, 90], [503, 90], [380, 90], [392, 90], [510, 90], [388, 90], [598, 90], [404, 90], [416, 90], [433, 90], [437, 90], [428, 90], [579, 90], [883, 90], [558, 90], [419, 90], [422, 90], [495, 90], [492, 90], [499, 90], [506, 90], [237, 93], [519, 93], [563, 93], [607, 93], [113, 89], [304, 89], [308, 89], [488, 89], [316, 89], [324, 89], [363, 89], [412, 89], [371, 89], [320, 89], [331, 89], [335, 89], [400, 89], [359, 89], [105, 88], [472, 88], [476, 88], [480, 88], [484, 88], [524, 88], [534, 88], [544, 88], [554, 88], [569, 88], [575, 88], [583, 88], [594, 88], [603, 88], [612, 88], [711, 88], [715, 88], [722, 88], [732, 88], [740, 88], [745, 88], [750, 88], [754, 88], [758, 88], [848, 88], [851, 88], [858, 88], [870, 88], [874, 88], [878, 88], [888, 99], [1030, 99], [1210, 99], [1348, 99], [893, 99], [897, 99], [901, 99], [905, 99], [909, 99], [1025, 99], [1034, 99], [1046, 99], [1074, 99], [1070, 99], [1054, 99], [1064, 99], [1050, 99], [1060, 99], [1078, 99], [1085, 99], [1081, 99], [1042, 99], [1038, 99], [1089, 99], [1102, 99], [1120, 99], [1108, 99], [1116, 99], [1152, 99], [1093, 99], [1098, 99], [1112, 99], [1132, 99], [1128, 99], [1136, 99], [1124, 99], [1140, 99], [1144, 99], [1148, 99], [1157, 99], [1161, 99], [1199, 99], [1195, 99], [1173, 99], [1226, 99], [1230, 99], [1222, 99], [1188, 99], [1191, 99], [1203, 99], [1185, 99], [1207, 99], [1214, 99], [1218, 99], [1181, 99], [1177, 99], [1233, 99], [1169, 99], [1254, 99], [1165, 99], [1237, 99], [1241, 99], [1250, 99], [1246, 99], [1258, 99], [1262, 99], [1266, 99], [1270, 99], [1284, 99], [1281, 99], [1299, 99], [1310, 99], [1328, 99], [1292, 99], [1303, 99], [1307, 99], [1316, 99], [1320, 99], [1324, 99], [1296, 99], [1332, 99], [1336, 99], [1288, 99], [1274, 99], [1340, 99], [1352, 99], [1356, 99], [1360, 99], [863, 100]]
theorem tb_1 {w : Cond} (h : w ∈ tables_1_1) (hg : goodWord w = true) : w ∈ gtbl := List.mem_filter.mpr ⟨by unfold lw_tbl tables_1; simp only [List.mem_append]; exact Or.inr (Or.inl h), hg⟩
theorem tb_2 {w : Cond} (h : w ∈ tables_1_2) (hg : goodWord w = true) : w ∈ gtbl := List.mem_filter.mpr ⟨by unfold lw_tbl tables_1; simp only [List.mem_append]; exact Or.inr (Or.inr (Or.inl h)), hg⟩
theorem tb_3 {w : Cond} (h : w ∈ tables_1_3) (hg : goodWord w = true) : w ∈ gtbl := List.mem_filter.mpr ⟨by unfold lw_tbl tables_1; simp only [List.mem_append]; exact Or.inr (Or.inr (Or.inr (Or.inl h))), hg⟩
theorem tb_4 {w : Cond} (h : w ∈ tables_1_4) (hg : goodWord w = true) : w ∈ gtbl := List.mem_filter.mpr ⟨by unfold lw_tbl tables_1; simp only [List.mem_append]; exact Or.inr (Or.inr (Or.inr (Or.inr (Or.inl h)))), hg⟩
theorem tb_5 {w : Cond} (h : w ∈ tables_1_5) (hg : goodWord w = true) : w ∈ gtbl := List.mem_filter.mpr ⟨by unfold lw_tbl tables_1; simp only [List.mem_append]; exact Or.inr (Or.inr (Or.inr (Or.inr (Or.inr (Or.inl h))))), hg⟩
theorem tb_6 {w : Cond} (h : w ∈ tables_1_6) (hg : goodWord w = true) : w ∈ gtbl := List.mem_filter.mpr ⟨by unfold lw_tbl tables_1; simp only [List.mem_append]; exact Or.inr (Or.inr (Or.inr (Or.inr (Or.inr (Or.inr h))))), hg⟩
set_option maxRecDepth 100000 in
theorem cw_0 : Cond.code (mname 0) (codeOf 0) (mmax 0) (mret 0) ∈ gtbl := tb_1 (List.mem_of_getElem? (i := 61) (by rfl)) rfl
set_option maxRecDepth 100000 in
theorem cw_1 : Cond.code (mname 1) (codeOf 1) (mmax 1) (mret 1) ∈ gtbl := tb_3 (List.mem_of_getElem? (i := 49) (by rfl)) rfl
set_option maxRecDepth 100000 in
theorem cw_2 : Cond.code (mname 2) (codeOf 2) (mmax 2) (mret 2) ∈ gtbl := tb_3 (List.mem_of_getElem? (i := 53) (by rfl)) rfl
set_option maxRecDepth 100000 in
theorem cw_3 : Cond.code (mname 3) (codeOf 3) (mmax 3) (mret 3) ∈ gtbl := tb_3 (List.mem_of_getElem? (i := 62) (by rfl)) rfl
set_option maxRecDepth 100000 in
theorem cw_4 : Cond.code (mname 4) (codeOf 4) (mmax 4) (mret 4) ∈ gtbl := tb_3 (List.mem_of_getElem? (i := 58) (by rfl)) rfl
set_option maxRecDepth 100000 in
theorem cw_5 : Cond.code (mname 5) (codeOf 5) (mmax 5) (mret 5) ∈ gtbl := tb_3 (List.mem_of_getElem? (i := 117) (by rfl)) rfl
set_option maxRecDepth 100000 in
theorem cw_6 : Cond.code (mname 6) (codeOf 6) (mmax 6) (mret 6) ∈ gtbl := tb_3 (List.mem_of_getElem? (i := 120) (by rfl)) rfl
set_option maxRecDepth 100000 in
theorem cw_7 : Cond.code (mname 7) (codeOf 7) (mmax 7) (mret 7) ∈ gtbl := tb_3 (List.mem_of_getElem? (i := 90) (by rfl)) rfl
set_option maxRecDepth 100000 in
theorem cw_8 : Cond.code (mname 8) (codeOf 8) (mmax 8) (mret 8) ∈ gtbl := tb_3 (List.mem_of_getElem? (i := 94) (by rfl)) rfl
set_option maxRecDepth 100000 in
theorem cw_9 : Cond.code (mname 9) (codeOf 9) (mmax 9) (mret 9) ∈ gtbl := tb_3 (List.mem_of_getElem? (i := 136) (by rfl)) rfl
set_option maxRecDepth 100000 in
theorem cw_10 : Cond.code (mname 10) (codeOf 10) (mmax 10) (mret 10) ∈ gtbl := tb_3 (List.mem_of_getElem? (i := 77) (by rfl)) rfl
set_option maxRecDepth 100000 in
theorem cw_11 : Cond.code (mname 11) (codeOf 11) (mmax 11) (mret 11) ∈ gtbl := tb_3 (List.mem_of_getElem? (i := 73) (by rfl)) rfl
set_option maxRecDepth 100000 in
theorem cw_12 : Cond.code (mname 12) (codeOf 12) (mmax 12) (mret 12) ∈ gtbl := tb_3 (List.mem_of_getElem? (i := 68) (by rfl)) rfl
set_option maxRecDepth 100000 in
theorem cw_13 : Cond.code (mname 13) (codeOf 13) (mmax 13) (mret 13) ∈ gtbl := tb_3 (List.mem_of_getElem? (i := 159) (by rfl)) rfl
set_option maxRecDepth 100000 in
theorem cw_14 : Cond.code (mname 14) (codeOf 14) (mmax 14) (mret 14) ∈ gtbl := tb_3 (List.mem_of_getElem? (i := 169) (by rfl)) rfl
set_option maxRecDepth 100000 in
theorem cw_15 : Cond.code (mname 15) (codeOf 15) (mmax 15) (mret 15) ∈ gtbl := tb_3 (List.mem_of_getElem? (i := 85) (by rfl)) rfl
set_option maxRecDepth 100000 in
theorem cw_16 : Cond.code (mname 16) (codeOf 16) (mmax 16) (mret 16) ∈ gtbl := tb_3 (List.mem_of_getElem? (i := 140) (by rfl)) rfl
set_option maxRecDepth 100000 in
theorem cw_17 : Cond.code (mname 17) (codeOf 17) (mmax 17) (mret 17) ∈ gtbl := tb_3 (List.mem_of_getElem? (i := 106) (by rfl)) rfl
set_option maxRecDepth 100000 in
theorem cw_18 : Cond.code (mname 18) (codeOf 18) (mmax 18) (mret 18) ∈ gtbl := tb_3 (List.mem_of_getElem? (i := 128) (by rfl)) rfl
set_option maxRecDepth 100000 in
theorem cw_19 : Cond.code (mname 19) (codeOf 19) (mmax 19) (mret 19) ∈ gtbl := tb_3 (List.mem_of_getElem? (i := 81) (by rfl)) rfl
set_option maxRecDepth 100000 in
theorem cw_20 : Cond.code (mname 20) (codeOf 20) (mmax 20) (mret 20) ∈ gtbl := tb_3 (List.mem_of_getElem? (i := 132) (by rfl)) rfl
set_option maxRecDepth 100000 in
theorem cw_21 : Cond.code (mname 21) (codeOf 21) (mmax 21) (mret 21) ∈ gtbl := tb_3 (List.mem_of_getElem? (i := 109) (by rfl)) rfl
set_option maxRecDepth 100000 in
theorem cw_22 : Cond.code (mname 22) (codeOf 22) (mmax 22) (mret 22) ∈ gtbl := tb_3 (List.mem_of_getElem? (i := 112) (by rfl)) rfl
set_option maxRecDepth 100000 in
theorem cw_23 : Cond.code (mname 23) (codeOf 23) (mmax 23) (mret 23) ∈ gtbl := tb_3 (List.mem_of_getElem? (i := 102) (by rfl)) rfl
set_option maxRecDepth 100000 in
theorem cw_24 : Cond.code (mname 24) (codeOf 24) (mmax 24) (mret 24) ∈ gtbl := tb_3 (List.mem_of_getElem? (i := 124) (by rfl)) rfl
set_option maxRecDepth 100000 in
theorem cw_25 : Cond.code (mname 25) (codeOf 25) (mmax 25) (mret 25) ∈ gtbl := tb_3 (List.mem_of_getElem? (i := 98) (by rfl)) rfl
set_option maxRecDepth 100000 in
theorem cw_26 : Cond.code (mname 26) (codeOf 26) (mmax 26) (mret 26) ∈ gtbl := tb_1 (List.mem_of_getElem? (i := 104) (by rfl)) rfl
set_option maxRecDepth 100000 in
theorem cw_27 : Cond.code (mname 27) (codeOf 27) (mmax 27) (mret 27) ∈ gtbl := tb_3 (List.mem_of_getElem? (i := 195) (by rfl)) rfl
set_option maxRecDepth 100000 in
theorem cw_28 : Cond.code (mname 28) (codeOf 28) (mmax 28) (mret 28) ∈ gtbl := tb_3 (List.mem_of_getElem? (i := 199) (by rfl)) rfl
set_option maxRecDepth 100000 in
theorem cw_29 : Cond.code (mname 29) (codeOf 29) (mmax 29) (mret 29) ∈ gtbl := tb_3 (List.mem_of_getElem? (i := 203) (by rfl)) rfl
set_option maxRecDepth 100000 in
theorem cw_30 : Cond.code (mname 30) (codeOf 30) (mmax 30) (mret 30) ∈ gtbl := tb_3 (List.mem_of_getElem? (i := 218) (by rfl)) rfl
set_option maxRecDepth 100000 in
theorem cw_31 : Cond.code (mname 31) (codeOf 31) (mmax 31) (mret 31) ∈ gtbl := tb_3 (List.mem_of_getElem? (i := 214) (by rfl)) rfl
set_option maxRecDepth 100000 in
theorem cw_32 : Cond.code (mname 32) (codeOf 32) (mmax 32) (mret 32) ∈ gtbl := tb_3 (List.mem_of_getElem? (i := 228) (by rfl)) rfl
set_option maxRecDepth 100000 in
theorem cw_33 : Cond.code (mname 33) (codeOf 33) (mmax 33) (mret 33) ∈ gtbl := tb_4 (List.mem_of_getElem? (i := 3) (by rfl)) rfl
set_option maxRecDepth 100000 in
theorem cw_34 : Cond.code (mname 34) (codeOf 34) (mmax 34) (mret 34) ∈ gtbl := tb_4 (List.mem_of_getElem? (i := 35) (by rfl)) rfl
set_option maxRecDepth 100000 in
theorem cw_35 : Cond.code (mname 35) (codeOf 35) (mmax 35) (mret 35) ∈ gtbl := tb_3 (List.mem_of_getElem? (i := 223) (by rfl)) rfl
set_option maxRecDepth 100000 in
theorem cw_36 : Cond.code (mname 36) (codeOf 36) (mmax 36) (mret 36) ∈ gtbl := tb_4 (List.mem_of_getElem? (i := 28) (by rfl)) rfl
set_option maxRecDepth 100000 in
theorem cw_37 : Cond.code (mname 37) (codeOf 37) (mmax 37) (mret 37) ∈ gtbl := tb_4 (List.mem_of_getElem? (i := 32) (by rfl)) rfl
set_option maxRecDepth 100000 in
theorem cw_38 : Cond.code (mname 38) (codeOf 38) (mmax 38) (mret 38) ∈ gtbl := tb_3 (List.mem_of_getElem? (i := 236) (by rfl)) rfl
set_option maxRecDepth 100000 in
theorem cw_39 : Cond.code (mname 39) (codeOf 39) (mmax 39) (mret 39) ∈ gtbl := tb_3 (List.mem_of_getElem? (i := 232) (by rfl)) rfl
set_option maxRecDepth 100000 in
theorem cw_40 : Cond.code (mname 40) (codeOf 40) (mmax 40) (mret 40) ∈ gtbl := tb_4 (List.mem_of_getElem? (i := 0) (by rfl)) rfl
set_option maxRecDepth 100000 in
theorem cw_41 : Cond.code (mname 41) (codeOf 41) (mmax 41) (mret 41) ∈ gtbl := tb_4 (List.mem_of_getElem? (i := 7) (by rfl)) rfl
set_option maxRecDepth 100000 in
theorem cw_42 : Cond.code (mname 42) (codeOf 42) (mmax 42) (mret 42) ∈ gtbl := tb_4 (List.mem_of_getElem? (i := 15) (by rfl)) rfl
set_option maxRecDepth 100000 in
theorem cw_43 : Cond.code (mname 43) (codeOf 43) (mmax 43) (mret 43) ∈ gtbl := tb_4 (List.mem_of_getElem? (i := 11) (by rfl)) rfl
set_option maxRecDepth 100000 in
theorem cw_44 : Cond.code (mname 44) (codeOf 44) (mmax 44) (mret 44) ∈ gtbl := tb_4 (List.mem_of_getElem? (i := 20) (by rfl)) rfl
set_option maxRecDepth 100000 in
theorem cw_45 : Cond.code (mname 45) (codeOf 45) (mmax 45) (mret 45) ∈ gtbl := tb_3 (List.mem_of_getElem? (i := 210) (by rfl)) rfl
set_option maxRecDepth 100000 in
theorem cw_46 : Cond.code (mname 46) (codeOf 46) (mmax 46) (mret 46) ∈ gtbl := tb_4 (List.mem_of_getElem? (i := 24) (by rfl)) rfl
set_option maxRecDepth 100000 in
theorem cw_47 : Cond.code (mname 47) (codeOf 47) (mmax 47) (mret 47) ∈ gtbl := tb_1 (List.mem_of_getElem? (i := 32) (by rfl)) rfl
set_option maxRecDepth 100000 in
theorem cw_48 : Cond.code (mname 48) (codeOf 48) (mmax 48) (mret 48) ∈ gtbl := tb_2 (List.mem_of_getElem? (i := 16) (by rfl)) rfl
set_option maxRecDepth 100000 in
theorem cw_49 : Cond.code (mname 49) (codeOf 49) (mmax 49) (mret 49) ∈ gtbl := tb_2 (List.mem_of_getElem? (i := 20) (by rfl)) rfl
set_option maxRecDepth 100000 in
theorem cw_50 : Cond.code (mname 50) (codeOf 50) (mmax 50) (mret 50) ∈ gtbl := tb_2 (List.mem_of_getElem? (i := 115) (by rfl)) rfl
set_option maxRecDepth 100000 in
theorem cw_51 : Cond.code (mname 51) (codeOf 51) (mmax 51) (mret 51) ∈ gtbl := tb_1 (List.mem_of_getElem? (i := 225) (by rfl)) rfl
set_option maxRecDepth 100000 in
theorem cw_52 : Cond.code (mname 52) (codeOf 52) (mmax 52) (mret 52) ∈ gtbl := tb_2 (List.mem_of_getElem? (i := 1) (by rfl)) rfl
set_option maxRecDepth 100000 in
theorem cw_53 : Cond.code (mname 53) (codeOf 53) (mmax 53) (mret 53) ∈ gtbl := tb_2 (List.mem_of_getElem? (i := 40) (by rfl)) rfl
set_option maxRecDepth 100000 in
theorem cw_54 : Cond.code (mname 54) (codeOf 54) (mmax 54) (mret 54) ∈ gtbl := tb_2 (List.mem_of_getElem? (i := 187) (by rfl)) rfl
set_option maxRecDepth 100000 in
theorem cw_55 : Cond.code (mname 55) (codeOf 55) (mmax 55) (mret 55) ∈ gtbl := tb_2 (List.mem_of_getElem? (i := 48) (by rfl)) rfl
set_option maxRecDepth 100000 in
theorem cw_56 : Cond.code (mname 56) (codeOf 56) (mmax 56) (mret 56) ∈ gtbl := tb_2 (List.mem_of_getElem? (i := 211) (by rfl)) rfl
set_option maxRecDepth 100000 in
theorem cw_57 : Cond.code (mname 57) (codeOf 57) (mmax 57) (mret 57) ∈ gtbl := tb_2 (List.mem_of_getElem? (i := 221) (by rfl)) rfl
set_option maxRecDepth 100000 in
theorem cw_58 : Cond.code (mname 58) (codeOf 58) (mmax 58) (mret 58) ∈ gtbl := tb_3 (List.mem_of_getElem? (i := 20) (by rfl)) rfl
set_option maxRecDepth 100000 in
theorem cw_59 : Cond.code (mname 59) (codeOf 59) (mmax 59) (mret 59) ∈ gtbl := tb_2 (List.mem_of_getElem? (i := 28) (by rfl)) rfl
set_option maxRecDepth 100000 in
theorem cw_60 : Cond.code (mname 60) (codeOf 60) (mmax 60) (mret 60) ∈ gtbl := tb_2 (List.mem_of_getElem? (i := 203) (by rfl)) rfl
set_option maxRecDepth 100000 in
theorem cw_61 : Cond.code (mname 61) (codeOf 61) (mmax 61) (mret 61) ∈ gtbl := tb_2 (List.mem_of_getElem? (i := 24) (by rfl)) rfl
set_option maxRecDepth 100000 in
theorem cw_62 : Cond.code (mname 62) (codeOf 62) (mmax 62) (mret 62) ∈ gtbl := tb_2 (List.mem_of_getElem? (i := 12) (by rfl)) rfl
set_option maxRecDepth 100000 in
theorem cw_63 : Cond.code (mname 63) (codeOf 63) (mmax 63) (mret 63) ∈ gtbl := tb_2 (List.mem_of_getElem? (i := 81) (by rfl)) rfl
set_option maxRecDepth 100000 in
theorem cw_64 : Cond.code (mname 64) (codeOf 64) (mmax 64) (mret 64) ∈ gtbl := tb_2 (List.mem_of_getElem? (i := 69) (by rfl)) rfl
set_option maxRecDepth 100000 in
theorem cw_65 : Cond.code (mname 65) (codeOf 65) (mmax 65) (mret 65) ∈ gtbl := tb_2 (List.mem_of_getElem? (i := 57) (by rfl)) rfl
set_option maxRecDepth 100000 in
theorem cw_66 : Cond.code (mname 66) (codeOf 66) (mmax 66) (mret 66) ∈ gtbl := tb_2 (List.mem_of_getElem? (i := 176) (by rfl)) rfl
set_option maxRecDepth 100000 in
theorem cw_67 : Cond.code (mname 67) (codeOf 67) (mmax 67) (mret 67) ∈ gtbl := tb_2 (List.mem_of_getElem? (i := 53) (by rfl)) rfl
set_option maxRecDepth 100000 in
theorem cw_68 : Cond.code (mname 68) (codeOf 68) (mmax 68) (mret 68) ∈ gtbl := tb_2 (List.mem_of_getElem? (i := 65) (by rfl)) rfl
set_option maxRecDepth 100000 in
theorem cw_69 : Cond.code (mname 69) (codeOf 69) (mmax 69) (mret 69) ∈ gtbl := tb_2 (List.mem_of_getElem? (i := 183) (by rfl)) rfl
set_option maxRecDepth 100000 in
theorem cw_70 : Cond.code (mname 70) (codeOf 70) (mmax 70) (mret 70) ∈ gtbl := tb_2 (List.mem_of_getElem? (i := 61) (by rfl)) rfl
set_option maxRecDepth 100000 in
theorem cw_71 : Cond.code (mname 71) (codeOf 71) (mmax 71) (mret 71) ∈ gtbl := tb_3 (List.mem_of_getElem? (i := 31) (by rfl)) rfl
set_option maxRecDepth 100000 in
theorem cw_72 : Cond.code (mname 72) (codeOf 72) (mmax 72) (mret 72) ∈ gtbl := tb_2 (List.mem_of_getElem? (i := 77) (by rfl)) rfl
set_option maxRecDepth 100000 in
theorem cw_73 : Cond.code (mname 73) (codeOf 73) (mmax 73) (mret 73) ∈ gtbl := tb_2 (List.mem_of_getElem? (i := 89) (by rfl)) rfl
set_option maxRecDepth 100000 in
theorem cw_74 : Cond.code (mname 74) (codeOf 74) (mmax 74) (mret 74) ∈ gtbl := tb_2 (List.mem_of_getElem? (i := 106) (by rfl)) rfl
set_option maxRecDepth 100000 in
theorem cw_75 : Cond.code (mname 75) (codeOf 75) (mmax 75) (mret 75) ∈ gtbl := tb_2 (List.mem_of_getElem? (i := 110) (by rfl)) rfl
set_option maxRecDepth 100000 in
theorem cw_76 : Cond.code (mname 76) (codeOf 76) (mmax 76) (mret 76) ∈ gtbl := tb_2 (List.mem_of_getElem? (i := 101) (by rfl)) rfl
set_option maxRecDepth 100000 in
theorem cw_77 : Cond.code (mname 77) (codeOf 77) (mmax 77) (mret 77) ∈ gtbl := tb_3 (List.mem_of_getElem? (i := 12) (by rfl)) rfl
set_option maxRecDepth 100000 in
theorem cw_78 : Cond.code (mname 78) (codeOf 78) (mmax 78) (mret 78) ∈ gtbl := tb_4 (List.mem_of_getElem? (i := 76) (by rfl)) rfl
set_option maxRecDepth 100000 in
theorem cw_79 : Cond.code (mname 79) (codeOf 79) (mmax 79) (mret 79) ∈ gtbl := tb_2 (List.mem_of_getElem? (i := 231) (by rfl)) rfl
set_option maxRecDepth 100000 in
theorem cw_80 : Cond.code (mname 80) (codeOf 80) (mmax 80) (mret 80) ∈ gtbl := tb_2 (List.mem_of_getElem? (i := 92) (by rfl)) rfl
set_option maxRecDepth 100000 in
theorem cw_81 : Cond.code (mname 81) (codeOf 81) (mmax 81) (mret 81) ∈ gtbl := tb_2 (List.mem_of_getElem? (i := 95) (by rfl)) rfl
set_option maxRecDepth 100000 in
theorem cw_82 : Cond.code (mname 82) (codeOf 82) (mmax 82) (mret 82) ∈ gtbl := tb_2 (List.mem_of_getElem? (i := 168) (by rfl)) rfl
set_option maxRecDepth 100000 in
theorem cw_83 : Cond.code (mname 83) (codeOf 83) (mmax 83) (mret 83) ∈ gtbl := tb_2 (List.mem_of_getElem? (i := 165) (by rfl)) rfl
set_option maxRecDepth 100000 in
theorem cw_84 : Cond.code (mname 84) (codeOf 84) (mmax 84) (mret 84) ∈ gtbl := tb_2 (List.mem_of_getElem? (i := 172) (by rfl)) rfl
set_option maxRecDepth 100000 in
theorem cw_85 : Cond.code (mname 85) (codeOf 85) (mmax 85) (mret 85) ∈ gtbl := tb_2 (List.mem_of_getElem? (i := 179) (by rfl)) rfl
set_option maxRecDepth 100000 in
theorem cw_86 : Cond.code (mname 86) (codeOf 86) (mmax 86) (mret 86) ∈ gtbl := tb_1 (List.mem_of_getElem? (i := 150) (by rfl)) rfl
set_option maxRecDepth 100000 in
theorem cw_87 : Cond.code (mname 87) (codeOf 87) (mmax 87) (mret 87) ∈ gtbl := tb_2 (List.mem_of_getElem? (i := 192) (by rfl)) rfl
set_option maxRecDepth 100000 in
theorem cw_88 : Cond.code (mname 88) (codeOf 88) (mmax 88) (mret 88) ∈ gtbl := tb_2 (List.mem_of_getElem? (i := 236) (by rfl)) rfl
set_option maxRecDepth 100000 in
theorem cw_89 : Cond.code (mname 89) (codeOf 89) (mmax 89) (mret 89) ∈ gtbl := tb_3 (List.mem_of_getElem? (i := 40) (by rfl)) rfl
set_option maxRecDepth 100000 in
theorem cw_90 : Cond.code (mname 90) (codeOf 90) (mmax 90) (mret 90) ∈ gtbl := tb_1 (List.mem_of_getElem? (i := 26) (by rfl)) rfl
set_option maxRecDepth 100000 in
theorem cw_91 : Cond.code (mname 91) (codeOf 91) (mmax 91) (mret 91) ∈ gtbl := tb_1 (List.mem_of_getElem? (i := 217) (by rfl)) rfl
set_option maxRecDepth 100000 in
theorem cw_92 : Cond.code (mname 92) (codeOf 92) (mmax 92) (mret 92) ∈ gtbl := tb_1 (List.mem_of_getElem? (i := 221) (by rfl)) rfl
set_option maxRecDepth 100000 in
theorem cw_93 : Cond.code (mname 93) (codeOf 93) (mmax 93) (mret 93) ∈ gtbl := tb_2 (List.mem_of_getElem? (i := 161) (by rfl)) rfl
set_option maxRecDepth 100000 in
theorem cw_94 : Cond.code (mname 94) (codeOf 94) (mmax 94) (mret 94) ∈ gtbl := tb_1 (List.mem_of_getElem? (i := 229) (by rfl)) rfl
set_option maxRecDepth 100000 in
theorem cw_95 : Cond.code (mname 95) (codeOf 95) (mmax 95) (mret 95) ∈ gtbl := tb_1 (List.mem_of_getElem? (i := 237) (by rfl)) rfl
set_option maxRecDepth 100000 in
theorem cw_96 : Cond.code (mname 96) (codeOf 96) (mmax 96) (mret 96) ∈ gtbl := tb_2 (List.mem_of_getElem? (i := 36) (by rfl)) rfl
set_option maxRecDepth 100000 in
theorem cw_97 : Cond.code (mname 97) (codeOf 97) (mmax 97) (mret 97) ∈ gtbl := tb_2 (List.mem_of_getElem? (i := 85) (by rfl)) rfl
set_option maxRecDepth 100000 in
theorem cw_98 : Cond.code (mname 98) (codeOf 98) (mmax 98) (mret 98) ∈ gtbl := tb_2 (List.mem_of_getElem? (i := 44) (by rfl)) rfl
set_option maxRecDepth 100000 in
theorem cw_99 : Cond.code (mname 99) (codeOf 99) (mmax 99) (mret 99) ∈ gtbl := tb_1 (List.mem_of_getElem? (i := 233) (by rfl)) rfl
set_option maxRecDepth 100000 in
theorem cw_100 : Cond.code (mname 100) (codeOf 100) (mmax 100) (mret 100) ∈ gtbl := tb_2 (List.mem_of_getElem? (i := 4) (by rfl)) rfl
set_option maxRecDepth 100000 in
theorem cw_101 : Cond.code (mname 101) (codeOf 101) (mmax 101) (mret 101) ∈ gtbl := tb_2 (List.mem_of_getElem? (i := 8) (by rfl)) rfl
set_option maxRecDepth 100000 in
theorem cw_102 : Cond.code (mname 102) (codeOf 102) (mmax 102) (mret 102) ∈ gtbl := tb_2 (List.mem_of_getElem? (i := 73) (by rfl)) rfl
set_option maxRecDepth 100000 in
theorem cw_103 : Cond.code (mname 103) (codeOf 103) (mmax 103) (mret 103) ∈ gtbl := tb_2 (List.mem_of_getElem? (i := 32) (by rfl)) rfl
set_option maxRecDepth 100000 in
theorem cw_104 : Cond.code (mname 104) (codeOf 104) (mmax 104) (mret 104) ∈ gtbl := tb_1 (List.mem_of_getElem? (i := 18) (by rfl)) rfl
set_option maxRecDepth 100000 in
theorem cw_105 : Cond.code (mname 105) (codeOf 105) (mmax 105) (mret 105) ∈ gtbl := tb_2 (List.mem_of_getElem? (i := 145) (by rfl)) rfl
set_option maxRecDepth 100000 in
theorem cw_106 : Cond.code (mname 106) (codeOf 106) (mmax 106) (mret 106) ∈ gtbl := tb_2 (List.mem_of_getElem? (i := 149) (by rfl)) rfl
set_option maxRecDepth 100000 in
theorem cw_107 : Cond.code (mname 107) (codeOf 107) (mmax 107) (mret 107) ∈ gtbl := tb_2 (List.mem_of_getElem? (i := 153) (by rfl)) rfl
set_option maxRecDepth 100000 in
theorem cw_108 : Cond.code (mname 108) (codeOf 108) (mmax 108) (mret 108) ∈ gtbl := tb_2 (List.mem_of_getElem? (i := 157) (by rfl)) rfl
set_option maxRecDepth 100000 in
theorem cw_109 : Cond.code (mname 109) (codeOf 109) (mmax 109) (mret 109) ∈ gtbl := tb_2 (List.mem_of_getElem? (i := 197) (by rfl)) rfl
set_option maxRecDepth 100000 in
theorem cw_110 : Cond.code (mname 110) (codeOf 110) (mmax 110) (mret 110) ∈ gtbl := tb_2 (List.mem_of_getElem? (i := 207) (by rfl)) rfl
set_option maxRecDepth 100000 in
theorem cw_111 : Cond.code (mname 111) (codeOf 111) (mmax 111) (mret 111) ∈ gtbl := tb_2 (List.mem_of_getElem? (i := 217) (by rfl)) rfl
set_option maxRecDepth 100000 in
theorem cw_112 : Cond.code (mname 112) (codeOf 112) (mmax 112) (mret 112) ∈ gtbl := tb_2 (List.mem_of_getElem? (i := 227) (by rfl)) rfl
set_option maxRecDepth 100000 in
theorem cw_113 : Cond.code (mname 113) (codeOf 113) (mmax 113) (mret 113) ∈ gtbl := tb_3 (List.mem_of_getElem? (i := 2) (by rfl)) rfl
set_option maxRecDepth 100000 in
theorem cw_114 : Cond.code (mname 114) (codeOf 114) (mmax 114) (mret 114) ∈ gtbl := tb_3 (List.mem_of_getElem? (i := 8) (by rfl)) rfl
set_option maxRecDepth 100000 in
theorem cw_115 : Cond.code (mname 115) (codeOf 115) (mmax 115) (mret 115) ∈ gtbl := tb_3 (List.mem_of_getElem? (i := 16) (by rfl)) rfl
set_option maxRecDepth 100000 in
theorem cw_116 : Cond.code (mname 116) (codeOf 116) (mmax 116) (mret 116) ∈ gtbl := tb_3 (List.mem_of_getElem? (i := 27) (by rfl)) rfl
set_option maxRecDepth 100000 in
theorem cw_117 : Cond.code (mname 117) (codeOf 117) (mmax 117) (mret 117) ∈ gtbl := tb_3 (List.mem_of_getElem? (i := 36) (by rfl)) rfl
set_option maxRecDepth 100000 in
theorem cw_118 : Cond.code (mname 118) (codeOf 118) (mmax 118) (mret 118) ∈ gtbl := tb_3 (List.mem_of_getElem? (i := 45) (by rfl)) rfl
set_option maxRecDepth 100000 in
theorem cw_119 : Cond.code (mname 119) (codeOf 119) (mmax 119) (mret 119) ∈ gtbl := tb_3 (List.mem_of_getElem? (i := 144) (by rfl)) rfl
set_option maxRecDepth 100000 in
theorem cw_120 : Cond.code (mname 120) (codeOf 120) (mmax 120) (mret 120) ∈ gtbl := tb_3 (List.mem_of_getElem? (i := 148) (by rfl)) rfl
set_option maxRecDepth 100000 in
theorem cw_121 : Cond.code (mname 121) (codeOf 121) (mmax 121) (mret 121) ∈ gtbl := tb_3 (List.mem_of_getElem? (i := 155) (by rfl)) rfl
set_option maxRecDepth 100000 in
theorem cw_122 : Cond.code (mname 122) (codeOf 122) (mmax 122) (mret 122) ∈ gtbl := tb_3 (List.mem_of_getElem? (i := 165) (by rfl)) rfl
set_option maxRecDepth 100000 in
theorem cw_123 : Cond.code (mname 123) (codeOf 123) (mmax 123) (mret 123) ∈ gtbl := tb_3 (List.mem_of_getElem? (i := 173) (by rfl)) rfl
set_option maxRecDepth 100000 in
theorem cw_124 : Cond.code (mname 124) (codeOf 124) (mmax 124) (mret 124) ∈ gtbl := tb_3 (List.mem_of_getElem? (i := 178) (by rfl)) rfl
set_option maxRecDepth 100000 in
theorem cw_125 : Cond.code (mname 125) (codeOf 125) (mmax 125) (mret 125) ∈ gtbl := tb_3 (List.mem_of_getElem? (i := 183) (by rfl)) rfl
set_option maxRecDepth 100000 in
theorem cw_126 : Cond.code (mname 126) (codeOf 126) (mmax 126) (mret 126) ∈ gtbl := tb_3 (List.mem_of_getElem? (i := 187) (by rfl)) rfl
set_option maxRecDepth 100000 in
theorem cw_127 : Cond.code (mname 127) (codeOf 127) (mmax 127) (mret 127) ∈ gtbl := tb_3 (List.mem_of_getElem? (i := 191) (by rfl)) rfl
set_option maxRecDepth 100000 in
theorem cw_128 : Cond.code (mname 128) (codeOf 128) (mmax 128) (mret 128) ∈ gtbl := tb_4 (List.mem_of_getElem? (i := 41) (by rfl)) rfl
set_option maxRecDepth 100000 in
theorem cw_129 : Cond.code (mname 129) (codeOf 129) (mmax 129) (mret 129) ∈ gtbl := tb_4 (List.mem_of_getElem? (i := 44) (by rfl)) rfl
set_option maxRecDepth 100000 in
theorem cw_130 : Cond.code (mname 130) (codeOf 130) (mmax 130) (mret 130) ∈ gtbl := tb_4 (List.mem_of_getElem? (i := 51) (by rfl)) rfl
set_option maxRecDepth 100000 in
theorem cw_131 : Cond.code (mname 131) (codeOf 131) (mmax 131) (mret 131) ∈ gtbl := tb_4 (List.mem_of_getElem? (i := 63) (by rfl)) rfl
set_option maxRecDepth 100000 in
theorem cw_132 : Cond.code (mname 132) (codeOf 132) (mmax 132) (mret 132) ∈ gtbl := tb_4 (List.mem_of_getElem? (i := 67) (by rfl)) rfl
set_option maxRecDepth 100000 in
theorem cw_133 : Cond.code (mname 133) (codeOf 133) (mmax 133) (mret 133) ∈ gtbl := tb_4 (List.mem_of_getElem? (i := 71) (by rfl)) rfl
set_option maxRecDepth 100000 in
theorem cw_134 : Cond.code (mname 134) (codeOf 134) (mmax 134) (mret 134) ∈ gtbl := tb_4 (List.mem_of_getElem? (i := 81) (by rfl)) rfl
set_option maxRecDepth 100000 in
theorem cw_135 : Cond.code (mname 135) (codeOf 135) (mmax 135) (mret 135) ∈ gtbl := tb_4 (List.mem_of_getElem? (i := 223) (by rfl)) rfl
set_option maxRecDepth 100000 in
theorem cw_136 : Cond.code (mname 136) (codeOf 136) (mmax 136) (mret 136) ∈ gtbl := tb_5 (List.mem_of_getElem? (i := 163) (by rfl)) rfl
set_option maxRecDepth 100000 in
theorem cw_137 : Cond.code (mname 137) (codeOf 137) (mmax 137) (mret 137) ∈ gtbl := tb_6 (List.mem_of_getElem? (i := 61) (by rfl)) rfl
set_option maxRecDepth 100000 in
theorem cw_138 : Cond.code (mname 138) (codeOf 138) (mmax 138) (mret 138) ∈ gtbl := tb_4 (List.mem_of_getElem? (i := 86) (by rfl)) rfl
set_option maxRecDepth 100000 in
theorem cw_139 : Cond.code (mname 139) (codeOf 139) (mmax 139) (mret 139) ∈ gtbl := tb_4 (List.mem_of_getElem? (i := 90) (by rfl)) rfl
set_option maxRecDepth 100000 in
theorem cw_140 : Cond.code (mname 140) (codeOf 140) (mmax 140) (mret 140) ∈ gtbl := tb_4 (List.mem_of_getElem? (i := 94) (by rfl)) rfl
set_option maxRecDepth 100000 in
theorem cw_141 : Cond.code (mname 141) (codeOf 141) (mmax 141) (mret 141) ∈ gtbl := tb_4 (List.mem_of_getElem? (i := 98) (by rfl)) rfl
set_option maxRecDepth 100000 in
theorem cw_142 : Cond.code (mname 142) (codeOf 142) (mmax 142) (mret 142) ∈ gtbl := tb_4 (List.mem_of_getElem? (i := 102) (by rfl)) rfl
set_option maxRecDepth 100000 in
theorem cw_143 : Cond.code (mname 143) (codeOf 143) (mmax 143) (mret 143) ∈ gtbl := tb_4 (List.mem_of_getElem? (i := 218) (by rfl)) rfl
set_option maxRecDepth 100000 in
theorem cw_144 : Cond.code (mname 144) (codeOf 144) (mmax 144) (mret 144) ∈ gtbl := tb_4 (List.mem_of_getElem? (i := 227) (by rfl)) rfl
set_option maxRecDepth 100000 in
theorem cw_145 : Cond.code (mname 145) (codeOf 145) (mmax 145) (mret 145) ∈ gtbl := tb_4 (List.mem_of_getElem? (i := 239) (by rfl)) rfl
set_option maxRecDepth 100000 in
theorem cw_146 : Cond.code (mname 146) (codeOf 146) (mmax 146) (mret 146) ∈ gtbl := tb_5 (List.mem_of_getElem? (i := 27) (by rfl)) rfl
set_option maxRecDepth 100000 in
theorem cw_147 : Cond.code (mname 147) (codeOf 147) (mmax 147) (mret 147) ∈ gtbl := tb_5 (List.mem_of_getElem? (i := 23) (by rfl)) rfl
set_option maxRecDepth 100000 in
theorem cw_148 : Cond.code (mname 148) (codeOf 148) (mmax 148) (mret 148) ∈ gtbl := tb_5 (List.mem_of_getElem? (i := 7) (by rfl)) rfl
set_option maxRecDepth 100000 in
theorem cw_149 : Cond.code (mname 149) (codeOf 149) (mmax 149) (mret 149) ∈ gtbl := tb_5 (List.mem_of_getElem? (i := 17) (by rfl)) rfl
set_option maxRecDepth 100000 in
theorem cw_150 : Cond.code (mname 150) (codeOf 150) (mmax 150) (mret 150) ∈ gtbl := tb_5 (List.mem_of_getElem? (i := 3) (by rfl)) rfl
set_option maxRecDepth 100000 in
theorem cw_151 : Cond.code (mname 151) (codeOf 151) (mmax 151) (mret 151) ∈ gtbl := tb_5 (List.mem_of_getElem? (i := 13) (by rfl)) rfl
set_option maxRecDepth 100000 in
theorem cw_152 : Cond.code (mname 152) (codeOf 152) (mmax 152) (mret 152) ∈ gtbl := tb_5 (List.mem_of_getElem? (i := 31) (by rfl)) rfl
set_option maxRecDepth 100000 in
theorem cw_153 : Cond.code (mname 153) (codeOf 153) (mmax 153) (mret 153) ∈ gtbl := tb_5 (List.mem_of_getElem? (i := 38) (by rfl)) rfl
set_option maxRecDepth 100000 in
theorem cw_154 : Cond.code (mname 154) (codeOf 154) (mmax 154) (mret 154) ∈ gtbl := tb_5 (List.mem_of_getElem? (i := 34) (by rfl)) rfl
set_option maxRecDepth 100000 in
theorem cw_155 : Cond.code (mname 155) (codeOf 155) (mmax 155) (mret 155) ∈ gtbl := tb_4 (List.mem_of_getElem? (i := 235) (by rfl)) rfl
set_option maxRecDepth 100000 in
theorem cw_156 : Cond.code (mname 156) (codeOf 156) (mmax 156) (mret 156) ∈ gtbl := tb_4 (List.mem_of_getElem? (i := 231) (by rfl)) rfl
set_option maxRecDepth 100000 in
theorem cw_157 : Cond.code (mname 157) (codeOf 157) (mmax 157) (mret 157) ∈ gtbl := tb_5 (List.mem_of_getElem? (i := 42) (by rfl)) rfl
set_option maxRecDepth 100000 in
theorem cw_158 : Cond.code (mname 158) (codeOf 158) (mmax 158) (mret 158) ∈ gtbl := tb_5 (List.mem_of_getElem? (i := 55) (by rfl)) rfl
set_option maxRecDepth 100000 in
theorem cw_159 : Cond.code (mname 159) (codeOf 159) (mmax 159) (mret 159) ∈ gtbl := tb_5 (List.mem_of_getElem? (i := 73) (by rfl)) rfl
set_option maxRecDepth 100000 in
theorem cw_160 : Cond.code (mname 160) (codeOf 160) (mmax 160) (mret 160) ∈ gtbl := tb_5 (List.mem_of_getElem? (i := 61) (by rfl)) rfl
set_option maxRecDepth 100000 in
theorem cw_161 : Cond.code (mname 161) (codeOf 161) (mmax 161) (mret 161) ∈ gtbl := tb_5 (List.mem_of_getElem? (i := 69) (by rfl)) rfl
set_option maxRecDepth 100000 in
theorem cw_162 : Cond.code (mname 162) (codeOf 162) (mmax 162) (mret 162) ∈ gtbl := tb_5 (List.mem_of_getElem? (i := 105) (by rfl)) rfl
set_option maxRecDepth 100000 in
theorem cw_163 : Cond.code (mname 163) (codeOf 163) (mmax 163) (mret 163) ∈ gtbl := tb_5 (List.mem_of_getElem? (i := 46) (by rfl)) rfl
set_option maxRecDepth 100000 in
theorem cw_164 : Cond.code (mname 164) (codeOf 164) (mmax 164) (mret 164) ∈ gtbl := tb_5 (List.mem_of_getElem? (i := 51) (by rfl)) rfl
set_option maxRecDepth 100000 in
theorem cw_165 : Cond.code (mname 165) (codeOf 165) (mmax 165) (mret 165) ∈ gtbl := tb_5 (List.mem_of_getElem? (i := 65) (by rfl)) rfl
set_option maxRecDepth 100000 in
theorem cw_166 : Cond.code (mname 166) (codeOf 166) (mmax 166) (mret 166) ∈ gtbl := tb_5 (List.mem_of_getElem? (i := 85) (by rfl)) rfl
set_option maxRecDepth 100000 in
theorem cw_167 : Cond.code (mname 167) (codeOf 167) (mmax 167) (mret 167) ∈ gtbl := tb_5 (List.mem_of_getElem? (i := 81) (by rfl)) rfl
set_option maxRecDepth 100000 in
theorem cw_168 : Cond.code (mname 168) (codeOf 168) (mmax 168) (mret 168) ∈ gtbl := tb_5 (List.mem_of_getElem? (i := 89) (by rfl)) rfl
set_option maxRecDepth 100000 in
theorem cw_169 : Cond.code (mname 169) (codeOf 169) (mmax 169) (mret 169) ∈ gtbl := tb_5 (List.mem_of_getElem? (i := 77) (by rfl)) rfl
set_option maxRecDepth 100000 in
theorem cw_170 : Cond.code (mname 170) (codeOf 170) (mmax 170) (mret 170) ∈ gtbl := tb_5 (List.mem_of_getElem? (i := 93) (by rfl)) rfl
set_option maxRecDepth 100000 in
theorem cw_171 : Cond.code (mname 171) (codeOf 171) (mmax 171) (mret 171) ∈ gtbl := tb_5 (List.mem_of_getElem? (i := 97) (by rfl)) rfl
set_option maxRecDepth 100000 in
theorem cw_172 : Cond.code (mname 172) (codeOf 172) (mmax 172) (mret 172) ∈ gtbl := tb_5 (List.mem_of_getElem? (i := 101) (by rfl)) rfl
set_option maxRecDepth 100000 in
theorem cw_173 : Cond.code (mname 173) (codeOf 173) (mmax 173) (mret 173) ∈ gtbl := tb_5 (List.mem_of_getElem? (i := 110) (by rfl)) rfl
set_option maxRecDepth 100000 in
theorem cw_174 : Cond.code (mname 174) (codeOf 174) (mmax 174) (mret 174) ∈ gtbl := tb_5 (List.mem_of_getElem? (i := 114) (by rfl)) rfl
set_option maxRecDepth 100000 in
theorem cw_175 : Cond.code (mname 175) (codeOf 175) (mmax 175) (mret 175) ∈ gtbl := tb_5 (List.mem_of_getElem? (i := 152) (by rfl)) rfl
set_option maxRecDepth 100000 in
theorem cw_176 : Cond.code (mname 176) (codeOf 176) (mmax 176) (mret 176) ∈ gtbl := tb_5 (List.mem_of_getElem? (i := 148) (by rfl)) rfl
set_option maxRecDepth 100000 in
theorem cw_177 : Cond.code (mname 177) (codeOf 177) (mmax 177) (mret 177) ∈ gtbl := tb_5 (List.mem_of_getElem? (i := 126) (by rfl)) rfl
set_option maxRecDepth 100000 in
theorem cw_178 : Cond.code (mname 178) (codeOf 178) (mmax 178) (mret 178) ∈ gtbl := tb_5 (List.mem_of_getElem? (i := 179) (by rfl)) rfl
set_option maxRecDepth 100000 in
theorem cw_179 : Cond.code (mname 179) (codeOf 179) (mmax 179) (mret 179) ∈ gtbl := tb_5 (List.mem_of_getElem? (i := 183) (by rfl)) rfl
set_option maxRecDepth 100000 in
theorem cw_180 : Cond.code (mname 180) (codeOf 180) (mmax 180) (mret 180) ∈ gtbl := tb_5 (List.mem_of_getElem? (i := 175) (by rfl)) rfl
set_option maxRecDepth 100000 in
theorem cw_181 : Cond.code (mname 181) (codeOf 181) (mmax 181) (mret 181) ∈ gtbl := tb_5 (List.mem_of_getElem? (i := 141) (by rfl)) rfl
set_option maxRecDepth 100000 in
theorem cw_182 : Cond.code (mname 182) (codeOf 182) (mmax 182) (mret 182) ∈ gtbl := tb_5 (List.mem_of_getElem? (i := 144) (by rfl)) rfl
set_option maxRecDepth 100000 in
theorem cw_183 : Cond.code (mname 183) (codeOf 183) (mmax 183) (mret 183) ∈ gtbl := tb_5 (List.mem_of_getElem? (i := 156) (by rfl)) rfl
set_option maxRecDepth 100000 in
theorem cw_184 : Cond.code (mname 184) (codeOf 184) (mmax 184) (mret 184) ∈ gtbl := tb_5 (List.mem_of_getElem? (i := 138) (by rfl)) rfl
set_option maxRecDepth 100000 in
theorem cw_185 : Cond.code (mname 185) (codeOf 185) (mmax 185) (mret 185) ∈ gtbl := tb_5 (List.mem_of_getElem? (i := 160) (by rfl)) rfl
set_option maxRecDepth 100000 in
theorem cw_186 : Cond.code (mname 186) (codeOf 186) (mmax 186) (mret 186) ∈ gtbl := tb_5 (List.mem_of_getElem? (i := 167) (by rfl)) rfl
set_option maxRecDepth 100000 in
theorem cw_187 : Cond.code (mname 187) (codeOf 187) (mmax 187) (mret 187) ∈ gtbl := tb_5 (List.mem_of_getElem? (i := 171) (by rfl)) rfl
set_option maxRecDepth 100000 in
theorem cw_188 : Cond.code (mname 188) (codeOf 188) (mmax 188) (mret 188) ∈ gtbl := tb_5 (List.mem_of_getElem? (i := 134) (by rfl)) rfl
set_option maxRecDepth 100000 in
theorem cw_189 : Cond.code (mname 189) (codeOf 189) (mmax 189) (mret 189) ∈ gtbl := tb_5 (List.mem_of_getElem? (i := 130) (by rfl)) rfl
set_option maxRecDepth 100000 in
theorem cw_190 : Cond.code (mname 190) (codeOf 190) (mmax 190) (mret 190) ∈ gtbl := tb_5 (List.mem_of_getElem? (i := 186) (by rfl)) rfl
set_option maxRecDepth 100000 in
theorem cw_191 : Cond.code (mname 191) (codeOf 191) (mmax 191) (mret 191) ∈ gtbl := tb_5 (List.mem_of_getElem? (i := 122) (by rfl)) rfl
set_option maxRecDepth 100000 in
theorem cw_192 : Cond.code (mname 192) (codeOf 192) (mmax 192) (mret 192) ∈ gtbl := tb_5 (List.mem_of_getElem? (i := 207) (by rfl)) rfl
set_option maxRecDepth 100000 in
theorem cw_193 : Cond.code (mname 193) (codeOf 193) (mmax 193) (mret 193) ∈ gtbl := tb_5 (List.mem_of_getElem? (i := 118) (by rfl)) rfl
set_option maxRecDepth 100000 in
theorem cw_194 : Cond.code (mname 194) (codeOf 194) (mmax 194) (mret 194) ∈ gtbl := tb_5 (List.mem_of_getElem? (i := 190) (by rfl)) rfl
set_option maxRecDepth 100000 in
theorem cw_195 : Cond.code (mname 195) (codeOf 195) (mmax 195) (mret 195) ∈ gtbl := tb_5 (List.mem_of_getElem? (i := 194) (by rfl)) rfl
set_option maxRecDepth 100000 in
theorem cw_196 : Cond.code (mname 196) (codeOf 196) (mmax 196) (mret 196) ∈ gtbl := tb_5 (List.mem_of_getElem? (i := 203) (by rfl)) rfl
set_option maxRecDepth 100000 in
theorem cw_197 : Cond.code (mname 197) (codeOf 197) (mmax 197) (mret 197) ∈ gtbl := tb_5 (List.mem_of_getElem? (i := 199) (by rfl)) rfl
set_option maxRecDepth 100000 in
theorem cw_198 : Cond.code (mname 198) (codeOf 198) (mmax 198) (mret 198) ∈ gtbl := tb_5 (List.mem_of_getElem? (i := 211) (by rfl)) rfl
set_option maxRecDepth 100000 in
theorem cw_199 : Cond.code (mname 199) (codeOf 199) (mmax 199) (mret 199) ∈ gtbl := tb_5 (List.mem_of_getElem? (i := 215) (by rfl)) rfl
set_option maxRecDepth 100000 in
theorem cw_200 : Cond.code (mname 200) (codeOf 200) (mmax 200) (mret 200) ∈ gtbl := tb_5 (List.mem_of_getElem? (i := 219) (by rfl)) rfl
set_option maxRecDepth 100000 in
theorem cw_201 : Cond.code (mname 201) (codeOf 201) (mmax 201) (mret 201) ∈ gtbl := tb_5 (List.mem_of_getElem? (i := 223) (by rfl)) rfl
set_option maxRecDepth 100000 in
theorem cw_202 : Cond.code (mname 202) (codeOf 202) (mmax 202) (mret 202) ∈ gtbl := tb_5 (List.mem_of_getElem? (i := 237) (by rfl)) rfl
set_option maxRecDepth 100000 in
theorem cw_203 : Cond.code (mname 203) (codeOf 203) (mmax 203) (mret 203) ∈ gtbl := tb_5 (List.mem_of_getElem? (i := 234) (by rfl)) rfl
set_option maxRecDepth 100000 in
theorem cw_204 : Cond.code (mname 204) (codeOf 204) (mmax 204) (mret 204) ∈ gtbl := tb_6 (List.mem_of_getElem? (i := 12) (by rfl)) rfl
set_option maxRecDepth 100000 in
theorem cw_205 : Cond.code (mname 205) (codeOf 205) (mmax 205) (mret 205) ∈ gtbl := tb_6 (List.mem_of_getElem? (i := 23) (by rfl)) rfl
set_option maxRecDepth 100000 in
theorem cw_206 : Cond.code (mname 206) (codeOf 206) (mmax 206) (mret 206) ∈ gtbl := tb_6 (List.mem_of_getElem? (i := 41) (by rfl)) rfl
set_option maxRecDepth 100000 in
theorem cw_207 : Cond.code (mname 207) (codeOf 207) (mmax 207) (mret 207) ∈ gtbl := tb_6 (List.mem_of_getElem? (i := 5) (by rfl)) rfl
set_option maxRecDepth 100000 in
theorem cw_208 : Cond.code (mname 208) (codeOf 208) (mmax 208) (mret 208) ∈ gtbl := tb_6 (List.mem_of_getElem? (i := 16) (by rfl)) rfl
set_option maxRecDepth 100000 in
theorem cw_209 : Cond.code (mname 209) (codeOf 209) (mmax 209) (mret 209) ∈ gtbl := tb_6 (List.mem_of_getElem? (i := 20) (by rfl)) rfl
set_option maxRecDepth 100000 in
theorem cw_210 : Cond.code (mname 210) (codeOf 210) (mmax 210) (mret 210) ∈ gtbl := tb_6 (List.mem_of_getElem? (i := 29) (by rfl)) rfl
set_option maxRecDepth 100000 in
theorem cw_211 : Cond.code (mname 211) (codeOf 211) (mmax 211) (mret 211) ∈ gtbl := tb_6 (List.mem_of_getElem? (i := 33) (by rfl)) rfl
set_option maxRecDepth 100000 in
theorem cw_212 : Cond.code (mname 212) (codeOf 212) (mmax 212) (mret 212) ∈ gtbl := tb_6 (List.mem_of_getElem? (i := 37) (by rfl)) rfl
set_option maxRecDepth 100000 in
theorem cw_213 : Cond.code (mname 213) (codeOf 213) (mmax 213) (mret 213) ∈ gtbl := tb_6 (List.mem_of_getElem? (i := 9) (by rfl)) rfl
set_option maxRecDepth 100000 in
theorem cw_214 : Cond.code (mname 214) (codeOf 214) (mmax 214) (mret 214) ∈ gtbl := tb_6 (List.mem_of_getElem? (i := 45) (by rfl)) rfl
set_option maxRecDepth 100000 in
theorem cw_215 : Cond.code (mname 215) (codeOf 215) (mmax 215) (mret 215) ∈ gtbl := tb_6 (List.mem_of_getElem? (i := 49) (by rfl)) rfl
set_option maxRecDepth 100000 in
theorem cw_216 : Cond.code (mname 216) (codeOf 216) (mmax 216) (mret 216) ∈ gtbl := tb_6 (List.mem_of_getElem? (i := 1) (by rfl)) rfl
set_option maxRecDepth 100000 in
theorem cw_217 : Cond.code (mname 217) (codeOf 217) (mmax 217) (mret 217) ∈ gtbl := tb_5 (List.mem_of_getElem? (i := 227) (by rfl)) rfl
set_option maxRecDepth 100000 in
theorem cw_218 : Cond.code (mname 218) (codeOf 218) (mmax 218) (mret 218) ∈ gtbl := tb_6 (List.mem_of_getElem? (i := 53) (by rfl)) rfl
set_option maxRecDepth 100000 in
theorem cw_219 : Cond.code (mname 219) (codeOf 219) (mmax 219) (mret 219) ∈ gtbl := tb_6 (List.mem_of_getElem? (i := 65) (by rfl)) rfl
set_option maxRecDepth 100000 in
theorem cw_220 : Cond.code (mname 220) (codeOf 220) (mmax 220) (mret 220) ∈ gtbl := tb_6 (List.mem_of_getElem? (i := 69) (by rfl)) rfl
set_option maxRecDepth 100000 in
theorem cw_221 : Cond.code (mname 221) (codeOf 221) (mmax 221) (mret 221) ∈ gtbl := tb_6 (List.mem_of_getElem? (i := 73) (by rfl)) rfl
set_option maxRecDepth 100000 in
theorem cw_222 : Cond.code (mname 222) (codeOf 222) (mmax 222) (mret 222) ∈ gtbl := tb_4 (List.mem_of_getElem? (i := 56) (by rfl)) rfl
set_option maxRecDepth 100000 in
theorem codeW : ∀ t, t < 223 → Cond.code (mname t) (codeOf t) (mmax t) (mret t) ∈ gtbl
  | 0, _ => cw_0
  | 1, _ => cw_1
  | 2, _ => cw_2
  | 3, _ => cw_3
  | 4, _ => cw_4
  | 5, _ => cw_5
  | 6, _ => cw_6
  | 7, _ => cw_7
  | 8, _ => cw_8
  | 9, _ => cw_9
  | 10, _ => cw_10
  | 11, _ => cw_11
  | 12, _ => cw_12
  | 13, _ => cw_13
  | 14, _ => cw_14
  | 15, _ => cw_15
  | 16, _ => cw_16
  | 17, _ => cw_17
  | 18, _ => cw_18
  | 19, _ => cw_19
  | 20, _ => cw_20
  | 21, _ => cw_21
  | 22, _ => cw_22
  | 23, _ => cw_23
  | 24, _ => cw_24
  | 25, _ => cw_25
  | 26, _ => cw_26
  | 27, _ => cw_27
  | 28, _ => cw_28
  | 29, _ => cw_29
  | 30, _ => cw_30
  | 31, _ => cw_31
  | 32, _ => cw_32
  | 33, _ => cw_33
  | 34, _ => cw_34
  | 35, _ => cw_35
  | 36, _ => cw_36
  | 37, _ => cw_37
  | 38, _ => cw_38
  | 39, _ => cw_39
  | 40, _ => cw_40
  | 41, _ => cw_41
  | 42, _ => cw_42
  | 43, _ => cw_43
  | 44, _ => cw_44
  | 45, _ => cw_45
  | 46, _ => cw_46
  | 47, _ => cw_47
  | 48, _ => cw_48
  | 49, _ => cw_49
  | 50, _ => cw_50
  | 51, _ => cw_51
  | 52, _ => cw_52
  | 53, _ => cw_53
  | 54, _ => cw_54
  | 55, _ => cw_55
  | 56, _ => cw_56
  | 57, _ => cw_57
  | 58, _ => cw_58
  | 59, _ => cw_59
  | 60, _ => cw_60
  | 61, _ => cw_61
  | 62, _ => cw_62
  | 63, _ => cw_63
  | 64, _ => cw_64
  | 65, _ => cw_65
  | 66, _ => cw_66
  | 67, _ => cw_67
  | 68, _ => cw_68
  | 69, _ => cw_69
  | 70, _ => cw_70
  | 71, _ => cw_71
  | 72, _ => cw_72
  | 73, _ => cw_73
  | 74, _ => cw_74
  | 75, _ => cw_75
  | 76, _ => cw_76
  | 77, _ => cw_77
  | 78, _ => cw_78
  | 79, _ => cw_79
  | 80, _ => cw_80
  | 81, _ => cw_81
  | 82, _ => cw_82
  | 83, _ => cw_83
  | 84, _ => cw_84
  | 85, _ => cw_85
  | 86, _ => cw_86
  | 87, _ => cw_87
  | 88, _ => cw_88
  | 89, _ => cw_89
  | 90, _ => cw_90
  | 91, _ => cw_91
  | 92, _ => cw_92
  | 93, _ => cw_93
  | 94, _ => cw_94
  | 95, _ => cw_95
  | 96, _ => cw_96
  | 97, _ => cw_97
  | 98, _ => cw_98
  | 99, _ => cw_99
  | 100, _ => cw_100
  | 101, _ => cw_101
  | 102, _ => cw_102
  | 103, _ => cw_103
  | 104, _ => cw_104
  | 105, _ => cw_105
  | 106, _ => cw_106
  | 107, _ => cw_107
  | 108, _ => cw_108
  | 109, _ => cw_109
  | 110, _ => cw_110
  | 111, _ => cw_111
  | 112, _ => cw_112
  | 113, _ => cw_113
  | 114, _ => cw_114
  | 115, _ => cw_115
  | 116, _ => cw_116
  | 117, _ => cw_117
  | 118, _ => cw_118
  | 119, _ => cw_119
  | 120, _ => cw_120
  | 121, _ => cw_121
  | 122, _ => cw_122
  | 123, _ => cw_123
  | 124, _ => cw_124
  | 125, _ => cw_125
  | 126, _ => cw_126
  | 127, _ => cw_127
  | 128, _ => cw_128
  | 129, _ => cw_129
  | 130, _ => cw_130
  | 131, _ => cw_131
  | 132, _ => cw_132
  | 133, _ => cw_133
  | 134, _ => cw_134
  | 135, _ => cw_135
  | 136, _ => cw_136
  | 137, _ => cw_137
  | 138, _ => cw_138
  | 139, _ => cw_139
  | 140, _ => cw_140
  | 141, _ => cw_141
  | 142, _ => cw_142
  | 143, _ => cw_143
  | 144, _ => cw_144
  | 145, _ => cw_145
  | 146, _ => cw_146
  | 147, _ => cw_147
  | 148, _ => cw_148
  | 149, _ => cw_149
  | 150, _ => cw_150
  | 151, _ => cw_151
  | 152, _ => cw_152
  | 153, _ => cw_153
  | 154, _ => cw_154
  | 155, _ => cw_155
  | 156, _ => cw_156
  | 157, _ => cw_157
  | 158, _ => cw_158
  | 159, _ => cw_159
  | 160, _ => cw_160
  | 161, _ => cw_161
  | 162, _ => cw_162
  | 163, _ => cw_163
  | 164, _ => cw_164
  | 165, _ => cw_165
  | 166, _ => cw_166
  | 167, _ => cw_167
  | 168, _ => cw_168
  | 169, _ => cw_169
  | 170, _ => cw_170
  | 171, _ => cw_171
  | 172, _ => cw_172
  | 173, _ => cw_173
  | 174, _ => cw_174
  | 175, _ => cw_175
  | 176, _ => cw_176
  | 177, _ => cw_177
  | 178, _ => cw_178
  | 179, _ => cw_179
  | 180, _ => cw_180
  | 181, _ => cw_181
  | 182, _ => cw_182
  | 183, _ => cw_183
  | 184, _ => cw_184
  | 185, _ => cw_185
  | 186, _ => cw_186
  | 187, _ => cw_187
  | 188, _ => cw_188
  | 189, _ => cw_189
  | 190, _ => cw_190
  | 191, _ => cw_191
  | 192, _ => cw_192
  | 193, _ => cw_193
  | 194, _ => cw_194
  | 195, _ => cw_195
  | 196, _ => cw_196
  | 197, _ => cw_197
  | 198, _ => cw_198
  | 199, _ => cw_199
  | 200, _ => cw_200
  | 201, _ => cw_201
  | 202, _ => cw_202
  | 203, _ => cw_203
  | 204, _ => cw_204
  | 205, _ => cw_205
  | 206, _ => cw_206
  | 207, _ => cw_207
  | 208, _ => cw_208
  | 209, _ => cw_209
  | 210, _ => cw_210
  | 211, _ => cw_211
  | 212, _ => cw_212
  | 213, _ => cw_213
  | 214, _ => cw_214
  | 215, _ => cw_215
  | 216, _ => cw_216
  | 217, _ => cw_217
  | 218, _ => cw_218
  | 219, _ => cw_219
  | 220, _ => cw_220
  | 221, _ => cw_221
  | 222, _ => cw_222
  | n + 223, h => absurd h (by omega)
theorem inW_chk : (List.range 223).all (fun t => decide ([Cond.initialized (mname t).cls] = wAt [(mWP.getD t []).getD 1 0]) && goodWord (Cond.initialized (mname t).cls)) = true := by decide +kernel
theorem mW_in {t : Nat} (ht : t < 223) {w : Cond} (hw : w ∈ mW t) : w ∈ gtbl := by
  rcases List.mem_cons.mp hw with rfl | hw
  · exact codeW t ht
  · have h3 := List.all_eq_true.mp inW_chk t (List.mem_range.mpr ht)
    simp only [Bool.and_eq_true, decide_eq_true_eq] at h3
    exact wAt_in h3.1 (by simp [h3.2]) hw
/-- names: the class of a method is its own; no method handles; as many parameters as said -/
theorem nm_chk : (List.range 223).all (fun t => decide ((mname t).cls = cnm (mown t)) && decide ((mname t).cls ≠ "java/lang/invoke/MethodHandle") && decide ((mname t).cls ≠ "java/lang/invoke/VarHandle") && decide ((parseMethodDescriptor (mname t).desc).map (fun d => d.parameters.length) = some (mpar t)) && plainName (mname t).cls) = true := by decide +kernel
theorem inv_lt : (List.range 9).all (fun c => (linv.getD c []).all (fun e => decide (3 < e.2.1) || decide (e.2.2 < 223))) = true := by decide +kernel
theorem inv_init : (List.range 9).all (fun c => (linv.getD c []).all (fun e => (decide (e.2.1 ≠ 1) && decide (e.2.1 ≠ 3)) || (decide ((mname e.2.2).name = "<init>") && decide (mans e.2.2 = 0)))) = true := by decide +kernel
def fldW (c k ci j : Nat) : Cond := .fieldLink (cnm c) k (cnm ci) (TXs ci j).2.1 (TXs ci j).2.2.1
def lfldP : List (List (Nat × List Nat)) := [[(12, [152]), (18, [153]), (22, [154]), (25, [155]), (28, [156]), (64, [159]), (71, [157]), (74, [158]), (78, [161]), (81, [163])],
  [(14, [195]), (18, [196]), (22, [197]), (25, [198]), (28, [199]), (42, [200]), (60, [206]), (63, [208]), (69, [201]), (72, [202]), (75, [204])],
  [(11, [121])],
  [(11, [241]), (16, [243]), (20, [242])],
  [(12, [127]), (18, [129]), (22, [131]), (26, [132])],
  [(10, [446]), (19, [447]), (23, [448]), (29, [449]), (36, [450]), (45, [451]), (49, [452]), (71, [128]), (74, [122]), (82, [130]), (160, [244]), (173, [162]), (176, [164]), (185, [160]), (214, [209]), (217, [207]), (220, [203]), (223, [205])],
  [(7, [911]), (13, [912]), (16, [914]), (19, [915]), (22, [917]), (25, [918]), (28, [920]), (31, [921]), (34, [922]), (37, [924]), (40, [928]), (44, [932]), (47, [933]), (50, [938]), (53, [939]), (56, [940]), (59, [941]), (80, [916]), (84, [919]), (87, [923]), (90, [910]), (93, [913]), (96, [925]), (99, [926]), (110, [927]), (113, [929]), (124, [931]), (157, [930]), (213, [934]), (216, [935]), (262, [937]), (265, [936]), (288, [943]), (291, [942]), (294, [945]), (297, [944]), (300, [946])],
  [],
  []]
set_option maxRecDepth 100000 in
theorem fld_chk : (List.range 9).all (fun c => (lfld.getD c []).all (fun e => decide ([fldW c e.1 e.2.1 e.2.2.1] = wAt ((lkp (lfldP.getD c []) e.1).getD [])) && goodWord (fldW c e.1 e.2.1 e.2.2.1) && decide (e.2.1 < 7) && decide (e.2.2.1 < nfld e.2.1) && decide (e.2.2.2 = (tfld.getD e.2.1 []).getD e.2.2.1 0) && decide ((TXs e.2.1 e.2.2.1).1 = cnm e.2.1))) = true := by decide +kernel
theorem fld_in {c k ci j ty : Nat} (h : fldOf c k = some (ci, j, ty)) : fldW c k ci j ∈ gtbl ∧ ci < 7 ∧ j < nfld ci ∧ ty = (tfld.getD ci []).getD j 0 ∧ (TXs ci j).1 = cnm ci := by
  have h1 := lkp_mem h
  have h2 := List.all_eq_true.mp fld_chk c (List.mem_range.mpr (getD_lt h1))
  have h3 := List.all_eq_true.mp h2 _ h1
  simp only [Bool.and_eq_true, decide_eq_true_eq] at h3
  obtain ⟨⟨⟨⟨⟨a1, a2⟩, a3⟩, a4⟩, a5⟩, a6⟩ := h3
  exact ⟨wAt_in a1 (by simp [a2]) List.mem_cons_self, a3, a4, a5, a6⟩
set_option maxRecDepth 100000 in
theorem lay_chk : (List.range 7).all (fun c => decide (u_ws (cnm c) (TXs c) (nfld c) = wAt (([[165, 167, 169, 171, 173, 175, 177, 179, 181, 183], [210, 212, 214, 216, 218, 220, 222, 224, 226, 228, 230], [123], [245, 247, 249], [133, 135, 137, 139], [453, 455, 457, 459, 461, 463, 465], [947, 949, 951, 953, 955, 957, 959, 961, 963, 965, 967, 969, 971, 973, 975, 977, 979, 981, 983, 985, 987, 989, 991, 993, 995, 997, 999, 1001, 1003, 1005, 1007, 1009, 1011, 1013, 1015, 1017, 1019]] : List (List Nat)).getD c [])) && (u_ws (cnm c) (TXs c) (nfld c)).all goodWord) = true := by decide +kernel
theorem lay_in {c : Nat} (hc : c < 7) : ∀ w ∈ u_ws (cnm c) (TXs c) (nfld c), w ∈ gtbl := by
  intro w hw
  have h3 := List.all_eq_true.mp lay_chk c (List.mem_range.mpr hc)
  simp only [Bool.and_eq_true, decide_eq_true_eq] at h3
  exact wAt_in h3.1 h3.2 hw
/-- the types of the fields as their descriptors say; the names of one class's fields differ -/
def tyD (ci j : Nat) : FieldType := (parseFieldDescriptor (TXs ci j).2.2.1).getD .int
theorem ty_chk : (List.range 7).all (fun c => (List.range (nfld c)).all (fun j => decide (parseFieldDescriptor (TXs c j).2.2.1 = some (tyD c j)) && (if tyf c j = 2 then (tyD c j).isReference else if tyf c j = 1 then decide (tyD c j = .boolean) else decide (tyD c j = .int)))) = true := by decide +kernel
theorem nam_chk : (List.range 7).all (fun c => (List.range (nfld c)).all (fun j => (List.range (nfld c)).all (fun i => decide (i = j) || decide ((TXs c i).2.1 ≠ (TXs c j).2.1)))) = true := by decide +kernel
def newW (c k ci : Nat) : List Cond := [.classLink (cnm c) k (cnm ci), .instantiable (cnm ci) (nfld ci), .initialized (cnm ci)]
def lnewP : List (List (Nat × List Nat)) := [[(9, [150, 116, 90])],
  [(11, [193, 116, 90])],
  [],
  [],
  [(9, [115, 116, 90])],
  [(7, [109, 110, 89]), (16, [142, 116, 90]), (26, [144, 145, 91]), (33, [187, 188, 92]), (40, [233, 234, 93])],
  [],
  [(7, [101, 102, 88]), (10, [884, 885, 99])],
  []]
theorem new_chk : (List.range 9).all (fun c => (lnew.getD c []).all (fun e => decide (newW c e.1 e.2 = wAt ((lkp (lnewP.getD c []) e.1).getD [])) && (newW c e.1 e.2).all goodWord && decide (e.2 < 7))) = true := by decide +kernel
theorem new_in {c k ci : Nat} (h : newOf c k = some ci) : (∀ w ∈ newW c k ci, w ∈ gtbl) ∧ ci < 7 := by
  have h1 := lkp_mem h
  have h2 := List.all_eq_true.mp new_chk c (List.mem_range.mpr (getD_lt h1))
  have h3 := List.all_eq_true.mp h2 _ h1
  simp only [Bool.and_eq_true, decide_eq_true_eq] at h3
  exact ⟨fun w hw => wAt_in h3.1.1 h3.1.2 hw, h3.2⟩
def llngP : List (List (Nat × List Nat)) := [[],
  [],
  [],
  [],
  [],
  [(239, [852]), (241, [853]), (243, [854])],
  [(102, [1026]), (104, [1027]), (120, [1055]), (122, [1056]), (128, [1065]), (134, [1066]), (155, [1082]), (179, [1153]), (181, [1094]), (183, [1103]), (185, [1104]), (191, [1117]), (277, [1242]), (303, [1311]), (305, [1312]), (344, [1275]), (346, [1276]), (348, [1277]), (356, [1341]), (358, [1342]), (360, [1343]), (362, [1344]), (364, [1345])],
  [],
  []]
theorem lng_chk : (List.range 9).all (fun c => (llng.getD c []).all (fun e => decide ([Cond.constantLong (cnm c) e.1 (Int64.ofInt e.2)] = wAt ((lkp (llngP.getD c []) e.1).getD [])) && goodWord (Cond.constantLong (cnm c) e.1 (Int64.ofInt e.2)) && decide (-1000000 < e.2) && decide (e.2 < 1000000))) = true := by decide +kernel
theorem lng_in {c k : Nat} {v : Int} (h : lngOf c k = some v) : Cond.constantLong (cnm c) k (Int64.ofInt v) ∈ gtbl ∧ -1000000 < v ∧ v < 1000000 := by
  have h1 := lkp_mem h
  have h2 := List.all_eq_true.mp lng_chk c (List.mem_range.mpr (getD_lt h1))
  have h3 := List.all_eq_true.mp h2 _ h1
  simp only [Bool.and_eq_true, decide_eq_true_eq] at h3
  exact ⟨wAt_in h3.1.1.1 (by simp [h3.1.1.2]) List.mem_cons_self, h3.1.2, h3.2⟩
def lintP : List (List (Nat × List Nat)) := [[], [], [], [], [], [], [], [], [(265, [864]), (266, [865]), (267, [866])]]
theorem int_chk : (List.range 9).all (fun c => (lint.getD c []).all (fun e => decide ([Cond.constant (cnm c) e.1 (Int32.ofInt e.2)] = wAt ((lkp (lintP.getD c []) e.1).getD [])) && goodWord (Cond.constant (cnm c) e.1 (Int32.ofInt e.2)) && decide (-2147483648 ≤ e.2) && decide (e.2 < 2147483648))) = true := by decide +kernel
theorem int_in {c k : Nat} {v : Int} (h : intOf c k = some v) : Cond.constant (cnm c) k (Int32.ofInt v) ∈ gtbl ∧ -2147483648 ≤ v ∧ v < 2147483648 := by
  have h1 := lkp_mem h
  have h2 := List.all_eq_true.mp int_chk c (List.mem_range.mpr (getD_lt h1))
  have h3 := List.all_eq_true.mp h2 _ h1
  simp only [Bool.and_eq_true, decide_eq_true_eq] at h3
  exact ⟨wAt_in h3.1.1.1 (by simp [h3.1.1.2]) List.mem_cons_self, h3.1.2, h3.2⟩
theorem arc_in : Cond.arrayClass .int ∈ gtbl ∧ Cond.arrayClass .byte ∈ gtbl ∧ Cond.arrayClass .boolean ∈ gtbl := ⟨wAt_in (ps := [126]) (ws := [Cond.arrayClass .int]) (by decide +kernel) (by decide +kernel) List.mem_cons_self, wAt_in (ps := [468]) (ws := [Cond.arrayClass .byte]) (by decide +kernel) (by decide +kernel) List.mem_cons_self, wAt_in (ps := [186]) (ws := [Cond.arrayClass .boolean]) (by decide +kernel) (by decide +kernel) List.mem_cons_self⟩
end
section
/-! what holds in a method of the claim while it runs -/
def AA (G : mG) : Nat → Prop := fun q => G.1 ≤ q
def aov (U : State) : Prop := (Cond.arrayOver (.array .int)).before #[] U = true
theorem aov_spec {U : State} (h : aov U) : ∃ comp c k, U.vm.findClass (FieldType.array .int).toString = some comp ∧ (U.vm.classes.findIdx? fun (x : Class) => match x.kind with | .array component _ => component == comp | _ => false) = some c ∧ U.vm.classes[c]? = some k ∧ k.kind = .array comp (.array .int) ∧ U.vm.findClass ("[" ++ (FieldType.array .int).toString) = some c := by
  unfold aov Cond.before at h
  simp only [Cond.holds, Cond.value, beq_iff_eq] at h
  cases hc : U.vm.findClass (FieldType.array .int).toString with
  | none => simp [hc] at h
  | some comp =>
    simp only [hc, Option.bind_some, Option.bind_eq_some_iff, Option.map_eq_some_iff] at h
    obtain ⟨c, hi, k, hk, hb⟩ := h
    have hi' := hi
    obtain ⟨hlt, hp, -⟩ := Array.findIdx?_eq_some_iff_getElem.mp hi
    have hkk : U.vm.classes[c] = k := (Array.getElem?_eq_some_iff.mp hk).2
    rw [hkk] at hp
    cases hkind : k.kind with
    | array component ty =>
      rw [hkind] at hb hp
      simp at hb hp
      exact ⟨comp, c, k, rfl, hi', hk, by rw [hkind, hp, hb.1], hb.2⟩
    | _ => rw [hkind] at hb; simp at hb
theorem aov_moved {u U : State} (hvm : u.vm.Alike U.vm) (h : aov u) : aov U := by
  obtain ⟨comp, c, k, h1, h2, h3, h4, h5⟩ := aov_spec h
  obtain ⟨k', hk', he⟩ := hvm.2.2 _ _ h3
  have e1 := va_idx_bare u.vm comp
  have e2 := va_idx_bare U.vm comp
  have eb := hvm.bare_eq
  have e3 := e1.symm
  rw [show u.vm.bare = U.vm.bare from by first | exact eb | exact eb.symm] at e3
  have hi := (e3.trans e2).symm.trans h2
  have hkind : k'.kind = .array comp (.array .int) := by rw [he]; exact h4
  have f1 : U.vm.findClass (FieldType.array .int).toString = some comp := by rw [hvm.findClass]; exact h1
  have f2 : U.vm.findClass ("[" ++ (FieldType.array .int).toString) = some c := by rw [hvm.findClass]; exact h5
  unfold aov Cond.before Cond.holds
  simp only [Cond.value]
  rw [f1, Option.bind_some]
  refine (congrArg (fun o : Option Nat => (o.bind (fun c => (U.vm.classes[c]?).map fun (k : Class) => match k.kind with | .array _ ty => decide (ty = FieldType.array .int) && decide (U.vm.findClass ("[" ++ (FieldType.array .int).toString) = some c) | _ => false) == some true)) hi).trans ?_
  simp [hk', hkind, f2]
def txt0 : String := "s00;s10;l1111,,0;i3,1,0,0;i4,1,0,0;i4,1,1,2;i6,1,0,0;i11,1,2,0;l1018,2,1;i7,1,0,0;i5,0,1,0;i2,0,2,0;i12,3,0,0;l1000,,1;i13,0,0,0;"
def txL : List Nat := [115, 48, 48, 59, 115, 49, 48, 59, 108, 49, 49, 49, 49, 44, 44, 48, 59, 105, 51, 44, 49, 44, 48, 44, 48, 59, 105, 52, 44, 49, 44, 48, 44, 48, 59, 105, 52, 44, 49, 44, 49, 44, 50, 59, 105, 54, 44, 49, 44, 48, 44, 48, 59, 105, 49, 49, 44, 49, 44, 50, 44, 48, 59, 108, 49, 48, 49, 56, 44, 50, 44, 49, 59, 105, 55, 44, 49, 44, 48, 44, 48, 59, 105, 53, 44, 48, 44, 49, 44, 48, 59, 105, 50, 44, 48, 44, 50, 44, 48, 59, 105, 49, 50, 44, 51, 44, 48, 44, 48, 59, 108, 49, 48, 48, 48, 44, 44, 49, 59, 105, 49, 51, 44, 48, 44, 48, 44, 48, 59]
def txB (j : Nat) : Int32 := Int32.ofNat (txL.getD j 0)
theorem txB_all : ∀ j, j < 129 → (0 ≤ (txB j).toInt ∧ (txB j).toInt ≤ 127) := by decide +kernel
theorem txB_ok {j : Nat} (h : j < 129) : 0 ≤ (txB j).toInt ∧ (txB j).toInt ≤ 127 := txB_all j h
def nestH : String := "TypedBlocks"
/-- what was there before: the static arrays, the text's String, and links between nest mates -/
def XF (G : mG) (s : State) : Prop :=
  (∀ c k t, invOf c k = some (3, t) → va_Nw (.methodLinkNest (cnm c) k (mname t) nestH) s) ∧
  va_Nw (.fieldLinkNest (cnm 2) 72 "TypedBlocks" "OPERANDS" "[I" nestH) s ∧
  va_Z "TypedBlocks" "OPERANDS" "[I" (.ref (G.2.1 2)) (AA G) s s.heap ∧
  va_Z "TypedBlocks" "DRAWN" "[I" (.ref (G.2.1 3)) (AA G) s s.heap ∧
  aov s ∧
  vk_R "TypedBlocks" 52 txt0 (G.2.1 4) s ∧
  va_O "java/lang/String" (G.2.1 4) (AA G) s s.heap ∧
  va_OF "java/lang/String" "coder" "B" (.int 0) (G.2.1 4) (AA G) s s.heap ∧
  va_OF "java/lang/String" "value" "[B" (.ref (G.2.1 5)) (G.2.1 4) (AA G) s s.heap ∧
  va_Z "java/lang/String" "COMPACT_STRINGS" "Z" (.int 1) (AA G) s s.heap ∧
  va_Zq "jdk/internal/util/Preconditions" "SIOOBE_FORMATTER" "Ljava/util/function/BiFunction;" (AA G) s s.heap ∧
  va_T .byte (G.2.1 5) 129 (fun j => .int (txB j)) (AA G) s s.heap
theorem XF_warm {G : mG} {s U : State} (h : XF G s) (hW : s.WarmedH U.vm) (hq : ∀ q : Nat, q < s.heap.size → ¬ AA G q → U.heap[q]? = s.heap[q]?) : XF G U := by
  obtain ⟨h1, h2, h3, h4, h5, h6, h7, h8, h9, h10, h11, h12⟩ := h
  have ha := hW.alike
  refine ⟨fun c k t e => (h1 c k t e).warmM hW, h2.warmF hW, (h3.moved ha).kept hq, (h4.moved ha).kept hq, aov_moved ha h5, h6.warm hW, (h7.moved ha).kept hq, (h8.moved ha).kept hq, (h9.moved ha).kept hq, (h10.moved ha).kept hq, (h11.moved ha).kept hq, ?_⟩
  exact (h12.moved ha).kept hq
/-- the machine in a method: code, class, words, room -/
def CX (G : mG) (mi : Nat) (p : Program) (R : Room) (s : State) (m : MethodId) (args : Array Value) (meth : Method) (c : Code) : Prop :=
  p.tables.exec = Jvm.exec ∧ c.code = codeOf mi ∧ c.maxLocals = mmax mi ∧ s.vm.findClass (cnm (mown mi)) = some m.cls ∧ (∀ w ∈ gtbl, w.before args s = true) ∧ meth.locks = false ∧ ((mname mi).name = "<init>" → meth.name = "<init>") ∧
  mdep mi ≤ R.frames ∧ 40 * mdep mi ≤ R.locals ∧ va_K G.2.2 vwCl [] s ∧ XF G s ∧ G.1 ≤ s.heap.size
def msz (h : mH) : Nat := (h.1.map Prod.snd).sum
def RVo (G : mG) : Option mV → List Value → Prop
  | none, S => S = []
  | some v, S => ∃ w, S = [w] ∧ RV G v w
/-- from such a place the method comes to its end, with this answer and this memory -/
def Snd (G : mG) (l : Launch) (mi pc : Nat) (ls : mL) (st : List mV) (h : mH) (v : Option mV) (h' : mH) : Prop :=
  ∀ (p : Program) (e : Env) (R : Room) (s : State) (m : MethodId) (args : Array Value) (below : List Frame) (meth : Method) (c : Code), CX G mi p R s m args meth c →
  ∀ (H : Heap) (locs : List Loc) (cells slots : Nat) (Q : State → Prop) (L : Array Slot) (S : List Value), Rep G s h H → va_S (AA G) s.heap H locs → LR G (mmax mi) ls L → RL G st S →
  cells + (h'.1.length - h.1.length) ≤ R.cells → slots + (msz h' - msz h) ≤ R.slots →
  (∀ (H' : Heap) (locs' : List Loc) (pc' : Nat) (L' : Array Slot) (S' : List Value), Rep G s h' H' → va_S (AA G) s.heap H' locs' → RVo G v S' →
    ((mans mi = 0 ∧ v = none ∧ decode (codeOf mi) pc' = .ok (.return_, 1)) ∨ (∃ x, v = some (.inl x) ∧ decode (codeOf mi) pc' = .ok (.ireturn, 1) ∧ (mans mi = 1 ∨ (mans mi = 2 ∧ (x = 0 ∨ x = 1))))) →
    W p l e R s m args below meth c H' locs' (cells + (h'.1.length - h.1.length)) (slots + (msz h' - msz h)) Q (F0 m pc' L' S')) →
  W p l e R s m args below meth c H locs cells slots Q (F0 m pc L S)
/-- one step that leaves the memory as it is -/
def St1 (G : mG) (l : Launch) (mi pc : Nat) (ls : mL) (st : List mV) (h : mH) (pc' : Nat) (ls' : mL) (st' : List mV) : Prop :=
  ∀ (p : Program) (e : Env) (R : Room) (s : State) (m : MethodId) (args : Array Value) (below : List Frame) (meth : Method) (c : Code), CX G mi p R s m args meth c →
  ∀ (H : Heap) (locs : List Loc) (cells slots : Nat) (Q : State → Prop) (L : Array Slot) (S : List Value), Rep G s h H → va_S (AA G) s.heap H locs → LR G (mmax mi) ls L → RL G st S →
  (∀ (L' : Array Slot) (S' : List Value), LR G (mmax mi) ls' L' → RL G st' S' → W p l e R s m args below meth c H locs cells slots Q (F0 m pc' L' S')) →
  W p l e R s m args below meth c H locs cells slots Q (F0 m pc L S)
/-- one step of the mini machine is one of the machine -/
def Nx (G : mG) (l : Launch) (mi pc : Nat) (ls : mL) (st : List mV) (h : mH) (pc' : Nat) (ls' : mL) (st' : List mV) (h1 : mH) : Prop :=
  h.1 <+: h1.1 ∧ ∀ (v : Option mV) (h' : mH), h1.1 <+: h'.1 → Snd G l mi pc' ls' st' h1 v h' → Snd G l mi pc ls st h v h'
theorem St1.nx {G : mG} {l : Launch} {mi pc : Nat} {ls : mL} {st : List mV} {h : mH} {pc' : Nat} {ls' : mL} {st' : List mV} (H1 : St1 G l mi pc ls st h pc' ls' st') : Nx G l mi pc ls st h pc' ls' st' h := by
  refine ⟨List.prefix_refl _, fun v h' hp hs => ?_⟩
  intro p e R s m args below meth c C H locs cells slots Q L S hR hS hL hT hc hsl ret
  exact H1 p e R s m args below meth c C H locs cells slots Q L S hR hS hL hT (fun L' S' hL' hT' => hs p e R s m args below meth c C H locs cells slots Q L' S' hR hS hL' hT' hc hsl ret)
section Steps
variable {G : mG} {l : Launch} {mi pc : Nat} {ls ls' : mL} {st : List mV} {h : mH}
theorem s_iload {i : Nat} {x : Int} (d : decode (codeOf mi) pc = .ok (.iload i, 2)) (hx : ldI ls i = some x) : St1 G l mi pc ls st h (pc + 2) ls (.inl x :: st) := by
  intro p e R s m args below meth c C H locs cells slots Q L S hR hS hL hT kk
  obtain ⟨a, ha, hv⟩ := ldI_of hL hx
  exact lv_iload C.1 C.2.1 d ha (kk L _ hL ⟨⟨a, rfl, hv⟩, hT⟩)
theorem s_iload_n {i : Fin 4} {x : Int} (d : decode (codeOf mi) pc = .ok (.iload_n i, 1)) (hx : ldI ls i.val = some x) : St1 G l mi pc ls st h (pc + 1) ls (.inl x :: st) := by
  intro p e R s m args below meth c C H locs cells slots Q L S hR hS hL hT kk
  obtain ⟨a, ha, hv⟩ := ldI_of hL hx
  exact lv_iload_n C.1 C.2.1 d rfl ha (kk L _ hL ⟨⟨a, rfl, hv⟩, hT⟩)
theorem s_lload {i : Nat} {x : Int} (d : decode (codeOf mi) pc = .ok (.lload i, 2)) (hx : ldJ ls i = some x) : St1 G l mi pc ls st h (pc + 2) ls (.inr (.inl x) :: st) := by
  intro p e R s m args below meth c C H locs cells slots Q L S hR hS hL hT kk
  obtain ⟨a, ha, hv⟩ := ldJ_of hL hx
  exact lv_lload C.1 C.2.1 d ha (kk L _ hL ⟨⟨a, rfl, hv⟩, hT⟩)
theorem s_lload_n {i : Fin 4} {x : Int} (d : decode (codeOf mi) pc = .ok (.lload_n i, 1)) (hx : ldJ ls i.val = some x) : St1 G l mi pc ls st h (pc + 1) ls (.inr (.inl x) :: st) := by
  intro p e R s m args below meth c C H locs cells slots Q L S hR hS hL hT kk
  obtain ⟨a, ha, hv⟩ := ldJ_of hL hx
  exact lv_lload_n C.1 C.2.1 d rfl ha (kk L _ hL ⟨⟨a, rfl, hv⟩, hT⟩)
theorem s_aload {i : Nat} {x : Nat} (d : decode (codeOf mi) pc = .ok (.aload i, 2)) (hx : ldA ls i = some x) : St1 G l mi pc ls st h (pc + 2) ls (.inr (.inr x) :: st) := by
  intro p e R s m args below meth c C H locs cells slots Q L S hR hS hL hT kk
  have ha := ldA_of hL hx
  by_cases h0 : x = 0
  · rw [if_pos h0] at ha
    exact lv_aloadN C.1 C.2.1 d ha (kk L _ hL ⟨(if_pos h0).symm, hT⟩)
  · rw [if_neg h0] at ha
    exact lv_aload C.1 C.2.1 d ha (kk L _ hL ⟨(if_neg h0).symm, hT⟩)
theorem s_aload_n {i : Fin 4} {x : Nat} (d : decode (codeOf mi) pc = .ok (.aload_n i, 1)) (hx : ldA ls i.val = some x) : St1 G l mi pc ls st h (pc + 1) ls (.inr (.inr x) :: st) := by
  intro p e R s m args below meth c C H locs cells slots Q L S hR hS hL hT kk
  have ha := ldA_of hL hx
  by_cases h0 : x = 0
  · rw [if_pos h0] at ha
    exact lv_aload_nN C.1 C.2.1 d rfl ha (kk L _ hL ⟨(if_pos h0).symm, hT⟩)
  · rw [if_neg h0] at ha
    exact lv_aload_n C.1 C.2.1 d rfl ha (kk L _ hL ⟨(if_neg h0).symm, hT⟩)
theorem set1_lt {i : Nat} {v : mV} (hs : set1 ls i v = some ls') : i < ls.length := by
  unfold set1 at hs
  split at hs
  · assumption
  · cases hs
theorem set2_lt {i : Nat} {v : mV} (hs : set2 ls i v = some ls') : i + 1 < ls.length := by
  unfold set2 at hs
  split at hs
  · assumption
  · cases hs
theorem s_istore {i : Nat} {x : Int} {r : List mV} (d : decode (codeOf mi) pc = .ok (.istore i, 2)) (hs : set1 ls i (.inl x) = some ls') : St1 G l mi pc ls (.inl x :: r) h (pc + 2) ls' r := by
  intro p e R s m args below meth c C H locs cells slots Q L S hR hS hL hT kk
  obtain ⟨w, q, rfl, ⟨a, rfl, ha⟩, hT1⟩ := RL_cons hT
  exact lv_istore C.1 C.2.1 d (LR_has hL) (by have := set1_lt hs; have := hL.2.2.1; omega) rfl (fun L' hl => kk L' q (LR_set1 hL hs ⟨a, rfl, ha⟩ hl) hT1)
theorem s_istore_n {i : Fin 4} {x : Int} {r : List mV} (d : decode (codeOf mi) pc = .ok (.istore_n i, 1)) (hs : set1 ls i.val (.inl x) = some ls') : St1 G l mi pc ls (.inl x :: r) h (pc + 1) ls' r := by
  intro p e R s m args below meth c C H locs cells slots Q L S hR hS hL hT kk
  obtain ⟨w, q, rfl, ⟨a, rfl, ha⟩, hT1⟩ := RL_cons hT
  exact lv_istore_n C.1 C.2.1 d rfl (LR_has hL) (by have := set1_lt hs; have := hL.2.2.1; omega) rfl (fun L' hl => kk L' q (LR_set1 hL hs ⟨a, rfl, ha⟩ hl) hT1)
theorem s_lstore {i : Nat} {x : Int} {r : List mV} (d : decode (codeOf mi) pc = .ok (.lstore i, 2)) (hs : set2 ls i (.inr (.inl x)) = some ls') : St1 G l mi pc ls (.inr (.inl x) :: r) h (pc + 2) ls' r := by
  intro p e R s m args below meth c C H locs cells slots Q L S hR hS hL hT kk
  obtain ⟨w, q, rfl, ⟨a, rfl, ha⟩, hT1⟩ := RL_cons hT
  exact lv_lstore C.1 C.2.1 d (LR_has hL) (by have := set2_lt hs; have := hL.2.2.1; omega) rfl (fun L' hl => kk L' q (LR_set2 hL hs ⟨a, rfl, ha⟩ hl) hT1)
theorem s_lstore_n {i : Fin 4} {x : Int} {r : List mV} (d : decode (codeOf mi) pc = .ok (.lstore_n i, 1)) (hs : set2 ls i.val (.inr (.inl x)) = some ls') : St1 G l mi pc ls (.inr (.inl x) :: r) h (pc + 1) ls' r := by
  intro p e R s m args below meth c C H locs cells slots Q L S hR hS hL hT kk
  obtain ⟨w, q, rfl, ⟨a, rfl, ha⟩, hT1⟩ := RL_cons hT
  exact lv_lstore_n C.1 C.2.1 d rfl (LR_has hL) (by have := set2_lt hs; have := hL.2.2.1; omega) rfl (fun L' hl => kk L' q (LR_set2 hL hs ⟨a, rfl, ha⟩ hl) hT1)
theorem s_astore {i : Nat} {x : Nat} {r : List mV} (d : decode (codeOf mi) pc = .ok (.astore i, 2)) (hs : set1 ls i (.inr (.inr x)) = some ls') : St1 G l mi pc ls (.inr (.inr x) :: r) h (pc + 2) ls' r := by
  intro p e R s m args below meth c C H locs cells slots Q L S hR hS hL hT kk
  obtain ⟨w, q, rfl, hw, hT1⟩ := RL_cons hT
  by_cases h0 : x = 0
  · have e : w = .null := by rw [RV_ref hw, if_pos h0]
    subst e
    exact lv_astoreN C.1 C.2.1 d (LR_has hL) (by have := set1_lt hs; have := hL.2.2.1; omega) rfl (fun L' hl => kk L' q (LR_set1 hL hs hw hl) hT1)
  · have e := RV_ref1 hw h0
    subst e
    exact lv_astore C.1 C.2.1 d (LR_has hL) (by have := set1_lt hs; have := hL.2.2.1; omega) rfl (fun L' hl => kk L' q (LR_set1 hL hs hw hl) hT1)
theorem s_astore_n {i : Fin 4} {x : Nat} {r : List mV} (d : decode (codeOf mi) pc = .ok (.astore_n i, 1)) (hs : set1 ls i.val (.inr (.inr x)) = some ls') : St1 G l mi pc ls (.inr (.inr x) :: r) h (pc + 1) ls' r := by
  intro p e R s m args below meth c C H locs cells slots Q L S hR hS hL hT kk
  obtain ⟨w, q, rfl, hw, hT1⟩ := RL_cons hT
  by_cases h0 : x = 0
  · have e : w = .null := by rw [RV_ref hw, if_pos h0]
    subst e
    exact lv_astore_nN C.1 C.2.1 d rfl (LR_has hL) (by have := set1_lt hs; have := hL.2.2.1; omega) rfl (fun L' hl => kk L' q (LR_set1 hL hs hw hl) hT1)
  · have e := RV_ref1 hw h0
    subst e
    exact lv_astore_n C.1 C.2.1 d rfl (LR_has hL) (by have := set1_lt hs; have := hL.2.2.1; omega) rfl (fun L' hl => kk L' q (LR_set1 hL hs hw hl) hT1)
theorem s_iinc {i : Nat} {n x : Int} (d : decode (codeOf mi) pc = .ok (.iinc i n, 3)) (h1 : -32768 ≤ n) (h2 : n ≤ 32767) (hx : ldI ls i = some x) (hs : set1 ls i (.inl (w32 (x + n))) = some ls') : St1 G l mi pc ls st h (pc + 3) ls' st := by
  intro p e R s m args below meth c C H locs cells slots Q L S hR hS hL hT kk
  obtain ⟨a, ha, hv⟩ := ldI_of hL hx
  have hm : (i, Value.int a) ∈ lvO ls L := by
    unfold ldI at hx
    split at hx
    · rename_i y hy
      exact lvO_mem hy ha
    · cases hx
  obtain ⟨k, hk⟩ := List.mem_iff_getElem?.mp hm
  have hr : RV G (.inl (w32 (x + n))) (.int (a + Int32.ofInt n)) := ⟨_, rfl, by rw [i32_add, hv, i32_of (by omega) (by omega)]⟩
  exact lv_iinc C.1 C.2.1 d (LR_has hL) hk rfl (by have := set1_lt hs; have := hL.2.2.1; omega) rfl (fun L' hl => kk L' S (LR_set1 hL hs hr hl) hT)
theorem s_iconst {n : Int} (d : decode (codeOf mi) pc = .ok (.iconst n, 1)) (h1 : -1 ≤ n) (h2 : n ≤ 5) : St1 G l mi pc ls st h (pc + 1) ls (.inl n :: st) := by
  intro p e R s m args below meth c C H locs cells slots Q L S hR hS hL hT kk
  exact lv_iconst C.1 C.2.1 d rfl (kk L _ hL ⟨⟨_, rfl, i32_of (by omega) (by omega)⟩, hT⟩)
theorem s_bipush {n : Int} (d : decode (codeOf mi) pc = .ok (.bipush n, 2)) (h1 : -128 ≤ n) (h2 : n ≤ 127) : St1 G l mi pc ls st h (pc + 2) ls (.inl n :: st) := by
  intro p e R s m args below meth c C H locs cells slots Q L S hR hS hL hT kk
  exact lv_bipush C.1 C.2.1 d rfl (kk L _ hL ⟨⟨_, rfl, i8_of (by omega) (by omega)⟩, hT⟩)
theorem s_sipush {n : Int} (d : decode (codeOf mi) pc = .ok (.sipush n, 3)) (h1 : -32768 ≤ n) (h2 : n ≤ 32767) : St1 G l mi pc ls st h (pc + 3) ls (.inl n :: st) := by
  intro p e R s m args below meth c C H locs cells slots Q L S hR hS hL hT kk
  exact lv_sipush C.1 C.2.1 d rfl (kk L _ hL ⟨⟨_, rfl, i16_of (by omega) (by omega)⟩, hT⟩)
theorem s_lconst {n : Fin 2} (d : decode (codeOf mi) pc = .ok (.lconst n, 1)) : St1 G l mi pc ls st h (pc + 1) ls (.inr (.inl (n.val : Int)) :: st) := by
  intro p e R s m args below meth c C H locs cells slots Q L S hR hS hL hT kk
  refine lv_lconst C.1 C.2.1 d rfl (kk L _ hL ⟨⟨_, rfl, ?_⟩, hT⟩)
  match n with
  | 0 => rfl
  | 1 => rfl
theorem s_ldcI {k : Nat} {v : Int} (d : decode (codeOf mi) pc = .ok (.ldc k, 2)) (hk : intOf (mown mi) k = some v) : St1 G l mi pc ls st h (pc + 2) ls (.inl v :: st) := by
  intro p e R s m args below meth c C H locs cells slots Q L S hR hS hL hT kk
  obtain ⟨a1, a2, a3⟩ := int_in hk
  exact lv_ldc C.1 C.2.1 C.2.2.2.1 (C.2.2.2.2.1 _ a1) d (kk L _ hL ⟨⟨_, rfl, i32_of (by omega) (by omega)⟩, hT⟩)
theorem s_ldcw {k : Nat} {v : Int} (d : decode (codeOf mi) pc = .ok (.ldc_w k, 3)) (hk : intOf (mown mi) k = some v) : St1 G l mi pc ls st h (pc + 3) ls (.inl v :: st) := by
  intro p e R s m args below meth c C H locs cells slots Q L S hR hS hL hT kk
  obtain ⟨a1, a2, a3⟩ := int_in hk
  exact lv_ldcw C.1 C.2.1 C.2.2.2.1 (C.2.2.2.2.1 _ a1) d (kk L _ hL ⟨⟨_, rfl, i32_of (by omega) (by omega)⟩, hT⟩)
theorem s_ldc2 {k : Nat} {v : Int} (d : decode (codeOf mi) pc = .ok (.ldc2_w k, 3)) (hk : lngOf (mown mi) k = some v) : St1 G l mi pc ls st h (pc + 3) ls (.inr (.inl v) :: st) := by
  intro p e R s m args below meth c C H locs cells slots Q L S hR hS hL hT kk
  obtain ⟨a1, a2, a3⟩ := lng_in hk
  refine lv_ldc2 C.1 C.2.1 C.2.2.2.1 (C.2.2.2.2.1 _ a1) d (kk L _ hL ⟨⟨_, rfl, ?_⟩, hT⟩)
  rw [Int64.toInt_ofInt]
  simp only [Int.bmod, Int64.size]
  split <;> omega
theorem s_ldcS {k a : Nat} (d : decode (codeOf mi) pc = .ok (.ldc k, 2)) (hk : strOf (mown mi) k = some a) : St1 G l mi pc ls st h (pc + 2) ls (.inr (.inr a) :: st) := by
  intro p e R s m args below meth c C H locs cells slots Q L S hR hS hL hT kk
  have h1 := lkp_mem hk
  have hc := getD_lt h1
  have hall : ∀ c, c < 9 → ∀ e ∈ lstr.getD c [], c = 5 ∧ e = (52, 4) := by decide +kernel
  obtain ⟨e1, e2⟩ := hall _ hc _ h1
  cases e2
  have ho : s.vm.findClass (cnm (mown mi)) = some m.cls := C.2.2.2.1
  rw [e1] at ho
  exact va_ldcS C.1 C.2.1 ho C.2.2.2.2.2.2.2.2.2.2.1.2.2.2.2.2.1 d (kk L _ hL ⟨rfl, hT⟩)
theorem s_bin {f : Int → Int → Int} {g : Int32 → Int32 → Int32} {x y : Int} {r : List mV} (hfg : ∀ a b : Int32, (g a b).toInt = f a.toInt b.toInt)
    (hw : ∀ (p : Program) (e : Env) (R : Room) (s : State) (m : MethodId) (args : Array Value) (below : List Frame) (meth : Method) (c : Code) (H : Heap) (locs : List Loc) (cells slots : Nat) (Q : State → Prop) (L : Array Slot) (rest : List Value) (a b : Int32), p.tables.exec = Jvm.exec → c.code = codeOf mi →
      W p l e R s m args below meth c H locs cells slots Q (F0 m (pc + 1) L (.int (g a b) :: rest)) → W p l e R s m args below meth c H locs cells slots Q (F0 m pc L (.int b :: .int a :: rest))) : St1 G l mi pc ls (.inl y :: .inl x :: r) h (pc + 1) ls (.inl (f x y) :: r) := by
  intro p e R s m args below meth c C H locs cells slots Q L S hR hS hL hT kk
  obtain ⟨w, q, rfl, ⟨b, rfl, hb⟩, hT1⟩ := RL_cons hT
  obtain ⟨w, q, rfl, ⟨a, rfl, ha⟩, hT2⟩ := RL_cons hT1
  exact hw p e R s m args below meth c H locs cells slots Q L q a b C.1 C.2.1 (kk L _ hL ⟨⟨_, rfl, by rw [hfg, ha, hb]⟩, hT2⟩)
theorem s_binJ {f : Int → Int → Int} {g : Int64 → Int64 → Int64} {x y : Int} {r : List mV} (hfg : ∀ a b : Int64, (g a b).toInt = f a.toInt b.toInt)
    (hw : ∀ (p : Program) (e : Env) (R : Room) (s : State) (m : MethodId) (args : Array Value) (below : List Frame) (meth : Method) (c : Code) (H : Heap) (locs : List Loc) (cells slots : Nat) (Q : State → Prop) (L : Array Slot) (rest : List Value) (a b : Int64), p.tables.exec = Jvm.exec → c.code = codeOf mi →
      W p l e R s m args below meth c H locs cells slots Q (F0 m (pc + 1) L (.long (g a b) :: rest)) → W p l e R s m args below meth c H locs cells slots Q (F0 m pc L (.long b :: .long a :: rest))) : St1 G l mi pc ls (.inr (.inl y) :: .inr (.inl x) :: r) h (pc + 1) ls (.inr (.inl (f x y)) :: r) := by
  intro p e R s m args below meth c C H locs cells slots Q L S hR hS hL hT kk
  obtain ⟨w, q, rfl, ⟨b, rfl, hb⟩, hT1⟩ := RL_cons hT
  obtain ⟨w, q, rfl, ⟨a, rfl, ha⟩, hT2⟩ := RL_cons hT1
  exact hw p e R s m args below meth c H locs cells slots Q L q a b C.1 C.2.1 (kk L _ hL ⟨⟨_, rfl, by rw [hfg, ha, hb]⟩, hT2⟩)
theorem s_idiv {x y : Int} {r : List mV} (d : decode (codeOf mi) pc = .ok (.idiv, 1)) (hy : ¬ y = 0) : St1 G l mi pc ls (.inl y :: .inl x :: r) h (pc + 1) ls (.inl (w32 (x.tdiv y)) :: r) := by
  intro p e R s m args below meth c C H locs cells slots Q L S hR hS hL hT kk
  obtain ⟨w, q, rfl, ⟨b, rfl, hb⟩, hT1⟩ := RL_cons hT
  obtain ⟨w, q, rfl, ⟨a, rfl, ha⟩, hT2⟩ := RL_cons hT1
  exact lv_idiv C.1 C.2.1 d (fun q => hy (by rw [← hb, q]; rfl)) (kk L _ hL ⟨⟨_, rfl, by rw [i32_div, ha, hb]⟩, hT2⟩)
theorem s_irem {x y : Int} {r : List mV} (d : decode (codeOf mi) pc = .ok (.irem, 1)) (hy : ¬ y = 0) : St1 G l mi pc ls (.inl y :: .inl x :: r) h (pc + 1) ls (.inl (x.tmod y) :: r) := by
  intro p e R s m args below meth c C H locs cells slots Q L S hR hS hL hT kk
  obtain ⟨w, q, rfl, ⟨b, rfl, hb⟩, hT1⟩ := RL_cons hT
  obtain ⟨w, q, rfl, ⟨a, rfl, ha⟩, hT2⟩ := RL_cons hT1
  exact lv_irem C.1 C.2.1 d (fun q => hy (by rw [← hb, q]; rfl)) (kk L _ hL ⟨⟨_, rfl, by rw [i32_rem, ha, hb]⟩, hT2⟩)
theorem s_lrem {x y : Int} {r : List mV} (d : decode (codeOf mi) pc = .ok (.lrem, 1)) (hy : ¬ y = 0) : St1 G l mi pc ls (.inr (.inl y) :: .inr (.inl x) :: r) h (pc + 1) ls (.inr (.inl (x.tmod y)) :: r) := by
  intro p e R s m args below meth c C H locs cells slots Q L S hR hS hL hT kk
  obtain ⟨w, q, rfl, ⟨b, rfl, hb⟩, hT1⟩ := RL_cons hT
  obtain ⟨w, q, rfl, ⟨a, rfl, ha⟩, hT2⟩ := RL_cons hT1
  exact lv_lrem C.1 C.2.1 d (fun q => hy (by rw [← hb, q]; rfl)) (kk L _ hL ⟨⟨_, rfl, by rw [i64_rem, ha, hb]⟩, hT2⟩)
theorem s_lcmp {x y : Int} {r : List mV} (d : decode (codeOf mi) pc = .ok (.lcmp, 1)) : St1 G l mi pc ls (.inr (.inl y) :: .inr (.inl x) :: r) h (pc + 1) ls (.inl (icmp x y) :: r) := by
  intro p e R s m args below meth c C H locs cells slots Q L S hR hS hL hT kk
  obtain ⟨w, q, rfl, ⟨b, rfl, hb⟩, hT1⟩ := RL_cons hT
  obtain ⟨w, q, rfl, ⟨a, rfl, ha⟩, hT2⟩ := RL_cons hT1
  refine W.lcmp C.1 C.2.1 d (kk L _ hL ⟨⟨_, rfl, ?_⟩, hT2⟩)
  unfold icmp lg_cmp
  simp only [gt_iff_lt, Int64.lt_iff_toInt_lt, ← Int64.toInt_inj, ha, hb]
  split
  · rfl
  · split <;> rfl
theorem s_i2l {x : Int} {r : List mV} (d : decode (codeOf mi) pc = .ok (.i2l, 1)) : St1 G l mi pc ls (.inl x :: r) h (pc + 1) ls (.inr (.inl x) :: r) := by
  intro p e R s m args below meth c C H locs cells slots Q L S hR hS hL hT kk
  obtain ⟨w, q, rfl, ⟨a, rfl, ha⟩, hT1⟩ := RL_cons hT
  exact lv_i2l C.1 C.2.1 d rfl (kk L _ hL ⟨⟨_, rfl, by rw [i32_i64, ha]⟩, hT1⟩)
theorem s_l2i {x : Int} {r : List mV} (d : decode (codeOf mi) pc = .ok (.l2i, 1)) : St1 G l mi pc ls (.inr (.inl x) :: r) h (pc + 1) ls (.inl (w32 x) :: r) := by
  intro p e R s m args below meth c C H locs cells slots Q L S hR hS hL hT kk
  obtain ⟨w, q, rfl, ⟨a, rfl, ha⟩, hT1⟩ := RL_cons hT
  exact lv_l2i C.1 C.2.1 d rfl (kk L _ hL ⟨⟨_, rfl, by rw [i64_i32, ha]⟩, hT1⟩)
theorem s_i2b {x : Int} {r : List mV} (d : decode (codeOf mi) pc = .ok (.i2b, 1)) : St1 G l mi pc ls (.inl x :: r) h (pc + 1) ls (.inl (w8 x) :: r) := by
  intro p e R s m args below meth c C H locs cells slots Q L S hR hS hL hT kk
  obtain ⟨w, q, rfl, ⟨a, rfl, ha⟩, hT1⟩ := RL_cons hT
  exact lv_i2b C.1 C.2.1 d rfl (kk L _ hL ⟨⟨_, rfl, by rw [i32_i8, ha]⟩, hT1⟩)
theorem s_dup {v : mV} {r : List mV} (d : decode (codeOf mi) pc = .ok (.dup, 1)) (hv : catV v = 1) : St1 G l mi pc ls (v :: r) h (pc + 1) ls (v :: v :: r) := by
  intro p e R s m args below meth c C H locs cells slots Q L S hR hS hL hT kk
  obtain ⟨w, q, rfl, hw, hT1⟩ := RL_cons hT
  exact lv_dup C.1 C.2.1 d (by rw [RV_cat hw, hv]) (kk L _ hL ⟨hw, hw, hT1⟩)
theorem s_dup2 {v u : mV} {r : List mV} (d : decode (codeOf mi) pc = .ok (.dup2, 1)) (hv : catV v = 1) (hu : catV u = 1) : St1 G l mi pc ls (v :: u :: r) h (pc + 1) ls (v :: u :: v :: u :: r) := by
  intro p e R s m args below meth c C H locs cells slots Q L S hR hS hL hT kk
  obtain ⟨w, q, rfl, hw, hT1⟩ := RL_cons hT
  obtain ⟨w', q, rfl, hw', hT2⟩ := RL_cons hT1
  exact lv_dup2_11 C.1 C.2.1 d (by rw [RV_cat hw, hv]) (by rw [RV_cat hw', hu]) (kk L _ hL ⟨hw, hw', hw, hw', hT2⟩)
theorem s_pop {v : mV} {r : List mV} (d : decode (codeOf mi) pc = .ok (.pop, 1)) (hv : catV v = 1) : St1 G l mi pc ls (v :: r) h (pc + 1) ls r := by
  intro p e R s m args below meth c C H locs cells slots Q L S hR hS hL hT kk
  obtain ⟨w, q, rfl, hw, hT1⟩ := RL_cons hT
  exact lv_pop C.1 C.2.1 d (by rw [RV_cat hw, hv]) (kk L _ hL hT1)
end Steps
end
section
/-! branches and the heap -/
theorem drawn_in : Cond.fieldLink (cnm 5) 245 "TypedBlocks" "DRAWN" "[I" ∈ gtbl := wAt_in (ps := [859]) (ws := [Cond.fieldLink (cnm 5) 245 "TypedBlocks" "DRAWN" "[I"]) (by decide +kernel) (by decide +kernel) List.mem_cons_self
section Steps
variable {G : mG} {l : Launch} {mi pc : Nat} {ls ls' : mL} {st : List mV} {h : mH}
theorem tgt_of {off : Int} {t : Nat} (ht : tgt pc off = some t) : (pc : Int) + off = (t : Int) := by
  unfold tgt at ht
  split at ht
  · have := Option.some.inj ht
    omega
  · cases ht
theorem s_goto {off : Int} {t : Nat} (d : decode (codeOf mi) pc = .ok (.goto off, 3)) (ht : tgt pc off = some t) : St1 G l mi pc ls st h t ls st := by
  intro p e R s m args below meth c C H locs cells slots Q L S hR hS hL hT kk
  exact lv_goto C.1 C.2.1 d (tgt_of ht) (kk L _ hL hT)
theorem s_if {cd : Jvm.ClassFile.Cond} {off : Int} {x : Int} {t : Nat} {r : List mV} (d : decode (codeOf mi) pc = .ok (.ifCond cd off, 3)) (ht : tgt pc off = some t) : St1 G l mi pc ls (.inl x :: r) h (if cnd cd x 0 = true then t else pc + 3) ls r := by
  intro p e R s m args below meth c C H locs cells slots Q L S hR hS hL hT kk
  obtain ⟨w, S1, rfl, ⟨a, rfl, ha⟩, hT1⟩ := RL_cons hT
  have z : (0 : Int32).toInt = 0 := rfl
  have k := kk L S1 hL hT1
  have yes : cnd cd x 0 = true → W p l e R s m args below meth c H locs cells slots Q (F0 m t L S1) := fun c => by rw [if_pos c] at k; exact k
  have no : ¬ cnd cd x 0 = true → W p l e R s m args below meth c H locs cells slots Q (F0 m (pc + 3) L S1) := fun c => by rw [if_neg c] at k; exact k
  clear k kk
  subst ha
  cases cd <;> simp only [cnd, decide_eq_true_eq] at yes no
  · exact lv_if_eq C.1 C.2.1 d (tgt_of ht) (fun q => yes (by rw [q]; rfl)) (fun q => no (fun q2 => q (by rw [i32_eq, z]; exact q2)))
  · exact lv_if_ne C.1 C.2.1 d (tgt_of ht) (fun q => yes (fun q2 => q (by rw [i32_eq, z]; exact q2))) (fun q => no (fun q2 => q2 (by rw [q]; rfl)))
  · exact lv_if_lt C.1 C.2.1 d (tgt_of ht) (fun q => yes (by rw [Int32.lt_iff_toInt_lt, z] at q; exact q)) (fun q => no (by rw [Int32.lt_iff_toInt_lt, z] at q; exact q))
  · exact lv_if_ge C.1 C.2.1 d (tgt_of ht) (fun q => yes (by rw [Int32.le_iff_toInt_le, z] at q; exact q)) (fun q => no (by rw [Int32.le_iff_toInt_le, z] at q; exact q))
  · exact lv_if_gt C.1 C.2.1 d (tgt_of ht) (fun q => yes (by rw [Int32.lt_iff_toInt_lt, z] at q; exact q)) (fun q => no (by rw [Int32.lt_iff_toInt_lt, z] at q; exact q))
  · exact lv_if_le C.1 C.2.1 d (tgt_of ht) (fun q => yes (by rw [Int32.le_iff_toInt_le, z] at q; exact q)) (fun q => no (by rw [Int32.le_iff_toInt_le, z] at q; exact q))
theorem s_icmp {cd : Jvm.ClassFile.Cond} {off : Int} {x y : Int} {t : Nat} {r : List mV} (d : decode (codeOf mi) pc = .ok (.if_icmp cd off, 3)) (ht : tgt pc off = some t) : St1 G l mi pc ls (.inl y :: .inl x :: r) h (if cnd cd x y = true then t else pc + 3) ls r := by
  intro p e R s m args below meth c C H locs cells slots Q L S hR hS hL hT kk
  obtain ⟨w, S1, rfl, ⟨b, rfl, hb⟩, hT1⟩ := RL_cons hT
  obtain ⟨w, S2, rfl, ⟨a, rfl, ha⟩, hT2⟩ := RL_cons hT1
  have k := kk L S2 hL hT2
  have yes : cnd cd x y = true → W p l e R s m args below meth c H locs cells slots Q (F0 m t L S2) := fun c => by rw [if_pos c] at k; exact k
  have no : ¬ cnd cd x y = true → W p l e R s m args below meth c H locs cells slots Q (F0 m (pc + 3) L S2) := fun c => by rw [if_neg c] at k; exact k
  clear k kk
  subst ha
  subst hb
  cases cd <;> simp only [cnd, decide_eq_true_eq] at yes no
  · exact lv_icmp_eq C.1 C.2.1 d (tgt_of ht) (fun q => yes (by rw [q])) (fun q => no (fun q2 => q (by rw [i32_eq]; exact q2)))
  · exact lv_icmp_ne C.1 C.2.1 d (tgt_of ht) (fun q => yes (fun q2 => q (by rw [i32_eq]; exact q2))) (fun q => no (fun q2 => q2 (by rw [q])))
  · exact lv_icmp_lt C.1 C.2.1 d (tgt_of ht) (fun q => yes (by rw [Int32.lt_iff_toInt_lt] at q; exact q)) (fun q => no (by rw [Int32.lt_iff_toInt_lt] at q; exact q))
  · exact lv_icmp_ge C.1 C.2.1 d (tgt_of ht) (fun q => yes (by rw [Int32.le_iff_toInt_le] at q; exact q)) (fun q => no (by rw [Int32.le_iff_toInt_le] at q; exact q))
  · exact lv_icmp_gt C.1 C.2.1 d (tgt_of ht) (fun q => yes (by rw [Int32.lt_iff_toInt_lt] at q; exact q)) (fun q => no (by rw [Int32.lt_iff_toInt_lt] at q; exact q))
  · exact lv_icmp_le C.1 C.2.1 d (tgt_of ht) (fun q => yes (by rw [Int32.le_iff_toInt_le] at q; exact q)) (fun q => no (by rw [Int32.le_iff_toInt_le] at q; exact q))
theorem s_ifnull {off : Int} {a t : Nat} {r : List mV} (d : decode (codeOf mi) pc = .ok (.ifnull off, 3)) (ht : tgt pc off = some t) : St1 G l mi pc ls (.inr (.inr a) :: r) h (if decide (a = 0) = true then t else pc + 3) ls r := by
  intro p e R s m args below meth c C H locs cells slots Q L S hR hS hL hT kk
  obtain ⟨w, S1, rfl, hw, hT1⟩ := RL_cons hT
  have k := kk L S1 hL hT1
  by_cases h0 : a = 0
  · have e : w = .null := by rw [RV_ref hw, if_pos h0]
    subst e
    rw [if_pos (by simp [h0])] at k
    exact lv_ifnullN C.1 C.2.1 d (tgt_of ht) k
  · have e := RV_ref1 hw h0
    subst e
    rw [if_neg (by simp [h0])] at k
    exact lv_ifnull C.1 C.2.1 d k
theorem s_ifnonnull {off : Int} {a t : Nat} {r : List mV} (d : decode (codeOf mi) pc = .ok (.ifnonnull off, 3)) (ht : tgt pc off = some t) : St1 G l mi pc ls (.inr (.inr a) :: r) h (if decide (a ≠ 0) = true then t else pc + 3) ls r := by
  intro p e R s m args below meth c C H locs cells slots Q L S hR hS hL hT kk
  obtain ⟨w, S1, rfl, hw, hT1⟩ := RL_cons hT
  have k := kk L S1 hL hT1
  by_cases h0 : a = 0
  · have e : w = .null := by rw [RV_ref hw, if_pos h0]
    subst e
    rw [if_neg (by simp [h0])] at k
    exact lv_ifnonnullN C.1 C.2.1 d k
  · have e := RV_ref1 hw h0
    subst e
    rw [if_pos (by simp [h0])] at k
    exact lv_ifnonnull C.1 C.2.1 d (tgt_of ht) k
theorem s_tab {dd lo hi : Int} {offs : Array Int} {len : Nat} {x : Int} {t : Nat} {r : List mV} (d : decode (codeOf mi) pc = .ok (.tableswitch dd lo hi offs, len))
    (ht : (if x < lo ∨ hi < x then tgt pc dd else (offs[(x - lo).toNat]?).bind (fun o => tgt pc o)) = some t) : St1 G l mi pc ls (.inl x :: r) h t ls r := by
  intro p e R s m args below meth c C H locs cells slots Q L S hR hS hL hT kk
  obtain ⟨w, S1, rfl, ⟨a, rfl, ha⟩, hT1⟩ := RL_cons hT
  subst ha
  split at ht
  · rename_i h1
    exact lv_tableOut C.1 C.2.1 d h1 (tgt_of ht) (kk L S1 hL hT1)
  · rename_i h1
    obtain ⟨o, ho, ht⟩ := Option.bind_eq_some_iff.mp ht
    exact lv_tableIn C.1 C.2.1 d (fun q => h1 (Or.inl q)) (fun q => h1 (Or.inr q)) ho (tgt_of ht) (kk L S1 hL hT1)
theorem s_look {dd : Int} {ps : Array (Int × Int)} {len : Nat} {x : Int} {t : Nat} {r : List mV} (d : decode (codeOf mi) pc = .ok (.lookupswitch dd ps, len)) (hp : (ps.toList.zip (ps.toList.drop 1)).all (fun (a, next) => a.1 < next.1) = true)
    (ht : tgt pc (Op.lookupswitch.offset ps.toList dd x) = some t) : St1 G l mi pc ls (.inl x :: r) h t ls r := by
  intro p e R s m args below meth c C H locs cells slots Q L S hR hS hL hT kk
  obtain ⟨w, S1, rfl, ⟨a, rfl, ha⟩, hT1⟩ := RL_cons hT
  subst ha
  exact lv_lookup C.1 C.2.1 d hp rfl (tgt_of ht) (kk L S1 hL hT1)
/-! reading the heap -/
theorem cl_at {ci : Nat} (h : ci < 7) : vwCl[ci]? = some (cnm ci, TXs ci, nfld ci) := by
  match ci, h with
  | 0, _ => rfl
  | 1, _ => rfl
  | 2, _ => rfl
  | 3, _ => rfl
  | 4, _ => rfl
  | 5, _ => rfl
  | 6, _ => rfl
theorem gfd_of {ci k a : Nat} {x : Int} (e : gfd ci k h a = some x) : ∃ n, h.1[a]? = some (ci, n) ∧ k < n ∧ a ≠ 0 ∧ h.2 a k = x := by
  unfold gfd at e
  split at e
  · rename_i q hq
    split at e
    · rename_i hc
      obtain ⟨c1, c2, c3⟩ := hc
      refine ⟨q.2, by rw [hq, ← c1], c2, c3, Option.some.inj e⟩
    · cases e
  · cases e
theorem s_getf {k ci j ty a : Nat} {x : Int} {r : List mV} (d : decode (codeOf mi) pc = .ok (.getfield k, 3)) (hk : fldOf (mown mi) k = some (ci, j, ty)) (hx : gfd ci j h a = some x) :
    St1 G l mi pc ls (.inr (.inr a) :: r) h (pc + 3) ls ((if ty = 2 then .inr (.inr x.toNat) else .inl x) :: r) := by
  intro p e R s m args below meth c C H locs cells slots Q L S hR hS hL hT kk
  obtain ⟨n, h1, h2, h3, rfl⟩ := gfd_of hx
  obtain ⟨f1, f2, f3, f4, f5⟩ := fld_in hk
  obtain ⟨w, S1, rfl, hw, hT1⟩ := RL_cons hT
  have ew := RV_ref1 hw h3
  subst ew
  obtain ⟨cell, hcell, hrc⟩ := hR.2.2.2 a _ (by omega) h1
  rcases hrc with ⟨_, hn, hcls, hvm, hsl⟩ | ⟨q, _⟩ | q
  · obtain ⟨v, hv1, hv2⟩ := hsl j h2
    obtain ⟨hS2, hfc, kC, hkC, hkind⟩ := C.2.2.2.2.2.2.2.2.2.1.1 ci _ (cl_at f2)
    obtain ⟨cf, kf, fi, f, hi, hslot⟩ := hS2 j f3
    have hts := C.2.2.2.2.1
    have hst := (u_facts hfc hkC (u_lays hts (lay_in f2) f3) hi).1
    simp only [f5] at hi
    refine W.getf C.1 C.2.1 C.2.2.2.1 (hts _ f1) hi hst hcell (by rw [hvm]; exact fun h => by cases h) (v := v) (by rw [hslot]; exact hv1) rfl rfl d (kk L _ hL ⟨?_, hT1⟩)
    have et : ty = tyf ci j := f4
    unfold RS at hv2
    rw [← et] at hv2
    split at hv2
    · rename_i h7; rw [if_pos h7]; exact hv2.2
    · rename_i h7; rw [if_neg h7]; exact hv2
  · omega
  · omega
theorem ald_of {kd a : Nat} {j x : Int} (e : ald kd h a j = some x) : ∃ n, h.1[a]? = some (kd, n) ∧ 0 ≤ j ∧ j < (n : Int) ∧ a ≠ 0 ∧ h.2 a j.toNat = x := by
  unfold ald at e
  split at e
  · rename_i q hq
    split at e
    · rename_i hc
      obtain ⟨c1, c2, c3, c4⟩ := hc
      exact ⟨q.2, by rw [hq, ← c1], c2, c3, c4, Option.some.inj e⟩
    · cases e
  · cases e
theorem bld_of {a : Nat} {j x : Int} (e : bld h a j = some x) : ∃ kd n, h.1[a]? = some (kd, n) ∧ (kd = 11 ∨ kd = 12) ∧ 0 ≤ j ∧ j < (n : Int) ∧ a ≠ 0 ∧ h.2 a j.toNat = x := by
  unfold bld at e
  split at e
  · rename_i q hq
    split at e
    · rename_i hc
      obtain ⟨c1, c2, c3, c4⟩ := hc
      exact ⟨q.1, q.2, hq, c1, c2, c3, c4, Option.some.inj e⟩
    · cases e
  · cases e
theorem arr_of {s : State} {H : Heap} {a kd n : Nat} (hR : Rep G s h H) (h1 : h.1[a]? = some (kd, n)) (h0 : a ≠ 0) (hk : 10 ≤ kd) (hk2 : kd ≤ 13) :
    ∃ cell, H[rho G a]? = some cell ∧ s.isArrayOf cell (tyA kd) ∧ cell.vm ≠ .unknown ∧ cell.slots.size = n ∧ n < 1000000 ∧ ∀ j, j < n → ∃ w, cell.slots[j]? = some w ∧ RS G (if kd = 13 then 2 else 0) (h.2 a j) w := by
  obtain ⟨cell, hcell, hrc⟩ := hR.2.2.2 a _ (by omega) h1
  rcases hrc with ⟨q, _⟩ | ⟨_, _, q3, q4, q5, q6, q7⟩ | q
  · omega
  · exact ⟨cell, hcell, q4, q5, q6, q3, q7⟩
  · omega
theorem inb {a : Int32} {n : Nat} (h1 : 0 ≤ a.toInt) (h2 : a.toInt < (n : Int)) : ¬ (a < 0 ∨ n ≤ a.toNatClampNeg) := by
  intro q
  rcases q with q | q
  · rw [Int32.lt_iff_toInt_lt] at q
    have z : (0 : Int32).toInt = 0 := rfl
    omega
  · rw [i32_cl] at q
    omega
theorem s_iald {a : Nat} {j x : Int} {r : List mV} (d : decode (codeOf mi) pc = .ok (.iaload, 1)) (hx : ald 10 h a j = some x) : St1 G l mi pc ls (.inl j :: .inr (.inr a) :: r) h (pc + 1) ls (.inl x :: r) := by
  intro p e R s m args below meth c C H locs cells slots Q L S hR hS hL hT kk
  obtain ⟨n, h1, h2, h3, h4, rfl⟩ := ald_of hx
  obtain ⟨w, S1, rfl, ⟨b, rfl, rfl⟩, hT1⟩ := RL_cons hT
  obtain ⟨w, S2, rfl, hw, hT2⟩ := RL_cons hT1
  have ew := RV_ref1 hw h4
  subst ew
  obtain ⟨cell, c1, c2, c3, c4, c5, c6⟩ := arr_of hR h1 h4 (by omega) (by omega)
  obtain ⟨v, v1, v2⟩ := c6 b.toInt.toNat (by omega)
  exact W.iald C.1 C.2.1 c1 c2 c3 (by rw [c4]; exact inb h2 h3) (v := v) (by rw [i32_cl]; exact v1) rfl rfl d (kk L _ hL ⟨v2, hT2⟩)
theorem s_bald {a : Nat} {j x : Int} {r : List mV} (d : decode (codeOf mi) pc = .ok (.baload, 1)) (hx : bld h a j = some x) : St1 G l mi pc ls (.inl j :: .inr (.inr a) :: r) h (pc + 1) ls (.inl x :: r) := by
  intro p e R s m args below meth c C H locs cells slots Q L S hR hS hL hT kk
  obtain ⟨kd, n, h1, hkd, h2, h3, h4, rfl⟩ := bld_of hx
  obtain ⟨w, S1, rfl, ⟨b, rfl, rfl⟩, hT1⟩ := RL_cons hT
  obtain ⟨w, S2, rfl, hw, hT2⟩ := RL_cons hT1
  have ew := RV_ref1 hw h4
  subst ew
  obtain ⟨cell, c1, c2, c3, c4, c5, c6⟩ := arr_of hR h1 h4 (by omega) (by omega)
  obtain ⟨v, v1, v2⟩ := c6 b.toInt.toNat (by omega)
  rcases hkd with rfl | rfl
  · exact W.bald C.1 C.2.1 c1 c2 c3 (by rw [c4]; exact inb h2 h3) (v := v) (by rw [i32_cl]; exact v1) rfl rfl d (kk L _ hL ⟨v2, hT2⟩)
  · exact W.zald C.1 C.2.1 c1 c2 c3 (by rw [c4]; exact inb h2 h3) (v := v) (by rw [i32_cl]; exact v1) rfl rfl d (kk L _ hL ⟨v2, hT2⟩)
theorem s_aald {a : Nat} {j x : Int} {r : List mV} (d : decode (codeOf mi) pc = .ok (.aaload, 1)) (hx : ald 13 h a j = some x) : St1 G l mi pc ls (.inl j :: .inr (.inr a) :: r) h (pc + 1) ls (.inr (.inr x.toNat) :: r) := by
  intro p e R s m args below meth c C H locs cells slots Q L S hR hS hL hT kk
  obtain ⟨n, h1, h2, h3, h4, rfl⟩ := ald_of hx
  obtain ⟨w, S1, rfl, ⟨b, rfl, rfl⟩, hT1⟩ := RL_cons hT
  obtain ⟨w, S2, rfl, hw, hT2⟩ := RL_cons hT1
  have ew := RV_ref1 hw h4
  subst ew
  obtain ⟨cell, c1, c2, c3, c4, c5, c6⟩ := arr_of hR h1 h4 (by omega) (by omega)
  obtain ⟨v, v1, v2⟩ := c6 b.toInt.toNat (by omega)
  exact W.aald C.1 C.2.1 c1 c2 rfl c3 (by rw [c4]; exact inb h2 h3) (v := v) (by rw [i32_cl]; exact v1) rfl rfl d (kk L _ hL ⟨v2.2, hT2⟩)
theorem aln_of {a : Nat} {x : Int} (e : aln h a = some x) : ∃ kd n, h.1[a]? = some (kd, n) ∧ 10 ≤ kd ∧ kd ≤ 13 ∧ n < 1000000 ∧ a ≠ 0 ∧ x = (n : Int) := by
  unfold aln at e
  split at e
  · rename_i q hq
    split at e
    · rename_i hc
      obtain ⟨c1, c2, c3, c4⟩ := hc
      exact ⟨q.1, q.2, hq, c1, c2, c3, c4, (Option.some.inj e).symm⟩
    · cases e
  · cases e
theorem s_alen {a : Nat} {x : Int} {r : List mV} (d : decode (codeOf mi) pc = .ok (.arraylength, 1)) (hx : aln h a = some x) : St1 G l mi pc ls (.inr (.inr a) :: r) h (pc + 1) ls (.inl x :: r) := by
  intro p e R s m args below meth c C H locs cells slots Q L S hR hS hL hT kk
  obtain ⟨kd, n, h1, h2, h3, h4, h5, rfl⟩ := aln_of hx
  obtain ⟨w, S1, rfl, hw, hT1⟩ := RL_cons hT
  have ew := RV_ref1 hw h5
  subst ew
  obtain ⟨cell, c1, c2, c3, c4, c5, c6⟩ := arr_of hR h1 h5 h2 h3
  refine W.alen (n := Int32.ofNat n) C.1 C.2.1 c1 c2 (by rw [c4]) rfl rfl d (kk L _ hL ⟨⟨_, rfl, ?_⟩, hT1⟩)
  have := i32_of (n := (n : Int)) (by omega) (by omega)
  exact this
theorem s_gets {k a : Nat} (d : decode (codeOf mi) pc = .ok (.getstatic k, 3)) (hk : staOf (mown mi) k = some a) : St1 G l mi pc ls st h (pc + 3) ls (.inr (.inr a) :: st) := by
  intro p e R s m args below meth c C H locs cells slots Q L S hR hS hL hT kk
  have h1 := lkp_mem hk
  have hc := getD_lt h1
  have hall : ∀ c, c < 9 → ∀ e ∈ lsta.getD c [], (c = 2 ∧ e = (72, 2)) ∨ (c = 5 ∧ e = (245, 3)) := by decide +kernel
  obtain ⟨n1, n2, n3, n4, -⟩ := C.2.2.2.2.2.2.2.2.2.2.1
  have ho : s.vm.findClass (cnm (mown mi)) = some m.cls := C.2.2.2.1
  rcases hall _ hc _ h1 with ⟨e1, e2⟩ | ⟨e1, e2⟩
  · cases e2
    rw [e1] at ho
    exact va_getsN C.1 C.2.1 n3 hS ho (n2.use rfl) (fun _ q => q) d (kk L _ hL ⟨rfl, hT⟩)
  · cases e2
    rw [e1] at ho
    have hl : Cond.fieldLink (cnm 5) 245 "TypedBlocks" "DRAWN" "[I" ∈ gtbl := drawn_in
    exact va_gets C.1 C.2.1 n4 hS ho (C.2.2.2.2.1 _ hl) (fun _ q => q) d (kk L _ hL ⟨rfl, hT⟩)
end Steps
end
section
/-! writing the heap -/
theorem rho_inj {G : mG} {a k : Nat} (ha : 6 ≤ a) (hk : 1 ≤ k) (hb : ∀ k, 1 ≤ k → k < 6 → G.2.1 k < G.1) (hne : k ≠ a) : rho G k ≠ rho G a := by
  unfold rho
  rw [if_neg (by omega : ¬ a < 6)]
  split
  · rename_i h6
    have := hb k hk h6
    omega
  · omega
theorem rho_AA {G : mG} {a : Nat} (ha : 6 ≤ a) : AA G (rho G a) := by
  unfold rho AA
  rw [if_neg (by omega : ¬ a < 6)]
  omega
theorem mw_1 (h : mH) (a j : Nat) (v : Int) : (mw h a j v).1 = h.1 := rfl
theorem mw_ne (h : mH) {a k : Nat} (j : Nat) (v : Int) (hne : k ≠ a) : (mw h a j v).2 k = h.2 k := by
  funext i
  simp [mw, hne]
theorem mw_at (h : mH) (a j i : Nat) (v : Int) : (mw h a j v).2 a i = if i = j then v else h.2 a i := by
  simp [mw]
/-- one cell of the heap changes -/
theorem Rep_set {G : mG} {s : State} {h h1 : mH} {H H1 : Heap} {a kd n : Nat} {cell : Cell} (hR : Rep G s h H) (ha : 6 ≤ a) (e1 : h1.1 = h.1) (e2 : ∀ k, k ≠ a → h1.2 k = h.2 k) (hq : h.1[a]? = some (kd, n)) (hz : H1.size = H.size) (ho : ∀ q, q ≠ rho G a → H1[q]? = H[q]?) (hc : H1[rho G a]? = some cell) (hrc : RC G s kd n (h1.2 a) cell) : Rep G s h1 H1 := by
  obtain ⟨r1, r2, r3, r4⟩ := hR
  refine ⟨by rw [hz, e1]; exact r1, by rw [e1]; exact r2, r3, fun k q hk hkq => ?_⟩
  rw [e1] at hkq
  by_cases hka : k = a
  · subst hka
    cases hq.symm.trans hkq
    exact ⟨cell, hc, hrc⟩
  · obtain ⟨cl, h5, h6⟩ := r4 k q hk hkq
    exact ⟨cl, by rw [ho _ (rho_inj ha hk r3 hka)]; exact h5, by rw [e2 k hka]; exact h6⟩
theorem set_slot {cell : Cell} {j i : Nat} {v : Value} (hj : j < cell.slots.size) : (cell.setSlot j v).slots[i]? = if i = j then some v else cell.slots[i]? := by
  simp only [Cell.setSlot]
  by_cases e : i = j
  · subst e
    simp [hj]
  · rw [if_neg e, Array.getElem?_setIfInBounds_ne (Ne.symm e)]
section Steps
variable {G : mG} {l : Launch} {mi pc : Nat} {ls ls' : mL} {st : List mV} {h : mH}
/-- a step that changes the memory, but makes nothing -/
def St2 (G : mG) (l : Launch) (mi pc : Nat) (ls : mL) (st : List mV) (h : mH) (pc' : Nat) (ls' : mL) (st' : List mV) (h1 : mH) : Prop :=
  h1.1 = h.1 ∧ ∀ (p : Program) (e : Env) (R : Room) (s : State) (m : MethodId) (args : Array Value) (below : List Frame) (meth : Method) (c : Code), CX G mi p R s m args meth c →
  ∀ (H : Heap) (locs : List Loc) (cells slots : Nat) (Q : State → Prop) (L : Array Slot) (S : List Value), Rep G s h H → va_S (AA G) s.heap H locs → LR G (mmax mi) ls L → RL G st S →
  (∀ (H' : Heap) (locs' : List Loc) (L' : Array Slot) (S' : List Value), Rep G s h1 H' → va_S (AA G) s.heap H' locs' → LR G (mmax mi) ls' L' → RL G st' S' → W p l e R s m args below meth c H' locs' cells slots Q (F0 m pc' L' S')) →
  W p l e R s m args below meth c H locs cells slots Q (F0 m pc L S)
theorem msz_eq {h h1 : mH} (e : h1.1 = h.1) : msz h1 = msz h := by unfold msz; rw [e]
theorem St2.nx {pc' : Nat} {st' : List mV} {h1 : mH} (H1 : St2 G l mi pc ls st h pc' ls' st' h1) : Nx G l mi pc ls st h pc' ls' st' h1 := by
  obtain ⟨e1, H1⟩ := H1
  refine ⟨by rw [e1]; exact List.prefix_refl _, fun v h' hp hs => ?_⟩
  intro p e R s m args below meth c C H locs cells slots Q L S hR hS hL hT hc hsl ret
  refine H1 p e R s m args below meth c C H locs cells slots Q L S hR hS hL hT (fun H' locs' L' S' hR' hS' hL' hT' => hs p e R s m args below meth c C H' locs' cells slots Q L' S' hR' hS' hL' hT' (by rw [e1]; exact hc) (by rw [msz_eq e1]; exact hsl) (fun a1 a2 a3 a4 a5 a6 a7 a8 a9 => ?_))
  rw [e1, msz_eq e1]
  exact ret a1 a2 a3 a4 a5 a6 a7 a8 a9
theorem pfd_of {ci k a : Nat} {v : Int} {h1 : mH} (e : pfd ci k h a v = some h1) : ∃ n, h.1[a]? = some (ci, n) ∧ k < n ∧ 6 ≤ a ∧ h1 = mw h a k v := by
  unfold pfd at e
  split at e
  · rename_i q hq
    split at e
    · rename_i hc
      obtain ⟨c1, c2, c3⟩ := hc
      exact ⟨q.2, by rw [hq, ← c1], c2, c3, (Option.some.inj e).symm⟩
    · cases e
  · cases e
theorem ty_in {ci j : Nat} (h1 : ci < 7) (h2 : j < nfld ci) : parseFieldDescriptor (TXs ci j).2.2.1 = some (tyD ci j) ∧ (if tyf ci j = 2 then (tyD ci j).isReference = true else if tyf ci j = 1 then tyD ci j = .boolean else tyD ci j = .int) := by
  have h3 := List.all_eq_true.mp (List.all_eq_true.mp ty_chk ci (List.mem_range.mpr h1)) j (List.mem_range.mpr h2)
  simp only [Bool.and_eq_true, decide_eq_true_eq] at h3
  refine ⟨h3.1, ?_⟩
  have h4 := h3.2
  split at h4
  · rename_i e; rw [if_pos e]; exact h4
  · rename_i e
    rw [if_neg e]
    split at h4
    · rename_i e2; rw [if_pos e2]; exact of_decide_eq_true h4
    · rename_i e2; rw [if_neg e2]; exact of_decide_eq_true h4
/-- a value of a field's type fits -/
theorem fit_in {ty : FieldType} {tc : Nat} {x : Int} {w : Value} (hty : if tc = 2 then ty.isReference = true else if tc = 1 then ty = .boolean else ty = .int) (hw : RS G tc x w) (hb : tc = 1 → x = 0 ∨ x = 1) : narrow ty w = w ∧ fits ty w = true := by
  unfold RS at hw
  split at hty
  · rename_i e
    rw [if_pos e] at hw
    have h2 := RV_ref hw.2
    have : w = .null ∨ ∃ a, w = .ref a := by
      rw [h2]
      split
      · exact Or.inl rfl
      · exact Or.inr ⟨_, rfl⟩
    cases ty <;> simp [FieldType.isReference] at hty <;> rcases this with e | ⟨a, e⟩ <;> subst e <;> exact ⟨rfl, rfl⟩
  · rename_i e
    rw [if_neg e] at hw
    obtain ⟨a, rfl, ha⟩ := RV_int hw
    split at hty
    · rename_i e2
      subst hty
      rcases hb e2 with z | z
      · have : a = 0 := by rw [i32_eq, ha, z]; rfl
        subst this
        exact ⟨by decide, by decide⟩
      · have : a = 1 := by rw [i32_eq, ha, z]; rfl
        subst this
        exact ⟨by decide, by decide⟩
    · subst hty
      exact ⟨rfl, rfl⟩
theorem nam_in {ci i j : Nat} (h1 : ci < 7) (hi : i < nfld ci) (hj : j < nfld ci) (hne : i ≠ j) : (TXs ci i).2.1 ≠ (TXs ci j).2.1 := by
  have h3 := List.all_eq_true.mp (List.all_eq_true.mp (List.all_eq_true.mp nam_chk ci (List.mem_range.mpr h1)) j (List.mem_range.mpr hj)) i (List.mem_range.mpr hi)
  simp only [Bool.or_eq_true, decide_eq_true_eq] at h3
  exact h3.resolve_left hne
/-- final fields are set in constructors of their own class alone -/
def finOk (mi ci j : Nat) : Prop := (TXs ci j).2.2.2 = false ∨ ((TXs ci j).2.2.2 = true ∧ (mname mi).name = "<init>" ∧ mown mi = ci)
theorem fin_chk : (List.range 7).all (fun c => (List.range (nfld c)).all (fun j => decide ((TXs c j).2.2.2 = (ffin.getD c []).getD j false))) = true := by decide +kernel
theorem ini_chk : minit.all (fun m => decide ((mname m).name = "<init>")) = true := by decide +kernel
theorem fin_in {ci j : Nat} (h1 : ci < 7) (h2 : j < nfld ci) (hf : finB mi ci j = true) : finOk mi ci j := by
  have h3 := List.all_eq_true.mp (List.all_eq_true.mp fin_chk ci (List.mem_range.mpr h1)) j (List.mem_range.mpr h2)
  simp only [decide_eq_true_eq] at h3
  unfold finB at hf
  unfold finOk
  rw [h3]
  cases hb : (ffin.getD ci []).getD j false with
  | false => exact Or.inl rfl
  | true =>
    rw [hb] at hf
    simp only [Bool.not_true, Bool.false_or, Bool.and_eq_true, List.contains_iff_mem, decide_eq_true_eq] at hf
    have h4 := List.all_eq_true.mp ini_chk mi hf.1
    simp only [decide_eq_true_eq] at h4
    exact Or.inr ⟨rfl, h4, hf.2⟩
theorem s_putf {k ci j ty a : Nat} {x : Int} {v : mV} {r : List mV} {h1 : mH} (d : decode (codeOf mi) pc = .ok (.putfield k, 3)) (hk : fldOf (mown mi) k = some (ci, j, ty)) (hx : pfd ci j h a x = some h1)
    (hv : ∀ w, RV G v w → RS G ty x w) (hb : ty = 1 → x = 0 ∨ x = 1) (hfb : finB mi ci j = true) : St2 G l mi pc ls (v :: .inr (.inr a) :: r) h (pc + 3) ls r h1 := by
  obtain ⟨n, q1, q2, q3, rfl⟩ := pfd_of hx
  refine ⟨rfl, ?_⟩
  intro p e R s m args below meth c C H locs cells slots Q L S hR hS hL hT kk
  obtain ⟨f1, f2, f3, f4, f5⟩ := fld_in hk
  obtain ⟨w, S1, rfl, hw, hT1⟩ := RL_cons hT
  obtain ⟨w2, S2, rfl, hw2, hT2⟩ := RL_cons hT1
  have hfin := fin_in f2 f3 hfb
  have ew := RV_ref1 hw2 (by omega)
  subst ew
  obtain ⟨cell, hcell, hrc⟩ := hR.2.2.2 a _ (by omega) q1
  rcases hrc with ⟨hci, hn, hcls, hvm, hsl⟩ | ⟨q, _⟩ | q
  · have hn' : n = nfld ci := hn
    subst hn'
    obtain ⟨hS2, hfc, kC, hkC, hkind⟩ := C.2.2.2.2.2.2.2.2.2.1.1 ci _ (cl_at f2)
    obtain ⟨cf, kf, fi, f, hi, hslot⟩ := hS2 j f3
    have hts := C.2.2.2.2.1
    have hty : ty = tyf ci j := f4
    obtain ⟨t1, t2⟩ := ty_in f2 f3
    have hrs := hv w hw
    obtain ⟨n1, n2⟩ := fit_in (ty := tyD ci j) (by rw [hty]; exact t2) hrs hb
    have hst := (u_facts hfc hkC (u_lays hts (lay_in f2) f3) hi).1
    have hap : ∀ i, i < nfld ci → i ≠ j → G.2.2.2 ci i ≠ G.2.2.2 ci j := by
      intro i hi' hne
      obtain ⟨cf', kf', fi', fd', hi2, hsl2⟩ := hS2 i hi'
      rw [← hslot, ← hsl2]
      have nm1 := (State.fieldFound?_type hi t1).1
      have nm2 := (State.fieldFound?_type hi2 (ty_in f2 hi').1).1
      exact u_apart (u_lays hts (lay_in f2) hi') (u_lays hts (lay_in f2) f3) hi2 hi (by rw [nm1, nm2]; exact nam_in f2 hi' f3 hne)
    have hlt : f.slot < cell.slots.size := by
      obtain ⟨w0, hw0, -⟩ := hsl j q2
      rw [hslot]
      exact (Array.getElem?_eq_some_iff.mp hw0).1
    have done : ∀ H' : Heap, H'[rho G a]? = some (cell.setSlot f.slot w) → H'.size = H.size → (∀ q, q ≠ rho G a → H'[q]? = H[q]?) → W p l e R s m args below meth c H' (locs ++ [⟨rho G a, f.slot⟩]) cells slots Q (F0 m (pc + 3) L S2) := by
      intro H' e1 e2 e3
      refine kk H' _ L S2 (Rep_set hR q3 rfl (fun k hk => mw_ne h j x hk) q1 e2 e3 e1 (Or.inl ⟨hci, rfl, hcls, hvm, fun i hi' => ?_⟩)) (hS.put e2 e3 (rho_AA q3)) hL hT2
      rw [mw_at, hslot, set_slot (by rw [← hslot]; exact hlt)]
      by_cases hij : i = j
      · subst hij
        rw [if_pos rfl, if_pos rfl]
        exact ⟨w, rfl, by have := hrs; rw [hty] at this; exact this⟩
      · rw [if_neg hij, if_neg (hap i hi' hij)]
        exact hsl i hi'
    rw [f5] at hi
    rcases hfin with hf | ⟨hf, hi0, hown⟩
    · have hlay := hts _ (lay_in f2 _ (u_in_lay f3))
      unfold u_lay at hlay
      rw [if_neg (by rw [hf]; decide)] at hlay
      have h6 := u_store hfc hkC hkind hlay (by rw [f5]; exact hi) t1 n1 n2
      exact W.putK C.1 C.2.1 (f := f) ⟨C.2.2.2.1, hts _ f1, ⟨cf, kf, fi, hi⟩, hst⟩ (by rw [hcls]; exact h6) hcell hvm hlt rfl rfl d done
    · have hlay := hts _ (lay_in f2 _ (u_in_lay f3))
      unfold u_lay at hlay
      rw [if_pos hf] at hlay
      have hcf : m.cls = cf := by
        obtain ⟨_, _, c', _, _, _, -, -, hf', -, -, -, hown2, -⟩ := Cond.laysFinal_spec hlay
        rw [f5] at hf' hown2
        have e1 : c' = cf := by have := hi.symm.trans hf'; simp at this; exact this.1.symm
        have ho := C.2.2.2.1
        rw [hown] at ho
        rw [← e1]; exact Option.some.inj (ho.symm.trans hown2)
      have h6 := u_fits hfc hkC hkind (Or.inr hlay) (by rw [f5]; exact hi) t1 n1 n2
      exact W.putFinK C.1 C.2.1 C.2.2.2.1 (hts _ f1) hi hst hcf (C.2.2.2.2.2.2.1 hi0) (by rw [hcls]; exact h6) hcell hvm hlt rfl rfl d done
  · omega
  · omega
theorem ast_of {a : Nat} {j v : Int} {h1 : mH} (e : ast h a j v = some h1) : ∃ n, h.1[a]? = some (10, n) ∧ 0 ≤ j ∧ j < (n : Int) ∧ 6 ≤ a ∧ h1 = mw h a j.toNat v := by
  unfold ast at e
  split at e
  · rename_i q hq
    split at e
    · rename_i hc
      obtain ⟨c1, c2, c3, c4⟩ := hc
      exact ⟨q.2, by rw [hq, ← c1], c2, c3, c4, (Option.some.inj e).symm⟩
    · cases e
  · cases e
theorem bst_of {a : Nat} {j v : Int} {h1 : mH} (e : bst h a j v = some h1) : ∃ kd n, h.1[a]? = some (kd, n) ∧ (kd = 11 ∨ kd = 12) ∧ 0 ≤ j ∧ j < (n : Int) ∧ 6 ≤ a ∧ h1 = mw h a j.toNat (if kd = 11 then w8 v else iand v 1) := by
  unfold bst at e
  split at e
  · rename_i q hq
    split at e
    · rename_i hc
      obtain ⟨c1, c2, c3, c4⟩ := hc
      exact ⟨q.1, q.2, hq, c1, c2, c3, c4, (Option.some.inj e).symm⟩
    · cases e
  · cases e
/-- an array behind a store -/
theorem RC_set {s : State} {kd n i : Nat} {row : Nat → Int} {x : Int} {w : Value} {cell : Cell} (hk : 10 ≤ kd) (hk2 : kd ≤ 12) (hn : n < 1000000) (c2 : s.isArrayOf cell (tyA kd)) (c3 : cell.vm ≠ .unknown) (c4 : cell.slots.size = n) (hi : i < n)
    (c6 : ∀ j, j < n → ∃ w, cell.slots[j]? = some w ∧ RS G (if kd = 13 then 2 else 0) (row j) w) (hw : RV G (.inl x) w) : RC G s kd n (fun j => if j = i then x else row j) (cell.setSlot i w) := by
  refine Or.inr (Or.inl ⟨hk, by omega, hn, ⟨c2.1, c2.2⟩, c3, by simp [Cell.setSlot, c4], fun j hj => ?_⟩)
  rw [set_slot (by rw [c4]; exact hi)]
  by_cases e : j = i
  · rw [if_pos e]
    refine ⟨w, rfl, ?_⟩
    unfold RS
    rw [if_neg (by rw [if_neg (by omega)]; omega)]
    simp only [e, if_true]
    exact hw
  · rw [if_neg e]
    obtain ⟨z, z1, z2⟩ := c6 j hj
    refine ⟨z, z1, ?_⟩
    simp only [e, if_false]
    exact z2
theorem mw_row (h : mH) (a j : Nat) (v : Int) : (mw h a j v).2 a = fun i => if i = j then v else h.2 a i := by
  funext i
  exact mw_at h a j i v
theorem s_iast {a : Nat} {j v : Int} {r : List mV} {h1 : mH} (d : decode (codeOf mi) pc = .ok (.iastore, 1)) (hx : ast h a j v = some h1) : St2 G l mi pc ls (.inl v :: .inl j :: .inr (.inr a) :: r) h (pc + 1) ls r h1 := by
  obtain ⟨n, q1, q2, q3, q4, rfl⟩ := ast_of hx
  refine ⟨rfl, ?_⟩
  intro p e R s m args below meth c C H locs cells slots Q L S hR hS hL hT kk
  obtain ⟨w, S1, rfl, ⟨x, rfl, rfl⟩, hT1⟩ := RL_cons hT
  obtain ⟨w, S2, rfl, ⟨b, rfl, rfl⟩, hT2⟩ := RL_cons hT1
  obtain ⟨w, S3, rfl, hw, hT3⟩ := RL_cons hT2
  have ew := RV_ref1 hw (by omega)
  subst ew
  obtain ⟨cell, c1, c2, c3, c4, c5, c6⟩ := arr_of hR q1 (by omega) (by omega) (by omega)
  refine W.iast C.1 C.2.1 c1 c2 c3 (by rw [c4]; exact inb q2 q3) rfl rfl d (fun H' e1 e2 e3 => ?_)
  refine kk H' _ L S3 (Rep_set hR q4 rfl (fun k hk => mw_ne h _ _ hk) q1 e2 e3 e1 ?_) (hS.put e2 e3 (rho_AA q4)) hL hT3
  rw [mw_row, i32_cl]
  exact RC_set (by omega) (by omega) c5 c2 c3 c4 (by omega) c6 ⟨x, rfl, rfl⟩
theorem s_bast {a : Nat} {j v : Int} {r : List mV} {h1 : mH} (d : decode (codeOf mi) pc = .ok (.bastore, 1)) (hx : bst h a j v = some h1) : St2 G l mi pc ls (.inl v :: .inl j :: .inr (.inr a) :: r) h (pc + 1) ls r h1 := by
  obtain ⟨kd, n, q1, qk, q2, q3, q4, rfl⟩ := bst_of hx
  refine ⟨rfl, ?_⟩
  intro p e R s m args below meth c C H locs cells slots Q L S hR hS hL hT kk
  obtain ⟨w, S1, rfl, ⟨x, rfl, rfl⟩, hT1⟩ := RL_cons hT
  obtain ⟨w, S2, rfl, ⟨b, rfl, rfl⟩, hT2⟩ := RL_cons hT1
  obtain ⟨w, S3, rfl, hw, hT3⟩ := RL_cons hT2
  have ew := RV_ref1 hw (by omega)
  subst ew
  obtain ⟨cell, c1, c2, c3, c4, c5, c6⟩ := arr_of hR q1 (by omega) (by omega) (by omega)
  rcases qk with rfl | rfl
  · refine W.bast C.1 C.2.1 c1 c2 c3 (by rw [c4]; exact inb q2 q3) rfl rfl d (fun H' e1 e2 e3 => ?_)
    refine kk H' _ L S3 (Rep_set hR q4 rfl (fun k hk => mw_ne h _ _ hk) q1 e2 e3 e1 ?_) (hS.put e2 e3 (rho_AA q4)) hL hT3
    rw [mw_row, i32_cl]
    exact RC_set (by omega) (by omega) c5 c2 c3 c4 (by omega) c6 ⟨_, rfl, by rw [if_pos rfl]; exact i32_i8 x⟩
  · refine W.zast C.1 C.2.1 c1 c2 c3 (by rw [c4]; exact inb q2 q3) rfl rfl d (fun H' e1 e2 e3 => ?_)
    refine kk H' _ L S3 (Rep_set hR q4 rfl (fun k hk => mw_ne h _ _ hk) q1 e2 e3 e1 ?_) (hS.put e2 e3 (rho_AA q4)) hL hT3
    rw [mw_row, i32_cl]
    refine RC_set (by omega) (by omega) c5 c2 c3 c4 (by omega) c6 ⟨_, rfl, ?_⟩
    rw [if_neg (by decide)]
    exact i32_iand x 1
theorem acp_of {b a : Nat} {n : Int} {h1 : mH} (e : acp h b a n = some h1) : ∃ p q, h.1[b]? = some (10, p) ∧ h.1[a]? = some (10, q) ∧ 0 ≤ n ∧ n ≤ (p : Int) ∧ n ≤ (q : Int) ∧ 6 ≤ a ∧ b ≠ 0 ∧ h1 = mrow h a (fun j => if j < n.toNat then h.2 b j else h.2 a j) := by
  unfold acp at e
  split at e
  · rename_i p q hp hq
    split at e
    · rename_i hc
      obtain ⟨c1, c2, c3, c4, c5, c6, c7⟩ := hc
      exact ⟨p.2, q.2, by rw [hp, ← c1], by rw [hq, ← c2], c3, c4, c5, c6, c7, (Option.some.inj e).symm⟩
    · cases e
  · cases e
theorem s_acp {k t a b : Nat} {n : Int} {r : List mV} {h1 : mH} (d : decode (codeOf mi) pc = .ok (.invokestatic k, 3)) (hk : invOf (mown mi) k = some (5, t)) (hc : catS r ≤ 8) (hd : 1 ≤ mdep mi) (hx : acp h b a n = some h1) : St2 G l mi pc ls (.inl n :: .inl 0 :: .inr (.inr a) :: .inl 0 :: .inr (.inr b) :: r) h (pc + 3) ls r h1 := by
  obtain ⟨np, nq, q1, q2, q3, q4, q5, q6, q7, rfl⟩ := acp_of hx
  refine ⟨rfl, ?_⟩
  intro p e R s m args below meth c C H locs cells slots Q L S hR hS hL hT kk
  obtain ⟨w, S1, rfl, ⟨x, rfl, rfl⟩, hT1⟩ := RL_cons hT
  obtain ⟨w, S2, rfl, ⟨z1, rfl, hz1⟩, hT2⟩ := RL_cons hT1
  obtain ⟨w, S3, rfl, hw, hT3⟩ := RL_cons hT2
  obtain ⟨w', S4, rfl, ⟨z2, rfl, hz2⟩, hT4⟩ := RL_cons hT3
  obtain ⟨w', S5, rfl, hw', hT5⟩ := RL_cons hT4
  have ew := RV_ref1 hw (by omega)
  subst ew
  have ew := RV_ref1 hw' q7
  subst ew
  have e1 : z1 = 0 := by rw [i32_eq, hz1]; rfl
  have e2 : z2 = 0 := by rw [i32_eq, hz2]; rfl
  subst e1
  subst e2
  obtain ⟨cs, s1, s2, s3, s4, s5, s6⟩ := arr_of hR q1 q7 (by omega) (by omega)
  obtain ⟨cd, d1, d2, d3, d4, d5, d6⟩ := arr_of hR q2 (by omega) (by omega) (by omega)
  have z0 : ¬ (0 : Int32) < 0 := by decide
  have zi : (0 : Int32).toInt = 0 := rfl
  have hts := C.2.2.2.2.1
  have hW : ∀ w ∈ invW (mown mi) k 5 t, w.before args s = true := fun w hw => hts w (inv_in hk hw)
  obtain ⟨s2a, ks, hks, cms, hkks⟩ := s2
  obtain ⟨d2a, kd, hkd, cmd, hkkd⟩ := d2
  have hrc : RC G s 10 nq (fun j => if j < x.toInt.toNat then h.2 b j else h.2 a j) (copied cs cd 0 0 x) := by
    obtain ⟨f1, f2, f3, -, -⟩ := Cell.storeRun_facts cd (0 : Int32).toNatClampNeg (cs.stretch (0 : Int32).toNatClampNeg x.toNatClampNeg)
    refine Or.inr (Or.inl ⟨by omega, by omega, d5, ⟨by rw [f2]; exact d2a, kd, by rw [f1]; exact hkd, cmd, hkkd⟩, by rw [f2]; exact d3, by rw [f3]; exact d4, fun j hj => ?_⟩)
    have z9 : (0 : Int).toNat = 0 := rfl
    have hlen : (cs.stretch (0 : Int32).toNatClampNeg x.toNatClampNeg).length = x.toInt.toNat := by unfold Cell.stretch; rw [List.length_map, List.length_range, i32_cl]
    rw [Cell.storeRun_get cd _ _ j (by rw [hlen, i32_cl, zi, d4, z9]; omega), hlen, i32_cl, zi, z9, Nat.zero_add]
    by_cases hjn : j < x.toInt.toNat
    · rw [if_pos ⟨Nat.zero_le _, hjn⟩]
      obtain ⟨v, v1, v2⟩ := s6 j (by omega)
      refine ⟨v, ?_, ?_⟩
      · unfold Cell.stretch
        rw [List.getElem?_map, Nat.sub_zero, List.getElem?_range (by rw [i32_cl]; exact hjn)]
        show some (cs.slots.getD _ _) = some v
        rw [Array.getD_eq_getD_getElem?]
        show some ((cs.slots[0 + j]?).getD .null) = some v
        rw [Nat.zero_add, v1]
        rfl
      · simp only [hjn, if_true]
        exact v2
    · rw [if_neg (fun q => hjn q.2)]
      obtain ⟨v, v1, v2⟩ := d6 j hj
      exact ⟨v, v1, by simp only [hjn, if_false]; exact v2⟩
  have hroom : 2 * (F0 m pc L (.int x :: .int 0 :: .ref (rho G a) :: .int 0 :: .ref (rho G b) :: S5)).monitorRoom + (S5.map fun v => v.category).sum + (nativeFrameWords "java/lang/System" "arraycopy" 5 + 11) ≤ R.locals := by
    have hnf : nativeFrameWords "java/lang/System" "arraycopy" 5 = 7 := by decide
    rw [RL_cat hT5, hnf]
    have := C.2.2.2.2.2.2.2.2.1
    show 2 * 0 + catS r + (7 + 11) ≤ R.locals
    omega
  intro T hT0 X
  obtain ⟨vm', X', step⟩ := X.arraycopy C.1 C.2.2.2.1 (hW (.methodLink (cnm (mown mi)) k arraycopyName) (by simp [invW])) (hW (.native arraycopyName) (by simp [invW])) (hW (.static arraycopyName) (by simp [invW])) (hW (.initialized "java/lang/System") (by simp [invW])) (src := rho G b) (dst := rho G a) (cs := cs) (cd := cd) (srcPos := 0) (destPos := 0) (n := x) (by rw [hT0]; exact s1) (by rw [hT0]; exact d1)
    s2a d2a s3 d3 hks hkd hkks hkkd (by rfl) z0 z0 (fun q => by rw [Int32.lt_iff_toInt_lt, zi] at q; omega)
    (by rw [zi, s4]; omega) (by rw [zi, d4]; omega)
    (fun vm₁ _ i hi => by
      rw [i32_cl] at hi
      obtain ⟨v, v1, v2⟩ := s6 i (by omega)
      unfold RS at v2
      rw [if_neg (by decide)] at v2
      obtain ⟨y, rfl, -⟩ := v2
      have e : cs.slots.getD ((0 : Int32).toNatClampNeg + i) .null = .int y := by
        rw [Array.getD_eq_getD_getElem?, i32_cl, zi]
        simp [v1]
      rw [e]
      exact ⟨rfl, trivial⟩)
    (g := F0 m pc L (.int x :: .int 0 :: .ref (rho G a) :: .int 0 :: .ref (rho G b) :: S5)) rfl (by rw [C.2.2.1]; exact hL.1) (rest := S5) rfl (by rw [C.2.1]; exact d) (by have := C.2.2.2.2.2.2.2.1; omega) hroom
  have hlt : rho G a < T.heap.size := by rw [hT0]; exact (Array.getElem?_eq_some_iff.mp d1).1
  have hsz : ((T.setVm vm').setCell (rho G a) (copied cs cd 0 0 x)).heap.size = H.size := by rw [size_setCell]; exact congrArg Array.size hT0
  have hoq : ∀ q, q ≠ rho G a → ((T.setVm vm').setCell (rho G a) (copied cs cd 0 0 x)).heap[q]? = H[q]? := fun q hq => by rw [heapAt_setCell_ne _ (Ne.symm hq)]; exact congrArg (fun z : Heap => z[q]?) hT0
  obtain ⟨t', a1, b1⟩ := kk ((T.setVm vm').setCell (rho G a) (copied cs cd 0 0 x)).heap (locs ++ (cs.stretch (0 : Int32).toNatClampNeg x.toNatClampNeg).zipIdx.map fun q => ⟨rho G a, (0 : Int32).toNatClampNeg + q.2⟩) L S5
    (Rep_set hR q6 rfl (fun k hk => by funext i; simp [mrow, hk]) q2 hsz hoq (heapAt_setCell_self _ hlt) (by
      have : (mrow h a (fun j => if j < x.toInt.toNat then h.2 b j else h.2 a j)).2 a = fun j => if j < x.toInt.toNat then h.2 b j else h.2 a j := by funext i; simp [mrow]
      rw [this]; exact hrc))
    ⟨by rw [hsz]; exact hS.1, fun q h1 h2 => by rw [hoq q (fun e => h2 (by rw [e]; exact rho_AA q6))]; exact hS.2.1 q h1 h2, fun q hq => by
      rcases List.mem_append.mp hq with hq | hq
      · exact hS.2.2 q hq
      · obtain ⟨y, -, rfl⟩ := List.mem_map.mp hq
        exact rho_AA q6⟩ hL hT5 _ rfl X'
  exact ⟨t', step t' a1, b1⟩
end Steps
end
section
/-! making objects and arrays -/
theorem pre_len {a b : List (Nat × Nat)} (h : a <+: b) : a.length ≤ b.length := h.length_le
theorem pre_sum {a b : List (Nat × Nat)} (h : a <+: b) : (a.map Prod.snd).sum ≤ (b.map Prod.snd).sum := by
  obtain ⟨t, rfl⟩ := h
  rw [List.map_append, List.sum_append]
  omega
theorem rho_new {G : mG} {s : State} {h : mH} {H : Heap} (hR : Rep G s h H) : rho G h.1.length = H.size := by
  unfold rho
  rw [if_neg (by have := hR.2.1; omega), hR.1]
theorem rho_lt {G : mG} {s : State} {h : mH} {H : Heap} (hR : Rep G s h H) {k : Nat} {q : Nat × Nat} (hk : 1 ≤ k) (hq : h.1[k]? = some q) : rho G k < H.size := by
  obtain ⟨cell, h1, -⟩ := hR.2.2.2 k q hk hq
  exact (Array.getElem?_eq_some_iff.mp h1).1
theorem mnew_1 (h : mH) (kd n : Nat) : (mnew h kd n).1 = h.1 ++ [(kd, n)] := rfl
theorem Rep_new {G : mG} {s : State} {h : mH} {H H1 : Heap} {kd n : Nat} {cell : Cell} (hR : Rep G s h H) (hz : H1.size = H.size + 1) (ho : ∀ q, q < H.size → H1[q]? = H[q]?) (hc : H1[H.size]? = some cell) (hrc : RC G s kd n (fun _ => 0) cell) : Rep G s (mnew h kd n) H1 := by
  have hR0 := hR
  obtain ⟨r1, r2, r3, r4⟩ := hR
  refine ⟨by rw [hz, mnew_1, List.length_append, r1]; simp; omega, by rw [mnew_1, List.length_append]; omega, r3, fun k q hk hkq => ?_⟩
  rw [mnew_1] at hkq
  by_cases hlt : k < h.1.length
  · rw [List.getElem?_append_left hlt] at hkq
    obtain ⟨cl, h5, h6⟩ := r4 k q hk hkq
    refine ⟨cl, by rw [ho _ (Array.getElem?_eq_some_iff.mp h5).1]; exact h5, ?_⟩
    have : (mnew h kd n).2 k = h.2 k := by funext i; simp [mnew, Nat.ne_of_lt hlt]
    rw [this]
    exact h6
  · have hk2 : k = h.1.length := by
      have := (List.getElem?_eq_some_iff.mp hkq).1
      rw [List.length_append, List.length_singleton] at this
      omega
    subst hk2
    rw [List.getElem?_append_right (Nat.le_refl _), Nat.sub_self] at hkq
    cases hkq
    refine ⟨cell, by rw [rho_new hR0]; exact hc, ?_⟩
    have : (mnew h kd n).2 h.1.length = fun _ => 0 := by funext i; simp [mnew]
    rw [this]
    exact hrc
theorem vaS_new {G : mG} {H0 H H1 : Heap} {locs : List Loc} (hS : va_S (AA G) H0 H locs) (hz : H.size ≤ H1.size) (ho : ∀ q, q < H.size → H1[q]? = H[q]?) : va_S (AA G) H0 H1 locs :=
  ⟨Nat.le_trans hS.1 hz, fun q h1 h2 => by rw [ho q (Nat.lt_of_lt_of_le h1 hS.1)]; exact hS.2.1 q h1 h2, hS.2.2⟩
section Steps
variable {G : mG} {l : Launch} {mi pc : Nat} {ls ls' : mL} {st : List mV} {h : mH}
/-- a step that makes c cells of n slots -/
def St3 (G : mG) (l : Launch) (mi pc : Nat) (ls : mL) (st : List mV) (h : mH) (pc' : Nat) (ls' : mL) (st' : List mV) (h1 : mH) (kc ks : Nat) : Prop :=
  (h.1 <+: h1.1 ∧ h1.1.length = h.1.length + kc ∧ msz h1 = msz h + ks) ∧ ∀ (p : Program) (e : Env) (R : Room) (s : State) (m : MethodId) (args : Array Value) (below : List Frame) (meth : Method) (c : Code), CX G mi p R s m args meth c →
  ∀ (H : Heap) (locs : List Loc) (cells slots : Nat) (Q : State → Prop) (L : Array Slot) (S : List Value), Rep G s h H → va_S (AA G) s.heap H locs → LR G (mmax mi) ls L → RL G st S → cells + kc ≤ R.cells → slots + ks ≤ R.slots →
  (∀ (H' : Heap) (locs' : List Loc) (L' : Array Slot) (S' : List Value), Rep G s h1 H' → va_S (AA G) s.heap H' locs' → LR G (mmax mi) ls' L' → RL G st' S' → W p l e R s m args below meth c H' locs' (cells + kc) (slots + ks) Q (F0 m pc' L' S')) →
  W p l e R s m args below meth c H locs cells slots Q (F0 m pc L S)
theorem St3.nx {pc' : Nat} {st' : List mV} {h1 : mH} {kc ks : Nat} (H1 : St3 G l mi pc ls st h pc' ls' st' h1 kc ks) : Nx G l mi pc ls st h pc' ls' st' h1 := by
  obtain ⟨⟨e1, e2, e3⟩, H1⟩ := H1
  refine ⟨e1, fun v h' hp hs => ?_⟩
  intro p e R s m args below meth c C H locs cells slots Q L S hR hS hL hT hc hsl ret
  have l1 := pre_len hp
  have l2 : msz h1 ≤ msz h' := pre_sum hp
  have k1 : cells + kc + (h'.1.length - h1.1.length) = cells + (h'.1.length - h.1.length) := by omega
  have k2 : slots + ks + (msz h' - msz h1) = slots + (msz h' - msz h) := by omega
  refine H1 p e R s m args below meth c C H locs cells slots Q L S hR hS hL hT (by omega) (by omega) (fun H' locs' L' S' hR' hS' hL' hT' => hs p e R s m args below meth c C H' locs' (cells + kc) (slots + ks) Q L' S' hR' hS' hL' hT' (by omega) (by omega) (fun a1 a2 a3 a4 a5 a6 a7 a8 a9 => ?_))
  rw [k1, k2]
  exact ret a1 a2 a3 a4 a5 a6 a7 a8 a9
theorem msz_new (h : mH) (kd n : Nat) : msz (mnew h kd n) = msz h + n := by
  unfold msz
  rw [mnew_1, List.map_append, List.sum_append]
  simp
theorem s_new {k ci : Nat} (d : decode (codeOf mi) pc = .ok (.new k, 3)) (hk : newOf (mown mi) k = some ci) : St3 G l mi pc ls st h (pc + 3) ls (.inr (.inr h.1.length) :: st) (mnew h ci (nfld ci)) 1 (nfld ci) := by
  refine ⟨⟨by rw [mnew_1]; exact List.prefix_append _ _, by rw [mnew_1, List.length_append]; rfl, msz_new _ _ _⟩, ?_⟩
  intro p e R s m args below meth c C H locs cells slots Q L S hR hS hL hT hc hsl kk
  obtain ⟨hw, hci⟩ := new_in hk
  have hts := C.2.2.2.2.1
  obtain ⟨hS2, hfc, kC, hkC, hkind⟩ := C.2.2.2.2.2.2.2.2.2.1.1 ci _ (cl_at hci)
  refine W.newcK C.1 C.2.1 C.2.2.2.1 (hts (.classLink (cnm (mown mi)) k (cnm ci)) (hw _ (by simp [newW]))) (hts (.instantiable (cnm ci) (nfld ci)) (hw _ (by simp [newW]))) (hts (.initialized (cnm ci)) (hw _ (by simp [newW]))) rfl d hc hsl hfc rfl (fun H' kC' hk' e1 e2 e3 => ?_)
  obtain ⟨cell, t1, t2, t3, t4⟩ := u_born (o := H.size) (H := H') (tyD ci) hts (lay_in hci) ⟨hS2, hfc, kC, hkC, hkind⟩ hk' e1 (fun j hj => (ty_in hci hj).1)
  refine kk H' locs L (.ref H.size :: S) (Rep_new hR e2 e3 t1 (Or.inl ⟨hci, rfl, t2, t3, fun j hj => ⟨_, t4 j hj, ?_⟩⟩)) (vaS_new hS (by omega) e3) hL ⟨?_, hT⟩
  · have h2 := (ty_in hci hj).2
    unfold RS
    split at h2
    · rename_i q
      rw [if_pos q]
      refine ⟨Int.le_refl 0, ?_⟩
      show defaultValue (tyD ci j) = .null
      cases hty : tyD ci j <;> rw [hty] at h2 <;> simp [FieldType.isReference] at h2 <;> rfl
    · rename_i q
      rw [if_neg q]
      show RV G (.inl 0) (defaultValue (tyD ci j))
      split at h2
      · rw [h2]; exact ⟨0, rfl, rfl⟩
      · rw [h2]; exact ⟨0, rfl, rfl⟩
  · show Value.ref H.size = _
    rw [if_neg (by have := hR.2.1; omega), rho_new hR]
theorem s_newa {at_ : ArrayType} {kd : Nat} {n : Int} {r : List mV} (d : decode (codeOf mi) pc = .ok (.newarray at_, 2)) (hn : 0 ≤ n) (hn2 : n ≤ 100000) (hkd : (at_ = .int ∧ kd = 10) ∨ (at_ = .byte ∧ kd = 11) ∨ (at_ = .boolean ∧ kd = 12)) :
    St3 G l mi pc ls (.inl n :: r) h (pc + 2) ls (.inr (.inr h.1.length) :: r) (mnew h kd n.toNat) 1 n.toNat := by
  refine ⟨⟨by rw [mnew_1]; exact List.prefix_append _ _, by rw [mnew_1, List.length_append]; rfl, msz_new _ _ _⟩, ?_⟩
  intro p e R s m args below meth c C H locs cells slots Q L S hR hS hL hT hc hsl kk
  obtain ⟨w, S1, rfl, ⟨x, rfl, rfl⟩, hT1⟩ := RL_cons hT
  have hts := C.2.2.2.2.1
  obtain ⟨g1, g2, g3⟩ := arc_in
  have hx0 : ¬ x < 0 := fun q => by
    rw [Int32.lt_iff_toInt_lt] at q
    have z : (0 : Int32).toInt = 0 := rfl
    omega
  have fin : ∀ (ty : FieldType) (H' : Heap) (cA : ClassId), tyA kd = ty → defaultValue ty = .int 0 → 10 ≤ kd → kd ≤ 12 → H'[H.size]? = some (arrV cA x.toInt.toNat (fun _ => defaultValue ty)) → H'.size = H.size + 1 → (∀ q, q < H.size → H'[q]? = H[q]?) → ArrOfT s cA ty →
      W p l e R s m args below meth c H' locs (cells + 1) (slots + x.toInt.toNat) Q (F0 m (pc + 2) L (.ref H.size :: S1)) := by
    intro ty H' cA ht hd k1 k2 e1 e2 e3 ha
    refine kk H' locs L (.ref H.size :: S1) (Rep_new hR e2 e3 e1 (Or.inr (Or.inl ⟨k1, by omega, by omega, by rw [ht]; exact ha _ _, (fun q => VmData.noConfusion q), arrV_size _ _ _, fun j hj => ⟨_, arrV_read _ _ hj, ?_⟩⟩))) (vaS_new hS (by omega) e3) hL ⟨?_, hT1⟩
    · unfold RS
      rw [if_neg (by rw [if_neg (by omega)]; omega), hd]
      exact ⟨0, rfl, rfl⟩
    · show Value.ref H.size = _
      rw [if_neg (by have := hR.2.1; omega), rho_new hR]
  rcases hkd with ⟨rfl, rfl⟩ | ⟨rfl, rfl⟩ | ⟨rfl, rfl⟩
  · exact W.newaK (atype := .int) C.1 C.2.1 (hts _ g1) rfl d rfl hx0 (i32_cl x) (by show _ * 4 ≤ _; omega) hc hsl rfl (fun H' cA e1 e2 e3 ha => fin .int H' cA rfl rfl (by omega) (by omega) e1 e2 e3 ha)
  · exact W.newaK (atype := .byte) C.1 C.2.1 (hts _ g2) rfl d rfl hx0 (i32_cl x) (by show _ * 1 ≤ _; omega) hc hsl rfl (fun H' cA e1 e2 e3 ha => fin .byte H' cA rfl rfl (by omega) (by omega) e1 e2 e3 ha)
  · exact W.newaK (atype := .boolean) C.1 C.2.1 (hts _ g3) rfl d rfl hx0 (i32_cl x) (by show _ * 1 ≤ _; omega) hc hsl rfl (fun H' cA e1 e2 e3 ha => fin .boolean H' cA rfl rfl (by omega) (by omega) e1 e2 e3 ha)
theorem s_oinit {k t a : Nat} {r : List mV} (d : decode (codeOf mi) pc = .ok (.invokespecial k, 3)) (hk : invOf (mown mi) k = some (4, t)) (ha : a ≠ 0) (hc : catS r ≤ 8) (hd : 1 ≤ mdep mi) : St1 G l mi pc ls (.inr (.inr a) :: r) h (pc + 3) ls r := by
  intro p e R s m args below meth c C H locs cells slots Q L S hR hS hL hT kk
  obtain ⟨w, S1, rfl, hw, hT1⟩ := RL_cons hT
  have ew := RV_ref1 hw ha
  subst ew
  have hts := C.2.2.2.2.1
  have hW : ∀ w ∈ invW (mown mi) k 4 t, w.before args s = true := fun w hw => hts w (inv_in hk hw)
  refine W.objInit C.1 C.2.1 C.2.2.2.1 (hW (.methodLink (cnm (mown mi)) k objectInit) (by simp [invW])) (hW (.instanceMethod objectInit) (by simp [invW])) (hW (.code objectInit ⟨#[0xb1]⟩ 1 none) (by simp [invW])) (g := F0 m pc L (.ref (rho G a) :: S1)) rfl (by rw [C.2.2.1]; exact hL.1) rfl d (by have := C.2.2.2.2.2.2.2.1; omega) ?_ (kk L S1 hL hT1)
  rw [RL_cat hT1]
  have := C.2.2.2.2.2.2.2.2.1
  show 2 * 0 + catS r + 12 ≤ R.locals
  omega
end Steps
end
section
/-! new int[n][k]: the machine's step, by rounds of its loop: each round makes a row and writes its place into the outer array -/
def mgR (comp : ClassId) (k : Nat) : Cell := { cls := comp, slots := Array.replicate k (.int 0) }
def mgN (a : Nat) (r : Cell) (i : Nat) (U : State) : State := (U.pushCell r).setCell a (((U.heap[a]?).getD r).setSlot i (.ref U.heap.size))
def mgS (a : Nat) (r : Cell) (U : State) : Nat → State
  | 0 => U
  | i + 1 => mgN a r i (mgS a r U i)
/-- after i rounds: what was there is there, the outer array knows its first i rows, the rows are there -/
def mgI (a : Nat) (cA : ClassId) (r : Cell) (n : Nat) (V : State) (i : Nat) (U : State) : Prop :=
  U.vm = V.vm ∧ U.heap.size = a + 1 + i ∧ (∀ x : Nat, x < a → U.heap[x]? = V.heap[x]?) ∧
  (∃ o : Cell, U.heap[a]? = some o ∧ o.cls = cA ∧ o.vm = .none ∧ o.slots.size = n ∧ ∀ j : Nat, j < n → o.slots[j]? = some (if j < i then .ref (a + 1 + j) else .null)) ∧
  ∀ j : Nat, j < i → U.heap[a + 1 + j]? = some r
theorem mgI_0 (V : State) (cA : ClassId) (r : Cell) (n : Nat) : mgI V.heap.size cA r n V 0 (V.pushCell { cls := cA, slots := Array.replicate n .null }) := by
  refine ⟨rfl, by simp, fun x hx => State.heap_pushCell_of_lt _ _ hx, ⟨_, State.heap_pushCell_size _ _, rfl, rfl, by simp, fun j hj => ?_⟩, fun j hj => absurd hj (Nat.not_lt_zero j)⟩
  rw [if_neg (Nat.not_lt_zero j), Array.getElem?_replicate, if_pos hj]
theorem mgI_s {a : Nat} {cA : ClassId} {r : Cell} {n i : Nat} {V U : State} (h : mgI a cA r n V i U) (hi : i < n) : mgI a cA r n V (i + 1) (mgN a r i U) := by
  obtain ⟨h1, h2, h3, ⟨o, o1, o2, o3, o4, o5⟩, h5⟩ := h
  have ha : a < U.heap.size := by omega
  have eo : (U.heap[a]?).getD r = o := by rw [o1]; rfl
  have hpa : (U.pushCell r).heap[a]? = some o := by rw [State.heap_pushCell_of_lt (h := ha)]; exact o1
  unfold mgN
  rw [eo, h2]
  refine ⟨h1, ?_, fun x hx => ?_, ⟨_, State.heap_setCell_self hpa, o2, o3, ?_, fun j hj => ?_⟩, fun j hj => ?_⟩
  · have : ((U.pushCell r).setCell a (o.setSlot i (.ref (a + 1 + i)))).heap.size = U.heap.size + 1 := by simp [State.setCell]
    omega
  · have q : x < U.heap.size := Nat.lt_trans hx ha
    rw [State.heap_setCell_other (Nat.ne_of_gt hx), State.heap_pushCell_of_lt (h := q)]
    exact h3 x hx
  · simp [Cell.setSlot, o4]
  · by_cases e : j = i
    · subst e
      rw [if_pos (Nat.lt_succ_self j)]
      simp [Cell.setSlot, o4, hj]
    · have := o5 j hj
      have e3 : (o.setSlot i (.ref (a + 1 + i))).slots[j]? = o.slots[j]? := by
        simp only [Cell.setSlot]
        exact Array.getElem?_setIfInBounds_ne (fun q => e q.symm)
      rw [e3, this]
      by_cases q : j < i
      · rw [if_pos q, if_pos (by omega)]
      · rw [if_neg q, if_neg (by omega)]
  · have q : a ≠ a + 1 + j := by omega
    rw [State.heap_setCell_other q]
    by_cases e : j = i
    · subst e
      rw [← h2]
      exact State.heap_pushCell_size _ _
    · have q2 : a + 1 + j < U.heap.size := by omega
      rw [State.heap_pushCell_of_lt (h := q2)]
      exact h5 j (by omega)
theorem mgI_at {a : Nat} {cA : ClassId} {r : Cell} {n : Nat} {V U : State} (h : mgI a cA r n V 0 U) : ∀ i, i ≤ n → mgI a cA r n V i (mgS a r U i)
  | 0, _ => h
  | i + 1, hi => mgI_s (mgI_at h i (Nat.le_of_succ_le hi)) hi
section Mg
variable {p : Program} {l : Launch} {e : Env} {R : Room} {s : State} {m : MethodId} {args : Array Value} {below : List Frame} {meth : Method} {c : Code} {locs : List Loc} {cells slots : Nat}
theorem mg_stand {a : Nat} {cA : ClassId} {r : Cell} {n : Nat} {V U : State} (h : mgI a cA r n V 0 U) (ha : s.heap.size ≤ a) (X : Stand p l e R s m args below meth c U locs cells slots) :
    ∀ i, i ≤ n → Stand p l e R s m args below meth c (mgS a r U i) locs (cells + i) (slots + i * r.slots.size)
  | 0, _ => by rw [Nat.zero_mul]; exact X
  | i + 1, hi => by
    have Y := (mg_stand h ha X i (Nat.le_of_succ_le hi)).pushed r
    obtain ⟨-, h2, -, ⟨o, o1, -, -, -, -⟩, -⟩ := mgI_at h i (Nat.le_of_succ_le hi)
    have hlt : a < (mgS a r U i).heap.size := by omega
    have hpa : ((mgS a r U i).pushCell r).heap[a]? = some o := by rw [State.heap_pushCell_of_lt (h := hlt)]; exact o1
    have Z := (Y.stored hpa i (.ref (mgS a r U i).heap.size)).dropFresh (fun x hx => by rw [List.mem_singleton.mp hx]; exact ha)
    have e1 : mgS a r U (i + 1) = ((mgS a r U i).pushCell r).setCell a (o.setSlot i (.ref (mgS a r U i).heap.size)) := by
      show mgN a r i (mgS a r U i) = _
      unfold mgN
      rw [o1]
      rfl
    rw [e1, Nat.succ_mul, ← Nat.add_assoc, ← Nat.add_assoc]
    exact Z
end Mg
section Mw
variable {E : CtlPost} {e : Env} {d : Bool} {acts : List Action}
/-- the model's word for a row -/
theorem mg_row {Y : State} {comp cc : ClassId} {kC : Class} {y : Int32} (hk : Y.vm.classes[comp]? = some kC) (hkind : kC.kind = .array cc .int) (hy : ¬ y < 0)
    (b1 : ¬ y.toNatClampNeg > e.platform.arrayLengthLimit) (b2 : ¬ y.toNatClampNeg * 4 > e.platform.maxHeapBytes) (r1 : Y.heap.size + 1 ≤ e.platform.maxCells) (r2 : Y.slotsUsed + y.toNatClampNeg ≤ e.platform.maxSlots)
    {Q : Addr → Pre} (hq : ∀ acts', Q Y.heap.size d acts' (Y.pushCell (mgR comp y.toNatClampNeg))) : wp (Op.multianewarray.make comp [y]) Q E e d acts Y := by
  rw [Op.multianewarray.make]
  simp only [wp_bind', W.ite, hy, if_false, wp_pure', W.theClass, hk, hkind, Option.some.injEq, exists_eq_left']
  exact W.newArray_of hk hkind b1 b2 r1 r2 rfl hq
/-- the model's word for both dimensions -/
theorem mg_make {V : State} {f : JFrame} {cA comp cc : ClassId} {kA kC : Class} {x y : Int32} (hkA : V.vm.classes[cA]? = some kA) (hkindA : kA.kind = .array comp (.array .int)) (hkC : V.vm.classes[comp]? = some kC) (hkindC : kC.kind = .array cc .int)
    (hx : ¬ x < 0) (hy : ¬ y < 0) (a1 : ¬ x.toNatClampNeg > e.platform.arrayLengthLimit) (a2 : ¬ x.toNatClampNeg * 4 > e.platform.maxHeapBytes) (b1 : ¬ y.toNatClampNeg > e.platform.arrayLengthLimit) (b2 : ¬ y.toNatClampNeg * 4 > e.platform.maxHeapBytes)
    (r1 : V.heap.size + 1 ≤ e.platform.maxCells) (r2 : V.slotsUsed + x.toNatClampNeg ≤ e.platform.maxSlots)
    (r3 : ∀ i, i < x.toNatClampNeg → (mgS V.heap.size (mgR comp y.toNatClampNeg) (V.pushCell { cls := cA, slots := Array.replicate x.toNatClampNeg .null }) i).heap.size + 1 ≤ e.platform.maxCells ∧
      (mgS V.heap.size (mgR comp y.toNatClampNeg) (V.pushCell { cls := cA, slots := Array.replicate x.toNatClampNeg .null }) i).slotsUsed + y.toNatClampNeg ≤ e.platform.maxSlots)
    {Q : Addr → Pre} (hq : ∀ d' acts', Q V.heap.size d' acts' ((mgS V.heap.size (mgR comp y.toNatClampNeg) (V.pushCell { cls := cA, slots := Array.replicate x.toNatClampNeg .null }) x.toNatClampNeg).setTop f)) :
    wp (Op.multianewarray.make cA [x, y]) Q E e d acts (V.setTop f) := by
  have h0 := mgI_0 V cA (mgR comp y.toNatClampNeg) x.toNatClampNeg
  generalize hU : V.pushCell { cls := cA, slots := Array.replicate x.toNatClampNeg .null } = U at h0 r3 hq
  have nf : [y].find? (fun z => decide (z < 0)) = none := by simp [hy]
  rw [Op.multianewarray.make]
  simp only [wp_bind', W.ite, hx, if_false, wp_pure', W.theClass, State.vm_setTop, hkA, hkindA, Option.some.injEq, exists_eq_left']
  refine W.newArray_of (s := V.setTop f) hkA hkindA a1 a2 r1 r2 rfl (fun acts1 => ?_)
  simp only [nf, ite_self]
  rw [wp_bind', Std.Legacy.Range.forIn_eq_forIn_range']
  have e0 : (V.setTop f).pushCell { cls := cA, slots := Array.replicate x.toNatClampNeg .null } = (mgS V.heap.size (mgR comp y.toNatClampNeg) U 0).setTop f := by rw [← hU]; rfl
  rw [e0]
  refine wp_forIn_inv (fun todo Y => ∃ i, i ≤ x.toNatClampNeg ∧ todo = List.range' i (x.toNatClampNeg - i) ∧ Y = (mgS V.heap.size (mgR comp y.toNatClampNeg) U i).setTop f) _ _ ⟨0, Nat.zero_le _, by simp [Std.Legacy.Range.size], rfl⟩ ?_ ?_
  · rintro z todo Y d1 acts2 Q1 ⟨i, hi, ht, rfl⟩ nxt
    have hl := congrArg List.length ht
    rw [List.length_range', List.length_cons] at hl
    have hlt : i < x.toNatClampNeg := by omega
    rw [show x.toNatClampNeg - i = (x.toNatClampNeg - (i + 1)) + 1 from by omega, List.range'_succ] at ht
    obtain ⟨rfl, ht2⟩ := List.cons.inj ht
    obtain ⟨v1, v2, -, ⟨o, o1, o2, o3, o4, -⟩, -⟩ := mgI_at h0 z hi
    obtain ⟨q1, q2⟩ := r3 z hlt
    simp only [wp_bind']
    refine mg_row (Y := (mgS V.heap.size (mgR comp y.toNatClampNeg) U z).setTop f) (kC := kC) (cc := cc) (by rw [State.vm_setTop, v1]; exact hkC) hkindC hy b1 b2 q1 q2 (fun acts3 => ?_)
    have hva : V.heap.size < (mgS V.heap.size (mgR comp y.toNatClampNeg) U z).heap.size := by omega
    simp only [wp_bind', W.writeLoc, wp_pure']
    refine ⟨o, ?_, by rw [o3]; exact fun q => VmData.noConfusion q, by rw [o4]; exact hlt, ?_, nxt _ _ _ ⟨z + 1, hlt, ht2, ?_⟩⟩
    · show ((mgS V.heap.size (mgR comp y.toNatClampNeg) U z).pushCell (mgR comp y.toNatClampNeg)).heap[V.heap.size]? = some o
      rw [State.heap_pushCell_of_lt (h := hva)]
      exact o1
    · rw [o2, o3]
      simp [State.fitsSlot, State.slotType?, v1, hkA, hkindA, fits]
    · show (((mgS V.heap.size (mgR comp y.toNatClampNeg) U z).pushCell (mgR comp y.toNatClampNeg)).setCell V.heap.size _).setTop f = (mgN V.heap.size (mgR comp y.toNatClampNeg) z (mgS V.heap.size (mgR comp y.toNatClampNeg) U z)).setTop f
      unfold mgN
      rw [o1]
      rfl
  · rintro Y d1 acts2 ⟨i, hi, ht, rfl⟩
    have hi2 : i = x.toNatClampNeg := by
      have := congrArg List.length ht
      rw [List.length_range', List.length_nil] at this
      omega
    subst hi2
    exact hq _ _
end Mw
section Ms
variable {p : Program} {l : Launch} {e : Env} {R : Room} {s : State} {m : MethodId} {args : Array Value} {below : List Frame} {meth : Method} {c : Code} {T : State} {locs : List Loc} {cells slots : Nat}
/-- the instruction: where it stands behind it, and that it comes there -/
theorem mg_step (X : Stand p l e R s m args below meth c T locs cells slots) (hexec : p.tables.exec = Jvm.exec) {own : String} {index : Nat} (hown : s.vm.findClass own = some m.cls)
    (hlink : (Cond.classLink own index ("[" ++ (FieldType.array .int).toString)).before args s = true) (hao : aov s) (hac : (Cond.arrayClass .int).before args s = true) {pc : Nat} {L : Array Slot} {S : List Value} {x y : Int32}
    (hd : decode c.code pc = .ok (.multianewarray index 2, 4)) (hx : ¬ x < 0) (hy : ¬ y < 0) (bx : x.toNatClampNeg ≤ 100) (hby : y.toNatClampNeg ≤ 1000)
    (hc : cells + (1 + x.toNatClampNeg) ≤ R.cells) (hs : slots + (x.toNatClampNeg + x.toNatClampNeg * y.toNatClampNeg) ≤ R.slots) :
    ∃ (V U : State) (cA comp : ClassId), V.heap = T.heap ∧ mgI T.heap.size cA (mgR comp y.toNatClampNeg) x.toNatClampNeg V x.toNatClampNeg U ∧ (∀ o : Cell, o.cls = cA → o.vm = .none → s.isArrayOf o (.array .int)) ∧
      s.isArrayOf (mgR comp y.toNatClampNeg) .int ∧ Stand p l e R s m args below meth c U locs (cells + (1 + x.toNatClampNeg)) (slots + (x.toNatClampNeg + x.toNatClampNeg * y.toNatClampNeg)) ∧
      ∀ t, Steps p.tables e below (U.setTop (F0 m (pc + 4) L (.ref T.heap.size :: S))) t → Steps p.tables e below (T.setTop (F0 m pc L (.int y :: .int x :: S))) t := by
  obtain ⟨comp, cA, kA, f1, -, hkA, hkindA, f2⟩ := aov_spec hao
  obtain ⟨comp', kC, cc, f3, hkC, hkindC⟩ := Cond.arrayClass_spec hac
  have ec : comp' = comp := Option.some.inj (f3.symm.trans f1)
  subst ec
  obtain ⟨cB, f4, hcl⟩ := Cond.classLink_spec hown hlink e.platform (by rw [X.admits.platform])
  have eB : cB = cA := Option.some.inj (f4.symm.trans f2)
  subst eB
  obtain ⟨hres, hwarm, -⟩ := State.classEntry (e := e) X.warmed hcl
  generalize T.vm.noted m.cls index (.cls cB) = vm1 at hres hwarm
  obtain ⟨kA1, hkA1, eA⟩ := hwarm.alike.2.2 _ _ hkA
  obtain ⟨kC1, hkC1, eC⟩ := hwarm.alike.2.2 _ _ hkC
  have hkindA1 : kA1.kind = .array comp' (.array .int) := by rw [eA]; exact hkindA
  have hkindC1 : kC1.kind = .array cc .int := by rw [eC]; exact hkindC
  have X1 := X.noted hwarm
  have X2 := X1.pushed { cls := cB, slots := Array.replicate x.toNatClampNeg .null }
  have h0 := mgI_0 (T.setVm vm1) cB (mgR comp' y.toNatClampNeg) x.toNatClampNeg
  have hrs : (mgR comp' y.toNatClampNeg).slots.size = y.toNatClampNeg := by simp [mgR]
  have XS := mg_stand h0 X1.heapGrown X2
  rw [hrs, Array.size_replicate] at XS
  have hI := mgI_at h0 x.toNatClampNeg (Nat.le_refl _)
  refine ⟨T.setVm vm1, mgS T.heap.size (mgR comp' y.toNatClampNeg) ((T.setVm vm1).pushCell { cls := cB, slots := Array.replicate x.toNatClampNeg .null }) x.toNatClampNeg, cB, comp', rfl, hI, fun o q1 q2 => ⟨fun k q => VmData.noConfusion (q2.symm.trans q), kA, by rw [q1]; exact hkA, comp', hkindA⟩,
    ⟨fun k q => VmData.noConfusion q, kC, hkC, cc, hkindC⟩, by have := XS _ (Nat.le_refl _); rw [Nat.add_assoc, Nat.add_assoc] at this; exact this, fun t ht => ?_⟩
  have a1 : ¬ x.toNatClampNeg > e.platform.arrayLengthLimit := by rw [Launch.admits_arrayLengthLimit X.admits]; omega
  have a2 : ¬ x.toNatClampNeg * 4 > e.platform.maxHeapBytes := by rw [Launch.admits_maxHeapBytes X.admits]; omega
  have b1 : ¬ y.toNatClampNeg > e.platform.arrayLengthLimit := by rw [Launch.admits_arrayLengthLimit X.admits]; omega
  have b2 : ¬ y.toNatClampNeg * 4 > e.platform.maxHeapBytes := by rw [Launch.admits_maxHeapBytes X.admits]; omega
  obtain ⟨r1, r2⟩ := X1.roomAbove (a := 1) (b := x.toNatClampNeg) (by omega) (by omega)
  have r3 : ∀ i, i < x.toNatClampNeg → (mgS T.heap.size (mgR comp' y.toNatClampNeg) ((T.setVm vm1).pushCell { cls := cB, slots := Array.replicate x.toNatClampNeg .null }) i).heap.size + 1 ≤ e.platform.maxCells ∧
      (mgS T.heap.size (mgR comp' y.toNatClampNeg) ((T.setVm vm1).pushCell { cls := cB, slots := Array.replicate x.toNatClampNeg .null }) i).slotsUsed + y.toNatClampNeg ≤ e.platform.maxSlots := fun i hi => by
    have hm : (i + 1) * y.toNatClampNeg ≤ x.toNatClampNeg * y.toNatClampNeg := Nat.mul_le_mul_right _ hi
    rw [Nat.succ_mul] at hm
    exact (XS i (Nat.le_of_lt hi)).roomAbove (by omega) (by omega)
  have XF2 := XS x.toNatClampNeg (Nat.le_refl _)
  jvm_step X.here [hexec, hd]
  simp only [Op.multianewarray.sem, wp_bind', W.resolveClassAt_links (State.method?_setTop (F0 m pc L (.int y :: .int x :: S)) X.here.top) hres]
  rw [W.popN, if_neg (by decide)]
  refine ⟨_, State.topJava?_setTop' (s := T.setVm vm1) (F0 m pc L (.int y :: .int x :: S)) X.here.top, [.int x, .int y], S, rfl, rfl, ?_⟩
  simp only [List.mapM_cons, List.mapM_nil, wp_bind', wp_pure']
  have eT : ((T.setTop (F0 m pc L (.int y :: .int x :: S))).setVm vm1).setTop (F0 m pc L S) = (T.setVm vm1).setTop (F0 m pc L S) := State.setTop_setTop (T.setVm vm1) (F0 m pc L (.int y :: .int x :: S)) (F0 m pc L S)
  rw [eT]
  refine mg_make (V := T.setVm vm1) (f := F0 m pc L S) hkA1 hkindA1 hkC1 hkindC1 hx hy a1 a2 b1 b2 r1 r2 r3 (fun d1 acts1 => ?_)
  simp only [wp_bind', W.mark, W.pushRef, State.topJava?_setTop' _ XF2.here.top, Option.some.injEq, exists_eq_left', State.setTop_setTop]
  intro acts2
  simp [jvm, XF2.here.top]
  exact ht
end Ms
section Steps
variable {G : mG} {l : Launch} {mi pc : Nat} {ls ls' : mL} {st : List mV} {h : mH}
theorem grd_in : Cond.classLink (cnm 3) 9 ("[" ++ (FieldType.array .int).toString) ∈ gtbl := by
  refine wAt_in (ps := [239]) (ws := [Cond.classLink (cnm 3) 9 ("[" ++ (FieldType.array .int).toString)]) (by decide +kernel) (by decide +kernel) List.mem_cons_self
theorem mgrd_1 (h : mH) (n k : Nat) : (mgrd h n k).1 = h.1 ++ (13, n) :: List.replicate n (10, k) := rfl
theorem s_grid {n1 n2 : Int} {r : List mV} (d : decode (codeOf mi) pc = .ok (.multianewarray 9 2, 4)) (hm : mown mi = 3) (a1 : 0 ≤ n1) (a2 : n1 ≤ 100) (b1 : 0 ≤ n2) (b2 : n2 ≤ 1000) :
    St3 G l mi pc ls (.inl n2 :: .inl n1 :: r) h (pc + 4) ls (.inr (.inr h.1.length) :: r) (mgrd h n1.toNat n2.toNat) (1 + n1.toNat) (n1.toNat + n1.toNat * n2.toNat) := by
  refine ⟨⟨by rw [mgrd_1]; exact List.prefix_append _ _, by rw [mgrd_1, List.length_append, List.length_cons, List.length_replicate]; omega, ?_⟩, ?_⟩
  · unfold msz
    rw [mgrd_1, List.map_append, List.sum_append, List.map_cons, List.sum_cons, List.map_replicate, List.sum_replicate_nat]
  intro p e R s m args below meth c C H locs cells slots Q L S hR hS hL hT hc hsl kk
  obtain ⟨w, S1, rfl, ⟨x2, rfl, rfl⟩, hT1⟩ := RL_cons hT
  obtain ⟨w, S2, rfl, ⟨x1, rfl, rfl⟩, hT2⟩ := RL_cons hT1
  have hts := C.2.2.2.2.1
  have z : (0 : Int32).toInt = 0 := rfl
  have hn : ¬ x1 < 0 := fun q => by rw [Int32.lt_iff_toInt_lt] at q; omega
  have hk : ¬ x2 < 0 := fun q => by rw [Int32.lt_iff_toInt_lt] at q; omega
  have ho := C.2.2.2.1
  rw [hm] at ho
  have haov : aov s := C.2.2.2.2.2.2.2.2.2.2.1.2.2.2.2.1
  have hN : x1.toNatClampNeg = x1.toInt.toNat := i32_cl x1
  have hM : x2.toNatClampNeg = x2.toInt.toNat := i32_cl x2
  have hmul : x1.toInt.toNat * x2.toInt.toNat ≤ 100 * 1000 := Nat.mul_le_mul (by omega) (by omega)
  intro T hT0 X
  obtain ⟨V, F, cA, comp, hV, hI, hO, hIn, X', step⟩ := mg_step X C.1 ho (hts _ grd_in) haov (hts _ arc_in.1) (L := L) (S := S2) (by rw [C.2.1]; exact d) hn hk (by omega) (by omega) (by rw [hN]; exact hc) (by rw [hN, hM]; exact hsl)
  rw [hN, hM] at X' hI
  rw [hM] at hIn
  obtain ⟨-, f1, hold, ⟨o, f2, o1, o2, o3, o4⟩, hrow⟩ := hI
  rw [hV] at hold
  rw [hT0] at f1 hold f2 o4 hrow
  have hlen : (mgrd h x1.toInt.toNat x2.toInt.toNat).1.length = h.1.length + 1 + x1.toInt.toNat := by rw [mgrd_1, List.length_append, List.length_cons, List.length_replicate]; omega
  have hro : ∀ j, rho G (h.1.length + 1 + j) = H.size + 1 + j := fun j => by
    unfold rho
    rw [if_neg (by have := hR.2.1; omega), hR.1]
    have := hR.2.1
    omega
  have hRep : Rep G s (mgrd h x1.toInt.toNat x2.toInt.toNat) F.heap := by
    have hR0 := hR
    obtain ⟨r1, r2, r3, r4⟩ := hR
    refine ⟨by rw [f1, hlen, r1]; omega, by rw [hlen]; omega, r3, fun k q hk hkq => ?_⟩
    rw [mgrd_1] at hkq
    by_cases hlt : k < h.1.length
    · rw [List.getElem?_append_left hlt] at hkq
      obtain ⟨cl, h5, h6⟩ := r4 k q hk hkq
      refine ⟨cl, by rw [hold _ (Array.getElem?_eq_some_iff.mp h5).1]; exact h5, ?_⟩
      have : (mgrd h x1.toInt.toNat x2.toInt.toNat).2 k = h.2 k := by funext i; simp [mgrd, Nat.ne_of_lt hlt, Nat.not_lt.mpr (Nat.le_of_lt hlt)]
      rw [this]
      exact h6
    · rw [List.getElem?_append_right (Nat.not_lt.mp hlt)] at hkq
      by_cases hk2 : k = h.1.length
      · subst hk2
        rw [Nat.sub_self] at hkq
        cases hkq
        refine ⟨_, by rw [rho_new hR0]; exact f2, Or.inr (Or.inl ⟨by omega, by omega, by omega, hO o o1 o2, by rw [o2]; exact fun q => VmData.noConfusion q, o3, fun j hj => ⟨_, o4 j hj, ?_⟩⟩)⟩
        have e : (mgrd h x1.toInt.toNat x2.toInt.toNat).2 h.1.length j = ((h.1.length + 1 + j : Nat) : Int) := by
          have hj' : j < x1.toInt.toNat := hj
          simp only [mgrd]
          rw [if_pos trivial, if_pos hj']
        rw [e]
        unfold RS
        rw [if_pos rfl, if_pos hj]
        refine ⟨by omega, ?_⟩
        show Value.ref (H.size + 1 + j) = _
        rw [Int.toNat_natCast, if_neg (by omega), hro]
      · obtain ⟨j, rfl⟩ : ∃ j, k = h.1.length + 1 + j := ⟨k - h.1.length - 1, by omega⟩
        have e9 : h.1.length + 1 + j - h.1.length = j + 1 := by omega
        rw [e9, List.getElem?_cons_succ] at hkq
        have hj : j < x1.toInt.toNat := by
          have := (List.getElem?_eq_some_iff.mp hkq).1
          rwa [List.length_replicate] at this
        rw [List.getElem?_replicate, if_pos hj] at hkq
        cases hkq
        refine ⟨_, by rw [hro]; exact hrow j hj, Or.inr (Or.inl ⟨by omega, by omega, by omega, hIn, fun q => VmData.noConfusion q, by simp [mgR], fun i hi => ⟨.int 0, ?_, ?_⟩⟩)⟩
        · simp only [mgR]
          rw [Array.getElem?_replicate, if_pos hi]
        · have e : (mgrd h x1.toInt.toNat x2.toInt.toNat).2 (h.1.length + 1 + j) i = 0 := by
            simp only [mgrd]
            rw [if_neg (by omega), if_pos (by omega)]
          rw [e]
          exact ⟨0, rfl, rfl⟩
  obtain ⟨t', q1, q2⟩ := kk F.heap locs L (.ref T.heap.size :: S2) hRep (vaS_new hS (by rw [f1]; omega) hold) hL ⟨by
    show Value.ref T.heap.size = _
    rw [if_neg (by have := hR.2.1; omega), rho_new hR, hT0], hT2⟩ F rfl X'
  exact ⟨t', step t' q1, q2⟩
end Steps
end
