section
-- ===== PART A: goes FIRST, ahead of the names: the tables' words, and 'selects' of the private methods out of them =====
/-- a private method of a class that the tables say can be made, by its rows of tables_1 -/
def lw_okq (q : MethodName × Nat) : Prop := (q.1.cls ≠ "java/lang/invoke/MethodHandle" ∧ q.1.cls ≠ "java/lang/invoke/VarHandle") ∧ Cond.instantiable q.1.cls q.2 ∈ tables_1 ∧ Cond.privateMethod q.1 ∈ tables_1 ∧ Cond.instanceMethod q.1 ∈ tables_1
theorem lw_p0 : lw_okq (⟨"TypedBlocks$Text", "readItem", "()Z"⟩, 4) := ⟨⟨by decide +kernel, by decide +kernel⟩, List.mem_of_getElem? (i := 23) (by decide +kernel), List.mem_of_getElem? (i := 227) (by decide +kernel), List.mem_of_getElem? (i := 228) (by decide +kernel)⟩
theorem lw_p1 : lw_okq (⟨"TypedBlocks$Text", "peek", "()I"⟩, 4) := ⟨⟨by decide +kernel, by decide +kernel⟩, List.mem_of_getElem? (i := 23) (by decide +kernel), List.mem_of_getElem? (i := 231) (by decide +kernel), List.mem_of_getElem? (i := 232) (by decide +kernel)⟩
theorem lw_p2 : lw_okq (⟨"TypedBlocks$Text", "readSort", "()Z"⟩, 4) := ⟨⟨by decide +kernel, by decide +kernel⟩, List.mem_of_getElem? (i := 23) (by decide +kernel), List.mem_of_getElem? (i := 235) (by decide +kernel), List.mem_of_getElem? (i := 236) (by decide +kernel)⟩
theorem lw_p3 : lw_okq (⟨"TypedBlocks$Text", "readFigure", "()I"⟩, 4) := ⟨⟨by decide +kernel, by decide +kernel⟩, List.mem_of_getElem? (i := 23) (by decide +kernel), List.mem_of_getElem? (i := 246) (by decide +kernel), List.mem_of_getElem? (i := 247) (by decide +kernel)⟩
theorem lw_p4 : lw_okq (⟨"TypedBlocks$Text", "passes", "(I)Z"⟩, 4) := ⟨⟨by decide +kernel, by decide +kernel⟩, List.mem_of_getElem? (i := 23) (by decide +kernel), List.mem_of_getElem? (i := 270) (by decide +kernel), List.mem_of_getElem? (i := 271) (by decide +kernel)⟩
theorem lw_p5 : lw_okq (⟨"TypedBlocks$Text", "readLabel", "()Z"⟩, 4) := ⟨⟨by decide +kernel, by decide +kernel⟩, List.mem_of_getElem? (i := 23) (by decide +kernel), List.mem_of_getElem? (i := 274) (by decide +kernel), List.mem_of_getElem? (i := 275) (by decide +kernel)⟩
theorem lw_p6 : lw_okq (⟨"TypedBlocks$Text", "isTold", "(I)Z"⟩, 4) := ⟨⟨by decide +kernel, by decide +kernel⟩, List.mem_of_getElem? (i := 23) (by decide +kernel), List.mem_of_getElem? (i := 282) (by decide +kernel), List.mem_of_getElem? (i := 283) (by decide +kernel)⟩
theorem lw_p7 : lw_okq (⟨"TypedBlocks$Text", "readNumber", "()I"⟩, 4) := ⟨⟨by decide +kernel, by decide +kernel⟩, List.mem_of_getElem? (i := 23) (by decide +kernel), List.mem_of_getElem? (i := 311) (by decide +kernel), List.mem_of_getElem? (i := 312) (by decide +kernel)⟩
theorem lw_p8 : lw_okq (⟨"TypedBlocks$Text", "readInstruction", "()Z"⟩, 4) := ⟨⟨by decide +kernel, by decide +kernel⟩, List.mem_of_getElem? (i := 23) (by decide +kernel), List.mem_of_getElem? (i := 323) (by decide +kernel), List.mem_of_getElem? (i := 324) (by decide +kernel)⟩
theorem lw_p9 : lw_okq (⟨"TypedBlocks$Checker", "wantsSuffice", "(II)Z"⟩, 10) := ⟨⟨by decide +kernel, by decide +kernel⟩, List.mem_of_getElem? (i := 58) (by decide +kernel), List.mem_of_getElem? (i := 531) (by decide +kernel), List.mem_of_getElem? (i := 532) (by decide +kernel)⟩
theorem lw_p10 : lw_okq (⟨"TypedBlocks$Checker", "begin", "(I)V"⟩, 10) := ⟨⟨by decide +kernel, by decide +kernel⟩, List.mem_of_getElem? (i := 58) (by decide +kernel), List.mem_of_getElem? (i := 555) (by decide +kernel), List.mem_of_getElem? (i := 556) (by decide +kernel)⟩
theorem lw_p11 : lw_okq (⟨"TypedBlocks$Checker", "push", "(I)Z"⟩, 10) := ⟨⟨by decide +kernel, by decide +kernel⟩, List.mem_of_getElem? (i := 58) (by decide +kernel), List.mem_of_getElem? (i := 559) (by decide +kernel), List.mem_of_getElem? (i := 560) (by decide +kernel)⟩
theorem lw_p12 : lw_okq (⟨"TypedBlocks$Checker", "step", "(II)I"⟩, 10) := ⟨⟨by decide +kernel, by decide +kernel⟩, List.mem_of_getElem? (i := 58) (by decide +kernel), List.mem_of_getElem? (i := 563) (by decide +kernel), List.mem_of_getElem? (i := 564) (by decide +kernel)⟩
theorem lw_p13 : lw_okq (⟨"TypedBlocks$Checker", "setRegister", "(II)V"⟩, 10) := ⟨⟨by decide +kernel, by decide +kernel⟩, List.mem_of_getElem? (i := 58) (by decide +kernel), List.mem_of_getElem? (i := 572) (by decide +kernel), List.mem_of_getElem? (i := 573) (by decide +kernel)⟩
theorem lw_p14 : lw_okq (⟨"TypedBlocks$Checker", "tuple", "(II)I"⟩, 10) := ⟨⟨by decide +kernel, by decide +kernel⟩, List.mem_of_getElem? (i := 58) (by decide +kernel), List.mem_of_getElem? (i := 576) (by decide +kernel), List.mem_of_getElem? (i := 577) (by decide +kernel)⟩
theorem lw_p15 : lw_okq (⟨"TypedBlocks$Checker", "fieldsOf", "(I)I"⟩, 10) := ⟨⟨by decide +kernel, by decide +kernel⟩, List.mem_of_getElem? (i := 58) (by decide +kernel), List.mem_of_getElem? (i := 580) (by decide +kernel), List.mem_of_getElem? (i := 581) (by decide +kernel)⟩
def lw_privs_1 : List (MethodName × Nat) := [(⟨"TypedBlocks$Text", "readItem", "()Z"⟩, 4), (⟨"TypedBlocks$Text", "peek", "()I"⟩, 4), (⟨"TypedBlocks$Text", "readSort", "()Z"⟩, 4), (⟨"TypedBlocks$Text", "readFigure", "()I"⟩, 4), (⟨"TypedBlocks$Text", "passes", "(I)Z"⟩, 4), (⟨"TypedBlocks$Text", "readLabel", "()Z"⟩, 4), (⟨"TypedBlocks$Text", "isTold", "(I)Z"⟩, 4), (⟨"TypedBlocks$Text", "readNumber", "()I"⟩, 4), (⟨"TypedBlocks$Text", "readInstruction", "()Z"⟩, 4), (⟨"TypedBlocks$Checker", "wantsSuffice", "(II)Z"⟩, 10), (⟨"TypedBlocks$Checker", "begin", "(I)V"⟩, 10), (⟨"TypedBlocks$Checker", "push", "(I)Z"⟩, 10), (⟨"TypedBlocks$Checker", "step", "(II)I"⟩, 10), (⟨"TypedBlocks$Checker", "setRegister", "(II)V"⟩, 10), (⟨"TypedBlocks$Checker", "tuple", "(II)I"⟩, 10), (⟨"TypedBlocks$Checker", "fieldsOf", "(I)I"⟩, 10)]
theorem lw_r1 : ∀ q ∈ lw_privs_1, lw_okq q := List.forall_mem_cons.mpr ⟨lw_p0, List.forall_mem_cons.mpr ⟨lw_p1, List.forall_mem_cons.mpr ⟨lw_p2, List.forall_mem_cons.mpr ⟨lw_p3, List.forall_mem_cons.mpr ⟨lw_p4, List.forall_mem_cons.mpr ⟨lw_p5, List.forall_mem_cons.mpr ⟨lw_p6, List.forall_mem_cons.mpr ⟨lw_p7, List.forall_mem_cons.mpr ⟨lw_p8, List.forall_mem_cons.mpr ⟨lw_p9, List.forall_mem_cons.mpr ⟨lw_p10, List.forall_mem_cons.mpr ⟨lw_p11, List.forall_mem_cons.mpr ⟨lw_p12, List.forall_mem_cons.mpr ⟨lw_p13, List.forall_mem_cons.mpr ⟨lw_p14, List.forall_mem_cons.mpr ⟨lw_p15, fun _ h => absurd h List.not_mem_nil⟩⟩⟩⟩⟩⟩⟩⟩⟩⟩⟩⟩⟩⟩⟩⟩
theorem lw_p16 : lw_okq (⟨"TypedBlocks$Checker", "setField", "(III)I"⟩, 10) := ⟨⟨by decide +kernel, by decide +kernel⟩, List.mem_of_getElem? (i := 58) (by decide +kernel), List.mem_of_getElem? (i := 584) (by decide +kernel), List.mem_of_getElem? (i := 585) (by decide +kernel)⟩
theorem lw_p17 : lw_okq (⟨"TypedBlocks$Checker", "isEnough", "(II)Z"⟩, 10) := ⟨⟨by decide +kernel, by decide +kernel⟩, List.mem_of_getElem? (i := 58) (by decide +kernel), List.mem_of_getElem? (i := 595) (by decide +kernel), List.mem_of_getElem? (i := 596) (by decide +kernel)⟩
theorem lw_p18 : lw_okq (⟨"TypedBlocks$Checker", "fieldsSet", "(I)I"⟩, 10) := ⟨⟨by decide +kernel, by decide +kernel⟩, List.mem_of_getElem? (i := 58) (by decide +kernel), List.mem_of_getElem? (i := 602) (by decide +kernel), List.mem_of_getElem? (i := 603) (by decide +kernel)⟩
theorem lw_p19 : lw_okq (⟨"TypedBlocks$Checker", "getField", "(III)I"⟩, 10) := ⟨⟨by decide +kernel, by decide +kernel⟩, List.mem_of_getElem? (i := 58) (by decide +kernel), List.mem_of_getElem? (i := 606) (by decide +kernel), List.mem_of_getElem? (i := 607) (by decide +kernel)⟩
theorem lw_p20 : lw_okq (⟨"TypedBlocks$Checker", "pop", "(I)I"⟩, 10) := ⟨⟨by decide +kernel, by decide +kernel⟩, List.mem_of_getElem? (i := 58) (by decide +kernel), List.mem_of_getElem? (i := 610) (by decide +kernel), List.mem_of_getElem? (i := 611) (by decide +kernel)⟩
theorem lw_p21 : lw_okq (⟨"TypedBlocks$Checker", "jump", "(I)I"⟩, 10) := ⟨⟨by decide +kernel, by decide +kernel⟩, List.mem_of_getElem? (i := 58) (by decide +kernel), List.mem_of_getElem? (i := 618) (by decide +kernel), List.mem_of_getElem? (i := 619) (by decide +kernel)⟩
theorem lw_p22 : lw_okq (⟨"TypedBlocks", "mendsBy", "(III)Z"⟩, 7) := ⟨⟨by decide +kernel, by decide +kernel⟩, List.mem_of_getElem? (i := 15) (by decide +kernel), List.mem_of_getElem? (i := 665) (by decide +kernel), List.mem_of_getElem? (i := 666) (by decide +kernel)⟩
theorem lw_p23 : lw_okq (⟨"TypedBlocks$Machine", "makeFirstTuples", "(I)V"⟩, 11) := ⟨⟨by decide +kernel, by decide +kernel⟩, List.mem_of_getElem? (i := 101) (by decide +kernel), List.mem_of_getElem? (i := 677) (by decide +kernel), List.mem_of_getElem? (i := 678) (by decide +kernel)⟩
theorem lw_p24 : lw_okq (⟨"TypedBlocks$Machine", "push", "(I)Z"⟩, 11) := ⟨⟨by decide +kernel, by decide +kernel⟩, List.mem_of_getElem? (i := 101) (by decide +kernel), List.mem_of_getElem? (i := 688) (by decide +kernel), List.mem_of_getElem? (i := 689) (by decide +kernel)⟩
theorem lw_p25 : lw_okq (⟨"TypedBlocks$Machine", "goTo", "(I)V"⟩, 11) := ⟨⟨by decide +kernel, by decide +kernel⟩, List.mem_of_getElem? (i := 101) (by decide +kernel), List.mem_of_getElem? (i := 692) (by decide +kernel), List.mem_of_getElem? (i := 693) (by decide +kernel)⟩
theorem lw_p26 : lw_okq (⟨"TypedBlocks$Machine", "step", "()I"⟩, 11) := ⟨⟨by decide +kernel, by decide +kernel⟩, List.mem_of_getElem? (i := 101) (by decide +kernel), List.mem_of_getElem? (i := 701) (by decide +kernel), List.mem_of_getElem? (i := 702) (by decide +kernel)⟩
theorem lw_p27 : lw_okq (⟨"TypedBlocks$Machine", "goOnWith", "(II)I"⟩, 11) := ⟨⟨by decide +kernel, by decide +kernel⟩, List.mem_of_getElem? (i := 101) (by decide +kernel), List.mem_of_getElem? (i := 710) (by decide +kernel), List.mem_of_getElem? (i := 711) (by decide +kernel)⟩
theorem lw_p28 : lw_okq (⟨"TypedBlocks$Machine", "goOnBehind", "()I"⟩, 11) := ⟨⟨by decide +kernel, by decide +kernel⟩, List.mem_of_getElem? (i := 101) (by decide +kernel), List.mem_of_getElem? (i := 714) (by decide +kernel), List.mem_of_getElem? (i := 715) (by decide +kernel)⟩
theorem lw_p29 : lw_okq (⟨"TypedBlocks$Machine", "sum", "(II)I"⟩, 11) := ⟨⟨by decide +kernel, by decide +kernel⟩, List.mem_of_getElem? (i := 101) (by decide +kernel), List.mem_of_getElem? (i := 718) (by decide +kernel), List.mem_of_getElem? (i := 719) (by decide +kernel)⟩
theorem lw_p30 : lw_okq (⟨"TypedBlocks$Machine", "makeTuple", "(II)I"⟩, 11) := ⟨⟨by decide +kernel, by decide +kernel⟩, List.mem_of_getElem? (i := 101) (by decide +kernel), List.mem_of_getElem? (i := 725) (by decide +kernel), List.mem_of_getElem? (i := 726) (by decide +kernel)⟩
theorem lw_p31 : lw_okq (⟨"TypedBlocks$Machine", "setField", "(III)I"⟩, 11) := ⟨⟨by decide +kernel, by decide +kernel⟩, List.mem_of_getElem? (i := 101) (by decide +kernel), List.mem_of_getElem? (i := 729) (by decide +kernel), List.mem_of_getElem? (i := 730) (by decide +kernel)⟩
def lw_privs_2 : List (MethodName × Nat) := [(⟨"TypedBlocks$Checker", "setField", "(III)I"⟩, 10), (⟨"TypedBlocks$Checker", "isEnough", "(II)Z"⟩, 10), (⟨"TypedBlocks$Checker", "fieldsSet", "(I)I"⟩, 10), (⟨"TypedBlocks$Checker", "getField", "(III)I"⟩, 10), (⟨"TypedBlocks$Checker", "pop", "(I)I"⟩, 10), (⟨"TypedBlocks$Checker", "jump", "(I)I"⟩, 10), (⟨"TypedBlocks", "mendsBy", "(III)Z"⟩, 7), (⟨"TypedBlocks$Machine", "makeFirstTuples", "(I)V"⟩, 11), (⟨"TypedBlocks$Machine", "push", "(I)Z"⟩, 11), (⟨"TypedBlocks$Machine", "goTo", "(I)V"⟩, 11), (⟨"TypedBlocks$Machine", "step", "()I"⟩, 11), (⟨"TypedBlocks$Machine", "goOnWith", "(II)I"⟩, 11), (⟨"TypedBlocks$Machine", "goOnBehind", "()I"⟩, 11), (⟨"TypedBlocks$Machine", "sum", "(II)I"⟩, 11), (⟨"TypedBlocks$Machine", "makeTuple", "(II)I"⟩, 11), (⟨"TypedBlocks$Machine", "setField", "(III)I"⟩, 11)]
theorem lw_r2 : ∀ q ∈ lw_privs_2, lw_okq q := List.forall_mem_cons.mpr ⟨lw_p16, List.forall_mem_cons.mpr ⟨lw_p17, List.forall_mem_cons.mpr ⟨lw_p18, List.forall_mem_cons.mpr ⟨lw_p19, List.forall_mem_cons.mpr ⟨lw_p20, List.forall_mem_cons.mpr ⟨lw_p21, List.forall_mem_cons.mpr ⟨lw_p22, List.forall_mem_cons.mpr ⟨lw_p23, List.forall_mem_cons.mpr ⟨lw_p24, List.forall_mem_cons.mpr ⟨lw_p25, List.forall_mem_cons.mpr ⟨lw_p26, List.forall_mem_cons.mpr ⟨lw_p27, List.forall_mem_cons.mpr ⟨lw_p28, List.forall_mem_cons.mpr ⟨lw_p29, List.forall_mem_cons.mpr ⟨lw_p30, List.forall_mem_cons.mpr ⟨lw_p31, fun _ h => absurd h List.not_mem_nil⟩⟩⟩⟩⟩⟩⟩⟩⟩⟩⟩⟩⟩⟩⟩⟩
theorem lw_p32 : lw_okq (⟨"TypedBlocks$Machine", "fieldAt", "(II)I"⟩, 11) := ⟨⟨by decide +kernel, by decide +kernel⟩, List.mem_of_getElem? (i := 101) (by decide +kernel), List.mem_of_getElem? (i := 733) (by decide +kernel), List.mem_of_getElem? (i := 734) (by decide +kernel)⟩
theorem lw_p33 : lw_okq (⟨"TypedBlocks$Machine", "getField", "(III)I"⟩, 11) := ⟨⟨by decide +kernel, by decide +kernel⟩, List.mem_of_getElem? (i := 101) (by decide +kernel), List.mem_of_getElem? (i := 738) (by decide +kernel), List.mem_of_getElem? (i := 739) (by decide +kernel)⟩
theorem lw_p34 : lw_okq (⟨"TypedBlocks$Machine", "pop", "(I)I"⟩, 11) := ⟨⟨by decide +kernel, by decide +kernel⟩, List.mem_of_getElem? (i := 101) (by decide +kernel), List.mem_of_getElem? (i := 742) (by decide +kernel), List.mem_of_getElem? (i := 743) (by decide +kernel)⟩
theorem lw_p35 : lw_okq (⟨"TypedBlocks$Machine", "leave", "(III)I"⟩, 11) := ⟨⟨by decide +kernel, by decide +kernel⟩, List.mem_of_getElem? (i := 101) (by decide +kernel), List.mem_of_getElem? (i := 746) (by decide +kernel), List.mem_of_getElem? (i := 747) (by decide +kernel)⟩
theorem lw_p36 : lw_okq (⟨"TypedBlocks$Machine", "goOnAt", "(I)I"⟩, 11) := ⟨⟨by decide +kernel, by decide +kernel⟩, List.mem_of_getElem? (i := 101) (by decide +kernel), List.mem_of_getElem? (i := 750) (by decide +kernel), List.mem_of_getElem? (i := 751) (by decide +kernel)⟩
theorem lw_p37 : lw_okq (⟨"TypedBlocks", "change", "(I)V"⟩, 7) := ⟨⟨by decide +kernel, by decide +kernel⟩, List.mem_of_getElem? (i := 15) (by decide +kernel), List.mem_of_getElem? (i := 769) (by decide +kernel), List.mem_of_getElem? (i := 770) (by decide +kernel)⟩
theorem lw_p38 : lw_okq (⟨"TypedBlocksModel", "begins", "()V"⟩, 37) := ⟨⟨by decide +kernel, by decide +kernel⟩, List.mem_of_getElem? (i := 798) (by decide +kernel), List.mem_of_getElem? (i := 804) (by decide +kernel), List.mem_of_getElem? (i := 805) (by decide +kernel)⟩
theorem lw_p39 : lw_okq (⟨"TypedBlocksModel", "tellsSort", "(II)V"⟩, 37) := ⟨⟨by decide +kernel, by decide +kernel⟩, List.mem_of_getElem? (i := 798) (by decide +kernel), List.mem_of_getElem? (i := 808) (by decide +kernel), List.mem_of_getElem? (i := 809) (by decide +kernel)⟩
theorem lw_p40 : lw_okq (⟨"TypedBlocksModel", "tellsLabel", "(III)V"⟩, 37) := ⟨⟨by decide +kernel, by decide +kernel⟩, List.mem_of_getElem? (i := 798) (by decide +kernel), List.mem_of_getElem? (i := 812) (by decide +kernel), List.mem_of_getElem? (i := 813) (by decide +kernel)⟩
theorem lw_p41 : lw_okq (⟨"TypedBlocksModel", "tells", "(IIII)V"⟩, 37) := ⟨⟨by decide +kernel, by decide +kernel⟩, List.mem_of_getElem? (i := 798) (by decide +kernel), List.mem_of_getElem? (i := 816) (by decide +kernel), List.mem_of_getElem? (i := 817) (by decide +kernel)⟩
theorem lw_p42 : lw_okq (⟨"TypedBlocksModel", "settles", "()V"⟩, 37) := ⟨⟨by decide +kernel, by decide +kernel⟩, List.mem_of_getElem? (i := 798) (by decide +kernel), List.mem_of_getElem? (i := 820) (by decide +kernel), List.mem_of_getElem? (i := 821) (by decide +kernel)⟩
theorem lw_p43 : lw_okq (⟨"TypedBlocksModel", "reads", "()V"⟩, 37) := ⟨⟨by decide +kernel, by decide +kernel⟩, List.mem_of_getElem? (i := 798) (by decide +kernel), List.mem_of_getElem? (i := 953) (by decide +kernel), List.mem_of_getElem? (i := 954) (by decide +kernel)⟩
theorem lw_p44 : lw_okq (⟨"TypedBlocksModel", "letterAt", "(I)I"⟩, 37) := ⟨⟨by decide +kernel, by decide +kernel⟩, List.mem_of_getElem? (i := 798) (by decide +kernel), List.mem_of_getElem? (i := 957) (by decide +kernel), List.mem_of_getElem? (i := 958) (by decide +kernel)⟩
theorem lw_p45 : lw_okq (⟨"TypedBlocksModel", "sortItem", "()V"⟩, 37) := ⟨⟨by decide +kernel, by decide +kernel⟩, List.mem_of_getElem? (i := 798) (by decide +kernel), List.mem_of_getElem? (i := 961) (by decide +kernel), List.mem_of_getElem? (i := 962) (by decide +kernel)⟩
theorem lw_p46 : lw_okq (⟨"TypedBlocksModel", "isFigure", "()Z"⟩, 37) := ⟨⟨by decide +kernel, by decide +kernel⟩, List.mem_of_getElem? (i := 798) (by decide +kernel), List.mem_of_getElem? (i := 965) (by decide +kernel), List.mem_of_getElem? (i := 966) (by decide +kernel)⟩
theorem lw_p47 : lw_okq (⟨"TypedBlocksModel", "labelItem", "()V"⟩, 37) := ⟨⟨by decide +kernel, by decide +kernel⟩, List.mem_of_getElem? (i := 798) (by decide +kernel), List.mem_of_getElem? (i := 971) (by decide +kernel), List.mem_of_getElem? (i := 972) (by decide +kernel)⟩
def lw_privs_3 : List (MethodName × Nat) := [(⟨"TypedBlocks$Machine", "fieldAt", "(II)I"⟩, 11), (⟨"TypedBlocks$Machine", "getField", "(III)I"⟩, 11), (⟨"TypedBlocks$Machine", "pop", "(I)I"⟩, 11), (⟨"TypedBlocks$Machine", "leave", "(III)I"⟩, 11), (⟨"TypedBlocks$Machine", "goOnAt", "(I)I"⟩, 11), (⟨"TypedBlocks", "change", "(I)V"⟩, 7), (⟨"TypedBlocksModel", "begins", "()V"⟩, 37), (⟨"TypedBlocksModel", "tellsSort", "(II)V"⟩, 37), (⟨"TypedBlocksModel", "tellsLabel", "(III)V"⟩, 37), (⟨"TypedBlocksModel", "tells", "(IIII)V"⟩, 37), (⟨"TypedBlocksModel", "settles", "()V"⟩, 37), (⟨"TypedBlocksModel", "reads", "()V"⟩, 37), (⟨"TypedBlocksModel", "letterAt", "(I)I"⟩, 37), (⟨"TypedBlocksModel", "sortItem", "()V"⟩, 37), (⟨"TypedBlocksModel", "isFigure", "()Z"⟩, 37), (⟨"TypedBlocksModel", "labelItem", "()V"⟩, 37)]
theorem lw_r3 : ∀ q ∈ lw_privs_3, lw_okq q := List.forall_mem_cons.mpr ⟨lw_p32, List.forall_mem_cons.mpr ⟨lw_p33, List.forall_mem_cons.mpr ⟨lw_p34, List.forall_mem_cons.mpr ⟨lw_p35, List.forall_mem_cons.mpr ⟨lw_p36, List.forall_mem_cons.mpr ⟨lw_p37, List.forall_mem_cons.mpr ⟨lw_p38, List.forall_mem_cons.mpr ⟨lw_p39, List.forall_mem_cons.mpr ⟨lw_p40, List.forall_mem_cons.mpr ⟨lw_p41, List.forall_mem_cons.mpr ⟨lw_p42, List.forall_mem_cons.mpr ⟨lw_p43, List.forall_mem_cons.mpr ⟨lw_p44, List.forall_mem_cons.mpr ⟨lw_p45, List.forall_mem_cons.mpr ⟨lw_p46, List.forall_mem_cons.mpr ⟨lw_p47, fun _ h => absurd h List.not_mem_nil⟩⟩⟩⟩⟩⟩⟩⟩⟩⟩⟩⟩⟩⟩⟩⟩
theorem lw_p48 : lw_okq (⟨"TypedBlocksModel", "type", "()I"⟩, 37) := ⟨⟨by decide +kernel, by decide +kernel⟩, List.mem_of_getElem? (i := 798) (by decide +kernel), List.mem_of_getElem? (i := 975) (by decide +kernel), List.mem_of_getElem? (i := 976) (by decide +kernel)⟩
theorem lw_p49 : lw_okq (⟨"TypedBlocksModel", "comma", "()V"⟩, 37) := ⟨⟨by decide +kernel, by decide +kernel⟩, List.mem_of_getElem? (i := 798) (by decide +kernel), List.mem_of_getElem? (i := 981) (by decide +kernel), List.mem_of_getElem? (i := 982) (by decide +kernel)⟩
theorem lw_p50 : lw_okq (⟨"TypedBlocksModel", "number", "(II)I"⟩, 37) := ⟨⟨by decide +kernel, by decide +kernel⟩, List.mem_of_getElem? (i := 798) (by decide +kernel), List.mem_of_getElem? (i := 985) (by decide +kernel), List.mem_of_getElem? (i := 986) (by decide +kernel)⟩
theorem lw_p51 : lw_okq (⟨"TypedBlocksModel", "codeItem", "()V"⟩, 37) := ⟨⟨by decide +kernel, by decide +kernel⟩, List.mem_of_getElem? (i := 798) (by decide +kernel), List.mem_of_getElem? (i := 989) (by decide +kernel), List.mem_of_getElem? (i := 990) (by decide +kernel)⟩
theorem lw_p52 : lw_okq (⟨"TypedBlocksModel", "isLabel", "(I)Z"⟩, 37) := ⟨⟨by decide +kernel, by decide +kernel⟩, List.mem_of_getElem? (i := 798) (by decide +kernel), List.mem_of_getElem? (i := 1013) (by decide +kernel), List.mem_of_getElem? (i := 1014) (by decide +kernel)⟩
theorem lw_p53 : lw_okq (⟨"TypedBlocksModel", "many", "(II)I"⟩, 37) := ⟨⟨by decide +kernel, by decide +kernel⟩, List.mem_of_getElem? (i := 798) (by decide +kernel), List.mem_of_getElem? (i := 1019) (by decide +kernel), List.mem_of_getElem? (i := 1020) (by decide +kernel)⟩
theorem lw_p54 : lw_okq (⟨"TypedBlocksModel", "isCode", "(II)Z"⟩, 37) := ⟨⟨by decide +kernel, by decide +kernel⟩, List.mem_of_getElem? (i := 798) (by decide +kernel), List.mem_of_getElem? (i := 1027) (by decide +kernel), List.mem_of_getElem? (i := 1028) (by decide +kernel)⟩
theorem lw_p55 : lw_okq (⟨"TypedBlocksModel", "known", "()V"⟩, 37) := ⟨⟨by decide +kernel, by decide +kernel⟩, List.mem_of_getElem? (i := 798) (by decide +kernel), List.mem_of_getElem? (i := 1039) (by decide +kernel), List.mem_of_getElem? (i := 1040) (by decide +kernel)⟩
theorem lw_p56 : lw_okq (⟨"TypedBlocksModel", "copies", "(II)V"⟩, 37) := ⟨⟨by decide +kernel, by decide +kernel⟩, List.mem_of_getElem? (i := 798) (by decide +kernel), List.mem_of_getElem? (i := 1043) (by decide +kernel), List.mem_of_getElem? (i := 1044) (by decide +kernel)⟩
theorem lw_p57 : lw_okq (⟨"TypedBlocksModel", "writes", "(IIIIIII)V"⟩, 37) := ⟨⟨by decide +kernel, by decide +kernel⟩, List.mem_of_getElem? (i := 798) (by decide +kernel), List.mem_of_getElem? (i := 1047) (by decide +kernel), List.mem_of_getElem? (i := 1048) (by decide +kernel)⟩
theorem lw_p58 : lw_okq (⟨"TypedBlocksModel", "isType", "(I)Z"⟩, 37) := ⟨⟨by decide +kernel, by decide +kernel⟩, List.mem_of_getElem? (i := 798) (by decide +kernel), List.mem_of_getElem? (i := 1063) (by decide +kernel), List.mem_of_getElem? (i := 1064) (by decide +kernel)⟩
theorem lw_p59 : lw_okq (⟨"TypedBlocksModel", "checks", "(III)V"⟩, 37) := ⟨⟨by decide +kernel, by decide +kernel⟩, List.mem_of_getElem? (i := 798) (by decide +kernel), List.mem_of_getElem? (i := 1080) (by decide +kernel), List.mem_of_getElem? (i := 1081) (by decide +kernel)⟩
theorem lw_p60 : lw_okq (⟨"TypedBlocksModel", "stands", "(II)V"⟩, 37) := ⟨⟨by decide +kernel, by decide +kernel⟩, List.mem_of_getElem? (i := 798) (by decide +kernel), List.mem_of_getElem? (i := 1084) (by decide +kernel), List.mem_of_getElem? (i := 1085) (by decide +kernel)⟩
theorem lw_p61 : lw_okq (⟨"TypedBlocksModel", "goes", "(II)I"⟩, 37) := ⟨⟨by decide +kernel, by decide +kernel⟩, List.mem_of_getElem? (i := 798) (by decide +kernel), List.mem_of_getElem? (i := 1088) (by decide +kernel), List.mem_of_getElem? (i := 1089) (by decide +kernel)⟩
theorem lw_p62 : lw_okq (⟨"TypedBlocksModel", "moves", "(II)I"⟩, 37) := ⟨⟨by decide +kernel, by decide +kernel⟩, List.mem_of_getElem? (i := 798) (by decide +kernel), List.mem_of_getElem? (i := 1092) (by decide +kernel), List.mem_of_getElem? (i := 1093) (by decide +kernel)⟩
theorem lw_p63 : lw_okq (⟨"TypedBlocksModel", "puts", "(IIII)I"⟩, 37) := ⟨⟨by decide +kernel, by decide +kernel⟩, List.mem_of_getElem? (i := 798) (by decide +kernel), List.mem_of_getElem? (i := 1096) (by decide +kernel), List.mem_of_getElem? (i := 1097) (by decide +kernel)⟩
def lw_privs_4 : List (MethodName × Nat) := [(⟨"TypedBlocksModel", "type", "()I"⟩, 37), (⟨"TypedBlocksModel", "comma", "()V"⟩, 37), (⟨"TypedBlocksModel", "number", "(II)I"⟩, 37), (⟨"TypedBlocksModel", "codeItem", "()V"⟩, 37), (⟨"TypedBlocksModel", "isLabel", "(I)Z"⟩, 37), (⟨"TypedBlocksModel", "many", "(II)I"⟩, 37), (⟨"TypedBlocksModel", "isCode", "(II)Z"⟩, 37), (⟨"TypedBlocksModel", "known", "()V"⟩, 37), (⟨"TypedBlocksModel", "copies", "(II)V"⟩, 37), (⟨"TypedBlocksModel", "writes", "(IIIIIII)V"⟩, 37), (⟨"TypedBlocksModel", "isType", "(I)Z"⟩, 37), (⟨"TypedBlocksModel", "checks", "(III)V"⟩, 37), (⟨"TypedBlocksModel", "stands", "(II)V"⟩, 37), (⟨"TypedBlocksModel", "goes", "(II)I"⟩, 37), (⟨"TypedBlocksModel", "moves", "(II)I"⟩, 37), (⟨"TypedBlocksModel", "puts", "(IIII)I"⟩, 37)]
theorem lw_r4 : ∀ q ∈ lw_privs_4, lw_okq q := List.forall_mem_cons.mpr ⟨lw_p48, List.forall_mem_cons.mpr ⟨lw_p49, List.forall_mem_cons.mpr ⟨lw_p50, List.forall_mem_cons.mpr ⟨lw_p51, List.forall_mem_cons.mpr ⟨lw_p52, List.forall_mem_cons.mpr ⟨lw_p53, List.forall_mem_cons.mpr ⟨lw_p54, List.forall_mem_cons.mpr ⟨lw_p55, List.forall_mem_cons.mpr ⟨lw_p56, List.forall_mem_cons.mpr ⟨lw_p57, List.forall_mem_cons.mpr ⟨lw_p58, List.forall_mem_cons.mpr ⟨lw_p59, List.forall_mem_cons.mpr ⟨lw_p60, List.forall_mem_cons.mpr ⟨lw_p61, List.forall_mem_cons.mpr ⟨lw_p62, List.forall_mem_cons.mpr ⟨lw_p63, fun _ h => absurd h List.not_mem_nil⟩⟩⟩⟩⟩⟩⟩⟩⟩⟩⟩⟩⟩⟩⟩⟩
theorem lw_p64 : lw_okq (⟨"TypedBlocksModel", "isEnough", "(III)Z"⟩, 37) := ⟨⟨by decide +kernel, by decide +kernel⟩, List.mem_of_getElem? (i := 798) (by decide +kernel), List.mem_of_getElem? (i := 1106) (by decide +kernel), List.mem_of_getElem? (i := 1107) (by decide +kernel)⟩
theorem lw_p65 : lw_okq (⟨"TypedBlocksModel", "joinsFlat", "(III)Z"⟩, 37) := ⟨⟨by decide +kernel, by decide +kernel⟩, List.mem_of_getElem? (i := 798) (by decide +kernel), List.mem_of_getElem? (i := 1110) (by decide +kernel), List.mem_of_getElem? (i := 1111) (by decide +kernel)⟩
theorem lw_p66 : lw_okq (⟨"TypedBlocksModel", "setOf", "(I)I"⟩, 37) := ⟨⟨by decide +kernel, by decide +kernel⟩, List.mem_of_getElem? (i := 798) (by decide +kernel), List.mem_of_getElem? (i := 1114) (by decide +kernel), List.mem_of_getElem? (i := 1115) (by decide +kernel)⟩
theorem lw_p67 : lw_okq (⟨"TypedBlocksModel", "gets", "(III)I"⟩, 37) := ⟨⟨by decide +kernel, by decide +kernel⟩, List.mem_of_getElem? (i := 798) (by decide +kernel), List.mem_of_getElem? (i := 1118) (by decide +kernel), List.mem_of_getElem? (i := 1119) (by decide +kernel)⟩
theorem lw_p68 : lw_okq (⟨"TypedBlocksModel", "pushes", "(I)I"⟩, 37) := ⟨⟨by decide +kernel, by decide +kernel⟩, List.mem_of_getElem? (i := 798) (by decide +kernel), List.mem_of_getElem? (i := 1125) (by decide +kernel), List.mem_of_getElem? (i := 1126) (by decide +kernel)⟩
theorem lw_p69 : lw_okq (⟨"TypedBlocksModel", "pops", "(I)I"⟩, 37) := ⟨⟨by decide +kernel, by decide +kernel⟩, List.mem_of_getElem? (i := 798) (by decide +kernel), List.mem_of_getElem? (i := 1129) (by decide +kernel), List.mem_of_getElem? (i := 1130) (by decide +kernel)⟩
theorem lw_p70 : lw_okq (⟨"TypedBlocksModel", "jumps", "(II)I"⟩, 37) := ⟨⟨by decide +kernel, by decide +kernel⟩, List.mem_of_getElem? (i := 798) (by decide +kernel), List.mem_of_getElem? (i := 1133) (by decide +kernel), List.mem_of_getElem? (i := 1134) (by decide +kernel)⟩
theorem lw_p71 : lw_okq (⟨"TypedBlocksModel", "areEnough", "(II)Z"⟩, 37) := ⟨⟨by decide +kernel, by decide +kernel⟩, List.mem_of_getElem? (i := 798) (by decide +kernel), List.mem_of_getElem? (i := 1137) (by decide +kernel), List.mem_of_getElem? (i := 1138) (by decide +kernel)⟩
theorem lw_p72 : lw_okq (⟨"TypedBlocksModel", "isStackEnough", "(II)Z"⟩, 37) := ⟨⟨by decide +kernel, by decide +kernel⟩, List.mem_of_getElem? (i := 798) (by decide +kernel), List.mem_of_getElem? (i := 1141) (by decide +kernel), List.mem_of_getElem? (i := 1142) (by decide +kernel)⟩
theorem lw_p73 : lw_okq (⟨"TypedBlocksModel", "sureOnes", "(I)I"⟩, 37) := ⟨⟨by decide +kernel, by decide +kernel⟩, List.mem_of_getElem? (i := 798) (by decide +kernel), List.mem_of_getElem? (i := 1161) (by decide +kernel), List.mem_of_getElem? (i := 1162) (by decide +kernel)⟩
theorem lw_p74 : lw_okq (⟨"TypedBlocksModel", "isSure", "(II)Z"⟩, 37) := ⟨⟨by decide +kernel, by decide +kernel⟩, List.mem_of_getElem? (i := 798) (by decide +kernel), List.mem_of_getElem? (i := 1165) (by decide +kernel), List.mem_of_getElem? (i := 1166) (by decide +kernel)⟩
theorem lw_p75 : lw_okq (⟨"TypedBlocksModel", "starts", "(I)V"⟩, 37) := ⟨⟨by decide +kernel, by decide +kernel⟩, List.mem_of_getElem? (i := 798) (by decide +kernel), List.mem_of_getElem? (i := 1192) (by decide +kernel), List.mem_of_getElem? (i := 1193) (by decide +kernel)⟩
theorem lw_p76 : lw_okq (⟨"TypedBlocksModel", "step", "()V"⟩, 37) := ⟨⟨by decide +kernel, by decide +kernel⟩, List.mem_of_getElem? (i := 798) (by decide +kernel), List.mem_of_getElem? (i := 1199) (by decide +kernel), List.mem_of_getElem? (i := 1200) (by decide +kernel)⟩
theorem lw_p77 : lw_okq (⟨"TypedBlocksModel", "lands", "(II)V"⟩, 37) := ⟨⟨by decide +kernel, by decide +kernel⟩, List.mem_of_getElem? (i := 798) (by decide +kernel), List.mem_of_getElem? (i := 1203) (by decide +kernel), List.mem_of_getElem? (i := 1204) (by decide +kernel)⟩
theorem lw_p78 : lw_okq (⟨"TypedBlocksModel", "adds", "(II)V"⟩, 37) := ⟨⟨by decide +kernel, by decide +kernel⟩, List.mem_of_getElem? (i := 798) (by decide +kernel), List.mem_of_getElem? (i := 1207) (by decide +kernel), List.mem_of_getElem? (i := 1208) (by decide +kernel)⟩
theorem lw_p79 : lw_okq (⟨"TypedBlocksModel", "makes", "(II)V"⟩, 37) := ⟨⟨by decide +kernel, by decide +kernel⟩, List.mem_of_getElem? (i := 798) (by decide +kernel), List.mem_of_getElem? (i := 1214) (by decide +kernel), List.mem_of_getElem? (i := 1215) (by decide +kernel)⟩
def lw_privs_5 : List (MethodName × Nat) := [(⟨"TypedBlocksModel", "isEnough", "(III)Z"⟩, 37), (⟨"TypedBlocksModel", "joinsFlat", "(III)Z"⟩, 37), (⟨"TypedBlocksModel", "setOf", "(I)I"⟩, 37), (⟨"TypedBlocksModel", "gets", "(III)I"⟩, 37), (⟨"TypedBlocksModel", "pushes", "(I)I"⟩, 37), (⟨"TypedBlocksModel", "pops", "(I)I"⟩, 37), (⟨"TypedBlocksModel", "jumps", "(II)I"⟩, 37), (⟨"TypedBlocksModel", "areEnough", "(II)Z"⟩, 37), (⟨"TypedBlocksModel", "isStackEnough", "(II)Z"⟩, 37), (⟨"TypedBlocksModel", "sureOnes", "(I)I"⟩, 37), (⟨"TypedBlocksModel", "isSure", "(II)Z"⟩, 37), (⟨"TypedBlocksModel", "starts", "(I)V"⟩, 37), (⟨"TypedBlocksModel", "step", "()V"⟩, 37), (⟨"TypedBlocksModel", "lands", "(II)V"⟩, 37), (⟨"TypedBlocksModel", "adds", "(II)V"⟩, 37), (⟨"TypedBlocksModel", "makes", "(II)V"⟩, 37)]
theorem lw_r5 : ∀ q ∈ lw_privs_5, lw_okq q := List.forall_mem_cons.mpr ⟨lw_p64, List.forall_mem_cons.mpr ⟨lw_p65, List.forall_mem_cons.mpr ⟨lw_p66, List.forall_mem_cons.mpr ⟨lw_p67, List.forall_mem_cons.mpr ⟨lw_p68, List.forall_mem_cons.mpr ⟨lw_p69, List.forall_mem_cons.mpr ⟨lw_p70, List.forall_mem_cons.mpr ⟨lw_p71, List.forall_mem_cons.mpr ⟨lw_p72, List.forall_mem_cons.mpr ⟨lw_p73, List.forall_mem_cons.mpr ⟨lw_p74, List.forall_mem_cons.mpr ⟨lw_p75, List.forall_mem_cons.mpr ⟨lw_p76, List.forall_mem_cons.mpr ⟨lw_p77, List.forall_mem_cons.mpr ⟨lw_p78, List.forall_mem_cons.mpr ⟨lw_p79, fun _ h => absurd h List.not_mem_nil⟩⟩⟩⟩⟩⟩⟩⟩⟩⟩⟩⟩⟩⟩⟩⟩
theorem lw_p80 : lw_okq (⟨"TypedBlocksModel", "stores", "(III)V"⟩, 37) := ⟨⟨by decide +kernel, by decide +kernel⟩, List.mem_of_getElem? (i := 798) (by decide +kernel), List.mem_of_getElem? (i := 1218) (by decide +kernel), List.mem_of_getElem? (i := 1219) (by decide +kernel)⟩
theorem lw_p81 : lw_okq (⟨"TypedBlocksModel", "loads", "(III)V"⟩, 37) := ⟨⟨by decide +kernel, by decide +kernel⟩, List.mem_of_getElem? (i := 798) (by decide +kernel), List.mem_of_getElem? (i := 1227) (by decide +kernel), List.mem_of_getElem? (i := 1228) (by decide +kernel)⟩
theorem lw_p82 : lw_okq (⟨"TypedBlocksModel", "piles", "(I)V"⟩, 37) := ⟨⟨by decide +kernel, by decide +kernel⟩, List.mem_of_getElem? (i := 798) (by decide +kernel), List.mem_of_getElem? (i := 1231) (by decide +kernel), List.mem_of_getElem? (i := 1232) (by decide +kernel)⟩
theorem lw_p83 : lw_okq (⟨"TypedBlocksModel", "unpiles", "(I)V"⟩, 37) := ⟨⟨by decide +kernel, by decide +kernel⟩, List.mem_of_getElem? (i := 798) (by decide +kernel), List.mem_of_getElem? (i := 1235) (by decide +kernel), List.mem_of_getElem? (i := 1236) (by decide +kernel)⟩
theorem lw_p84 : lw_okq (⟨"TypedBlocksModel", "goesTo", "(I)V"⟩, 37) := ⟨⟨by decide +kernel, by decide +kernel⟩, List.mem_of_getElem? (i := 798) (by decide +kernel), List.mem_of_getElem? (i := 1239) (by decide +kernel), List.mem_of_getElem? (i := 1240) (by decide +kernel)⟩
theorem lw_p85 : lw_okq (⟨"TypedBlocksModel", "parts", "(II)V"⟩, 37) := ⟨⟨by decide +kernel, by decide +kernel⟩, List.mem_of_getElem? (i := 798) (by decide +kernel), List.mem_of_getElem? (i := 1243) (by decide +kernel), List.mem_of_getElem? (i := 1244) (by decide +kernel)⟩
theorem lw_p86 : lw_okq (⟨"TypedBlocksModel", "backs", "(I)V"⟩, 37) := ⟨⟨by decide +kernel, by decide +kernel⟩, List.mem_of_getElem? (i := 798) (by decide +kernel), List.mem_of_getElem? (i := 1247) (by decide +kernel), List.mem_of_getElem? (i := 1248) (by decide +kernel)⟩
def lw_privs_6 : List (MethodName × Nat) := [(⟨"TypedBlocksModel", "stores", "(III)V"⟩, 37), (⟨"TypedBlocksModel", "loads", "(III)V"⟩, 37), (⟨"TypedBlocksModel", "piles", "(I)V"⟩, 37), (⟨"TypedBlocksModel", "unpiles", "(I)V"⟩, 37), (⟨"TypedBlocksModel", "goesTo", "(I)V"⟩, 37), (⟨"TypedBlocksModel", "parts", "(II)V"⟩, 37), (⟨"TypedBlocksModel", "backs", "(I)V"⟩, 37)]
theorem lw_r6 : ∀ q ∈ lw_privs_6, lw_okq q := List.forall_mem_cons.mpr ⟨lw_p80, List.forall_mem_cons.mpr ⟨lw_p81, List.forall_mem_cons.mpr ⟨lw_p82, List.forall_mem_cons.mpr ⟨lw_p83, List.forall_mem_cons.mpr ⟨lw_p84, List.forall_mem_cons.mpr ⟨lw_p85, List.forall_mem_cons.mpr ⟨lw_p86, fun _ h => absurd h List.not_mem_nil⟩⟩⟩⟩⟩⟩⟩
def lw_privs : List (MethodName × Nat) := lw_privs_1 ++ (lw_privs_2 ++ (lw_privs_3 ++ (lw_privs_4 ++ (lw_privs_5 ++ (lw_privs_6)))))
def lw_tbl : List Cond := k2_sels lw_privs ++ tables_1
theorem lw_privs_ok : ∀ q ∈ lw_privs, lw_okq q := by
  show ∀ q ∈ lw_privs_1 ++ (lw_privs_2 ++ (lw_privs_3 ++ (lw_privs_4 ++ (lw_privs_5 ++ (lw_privs_6))))), lw_okq q
  exact List.forall_mem_append.mpr ⟨lw_r1, List.forall_mem_append.mpr ⟨lw_r2, List.forall_mem_append.mpr ⟨lw_r3, List.forall_mem_append.mpr ⟨lw_r4, List.forall_mem_append.mpr ⟨lw_r5, lw_r6⟩⟩⟩⟩⟩
-- ===== end of PART A; then your names; then what follows =====
end
section
/-! the tables of the mini machine: methods, links (printed by program out of the claim's own names and words) -/
def mcode : List ByteArray := [prog_2_method_1_code, prog_2_method_2_code, prog_2_method_3_code, prog_2_method_4_code, prog_2_method_5_code, prog_2_method_6_code, prog_2_method_7_code, prog_2_method_8_code, prog_2_method_9_code, prog_2_method_10_code, prog_2_method_11_code, prog_2_method_12_code, prog_2_method_13_code, prog_2_method_14_code, prog_2_method_15_code, prog_2_method_16_code, prog_2_method_17_code, prog_2_method_18_code, prog_2_method_19_code, prog_2_method_20_code, prog_2_method_21_code, prog_2_method_22_code, prog_2_method_23_code, prog_2_method_24_code, prog_2_method_25_code, prog_2_method_26_code, prog_3_method_1_code, prog_3_method_2_code, prog_3_method_3_code, prog_3_method_4_code, prog_3_method_5_code, prog_3_method_6_code, prog_3_method_7_code, prog_3_method_8_code, prog_3_method_9_code, prog_3_method_10_code, prog_3_method_11_code, prog_3_method_12_code, prog_3_method_13_code, prog_3_method_14_code, prog_3_method_15_code, prog_3_method_16_code, prog_3_method_17_code, prog_3_method_18_code, prog_3_method_19_code, prog_3_method_20_code, prog_3_method_21_code, prog_4_method_1_code, prog_4_method_2_code, prog_4_method_3_code, prog_4_method_4_code, prog_4_method_5_code, prog_4_method_6_code, prog_4_method_7_code, prog_4_method_8_code, prog_4_method_9_code, prog_4_method_10_code, prog_4_method_11_code, prog_4_method_12_code, prog_4_method_13_code, prog_4_method_14_code, prog_4_method_15_code, prog_4_method_16_code, prog_4_method_17_code, prog_4_method_18_code, prog_4_method_19_code, prog_4_method_20_code, prog_4_method_21_code, prog_4_method_22_code, prog_4_method_23_code, prog_4_method_24_code, prog_4_method_25_code, prog_4_method_26_code, prog_4_method_27_code, prog_4_method_28_code, prog_4_method_29_code, prog_4_method_30_code, prog_4_method_31_code, prog_4_method_32_code, prog_4_method_33_code, prog_4_method_34_code, prog_4_method_35_code, prog_4_method_36_code, prog_4_method_37_code, prog_4_method_38_code, prog_4_method_39_code, prog_5_method_1_code, prog_5_method_2_code, prog_5_method_3_code, prog_5_method_4_code, prog_6_method_1_code, prog_6_method_2_code, prog_6_method_3_code, prog_6_method_4_code, prog_6_method_5_code, prog_6_method_6_code, prog_6_method_7_code, prog_6_method_8_code, prog_6_method_9_code, prog_6_method_10_code, prog_6_method_11_code, prog_6_method_12_code, prog_6_method_13_code, prog_6_method_14_code, prog_1_method_1_code, prog_1_method_2_code, prog_1_method_3_code, prog_1_method_4_code, prog_1_method_5_code, prog_1_method_6_code, prog_1_method_7_code, prog_1_method_8_code, prog_1_method_9_code, prog_1_method_10_code, prog_1_method_11_code, prog_1_method_12_code, prog_1_method_13_code, prog_1_method_14_code, prog_1_method_15_code, prog_1_method_16_code, prog_1_method_17_code, prog_1_method_18_code, prog_1_method_19_code, prog_1_method_20_code, prog_1_method_21_code, prog_1_method_22_code, prog_1_method_23_code, prog_1_method_24_code, prog_1_method_25_code, prog_1_method_26_code, prog_1_method_27_code, prog_1_method_28_code, prog_1_method_29_code, prog_1_method_30_code, prog_8_method_1_code, prog_8_method_2_code, prog_8_method_3_code, prog_8_method_4_code, prog_8_method_5_code, prog_8_method_6_code, prog_8_method_7_code, prog_8_method_8_code, prog_8_method_9_code, prog_8_method_10_code, prog_8_method_11_code, prog_8_method_12_code, prog_8_method_13_code, prog_8_method_14_code, prog_8_method_15_code, prog_8_method_16_code, prog_8_method_17_code, prog_8_method_18_code, prog_8_method_19_code, prog_8_method_20_code, prog_8_method_21_code, prog_8_method_22_code, prog_8_method_23_code, prog_8_method_24_code, prog_8_method_25_code, prog_8_method_26_code, prog_8_method_27_code, prog_8_method_28_code, prog_8_method_29_code, prog_8_method_30_code, prog_8_method_31_code, prog_8_method_32_code, prog_8_method_33_code, prog_8_method_34_code, prog_8_method_35_code, prog_8_method_36_code, prog_8_method_37_code, prog_8_method_38_code, prog_8_method_39_code, prog_8_method_40_code, prog_8_method_41_code, prog_8_method_42_code, prog_8_method_43_code, prog_8_method_44_code, prog_8_method_45_code, prog_8_method_46_code, prog_8_method_47_code, prog_8_method_48_code, prog_8_method_49_code, prog_8_method_50_code, prog_8_method_51_code, prog_8_method_52_code, prog_8_method_53_code, prog_8_method_54_code, prog_8_method_55_code, prog_8_method_56_code, prog_8_method_57_code, prog_8_method_58_code, prog_8_method_59_code, prog_8_method_60_code, prog_8_method_61_code, prog_8_method_62_code, prog_8_method_63_code, prog_8_method_64_code, prog_8_method_65_code, prog_8_method_66_code, prog_8_method_67_code, prog_8_method_68_code, prog_8_method_69_code, prog_8_method_70_code, prog_8_method_71_code, prog_8_method_72_code, prog_8_method_73_code, prog_8_method_74_code, prog_8_method_75_code, prog_8_method_76_code, prog_8_method_77_code, prog_8_method_78_code, prog_8_method_79_code, prog_8_method_80_code, prog_8_method_81_code, prog_8_method_82_code, prog_8_method_83_code, prog_8_method_84_code, prog_8_method_85_code, prog_8_method_86_code, prog_8_method_87_code, prog_8_method_88_code, prog_9_method_49_code, code]
def codeOf (m : Nat) : ByteArray := mcode.getD m ⟨#[]⟩
/-- own, maxLocals, parameters (without the receiver), what it answers (0 nothing, 1 an int, 2 a boolean), how deep it calls -/
def mtab : List (Nat × Nat × Nat × Nat × Nat) := [(0, 1, 0, 0, 2), (0, 4, 1, 0, 3), (0, 5, 2, 2, 2), (0, 2, 2, 2, 0), (0, 4, 4, 2, 0), (0, 4, 2, 2, 1), (0, 1, 1, 2, 0), (0, 2, 1, 1, 0), (0, 3, 2, 0, 0), (0, 3, 1, 1, 0), (0, 3, 1, 0, 2), (0, 4, 2, 2, 4), (0, 3, 1, 2, 5), (0, 3, 0, 1, 6), (0, 4, 1, 1, 3), (0, 6, 2, 1, 3), (0, 4, 1, 1, 2), (0, 6, 3, 1, 2), (0, 6, 3, 1, 2), (0, 2, 1, 2, 0), (0, 2, 1, 1, 1), (0, 1, 1, 2, 0), (0, 1, 1, 1, 0), (0, 2, 1, 1, 0), (0, 2, 1, 1, 1), (0, 3, 2, 1, 1), (1, 1, 0, 0, 2), (1, 4, 2, 0, 3), (1, 4, 1, 0, 2), (1, 2, 2, 1, 0), (1, 3, 1, 0, 5), (1, 2, 1, 0, 0), (1, 2, 1, 1, 0), (1, 1, 1, 2, 0), (1, 1, 1, 2, 0), (1, 5, 0, 1, 4), (1, 4, 3, 1, 2), (1, 2, 1, 1, 1), (1, 1, 0, 1, 0), (1, 3, 2, 1, 1), (1, 3, 2, 1, 2), (1, 5, 2, 1, 2), (1, 4, 2, 1, 2), (1, 5, 3, 1, 3), (1, 5, 3, 1, 3), (1, 2, 1, 2, 0), (1, 3, 1, 1, 2), (2, 1, 0, 0, 1), (2, 2, 1, 1, 0), (2, 3, 2, 0, 0), (2, 2, 1, 0, 1), (2, 2, 0, 0, 0), (2, 1, 0, 1, 0), (2, 1, 0, 1, 0), (2, 1, 0, 1, 1), (2, 2, 1, 2, 1), (2, 2, 1, 2, 1), (2, 3, 2, 2, 2), (2, 2, 1, 2, 2), (2, 2, 1, 1, 1), (2, 3, 2, 1, 1), (2, 1, 0, 0, 0), (2, 5, 2, 0, 1), (2, 1, 0, 0, 0), (2, 4, 2, 1, 0), (2, 4, 3, 0, 1), (2, 3, 2, 1, 1), (2, 4, 3, 0, 2), (2, 2, 1, 1, 1), (2, 3, 2, 1, 1), (2, 4, 2, 0, 2), (2, 2, 1, 1, 1), (2, 3, 2, 0, 2), (2, 2, 1, 1, 1), (2, 4, 3, 1, 1), (2, 8, 6, 0, 1), (2, 5, 2, 0, 2), (2, 5, 2, 0, 2), (2, 3, 0, 1, 2), (2, 5, 4, 2, 2), (2, 6, 6, 2, 1), (2, 3, 3, 1, 0), (2, 3, 2, 2, 0), (2, 5, 1, 1, 2), (2, 4, 1, 1, 2), (2, 1, 1, 1, 0), (3, 2, 1, 0, 1), (3, 1, 0, 0, 0), (3, 2, 1, 0, 1), (3, 3, 1, 0, 2), (4, 1, 0, 0, 2), (4, 2, 1, 2, 0), (4, 3, 0, 1, 5), (4, 3, 0, 2, 3), (4, 2, 0, 2, 4), (4, 4, 0, 2, 2), (4, 4, 0, 2, 3), (4, 8, 0, 2, 3), (4, 2, 1, 2, 2), (4, 1, 0, 1, 0), (4, 1, 1, 2, 0), (4, 2, 0, 1, 1), (4, 3, 0, 1, 2), (4, 2, 1, 2, 1), (5, 2, 0, 0, 6), (5, 2, 1, 1, 1), (5, 2, 0, 1, 0), (5, 1, 0, 1, 6), (5, 1, 0, 1, 6), (5, 3, 2, 1, 2), (5, 3, 2, 1, 2), (5, 4, 3, 1, 3), (5, 8, 6, 1, 3), (5, 7, 6, 1, 3), (5, 3, 2, 1, 3), (5, 5, 3, 1, 3), (5, 3, 2, 1, 3), (5, 1, 0, 1, 3), (5, 2, 1, 1, 6), (5, 2, 1, 1, 6), (5, 4, 3, 1, 5), (5, 1, 0, 1, 7), (5, 2, 1, 1, 4), (5, 5, 2, 1, 7), (5, 4, 0, 1, 3), (5, 6, 2, 1, 7), (5, 8, 3, 2, 6), (5, 4, 3, 1, 6), (5, 7, 3, 1, 7), (5, 4, 2, 1, 0), (5, 8, 1, 0, 2), (5, 1, 0, 1, 2), (5, 1, 0, 1, 3), (5, 2, 1, 1, 7), (6, 1, 0, 0, 1), (6, 6, 3, 2, 0), (6, 2, 2, 2, 0), (6, 3, 1, 1, 0), (6, 2, 0, 0, 0), (6, 5, 2, 0, 0), (6, 6, 3, 0, 0), (6, 7, 4, 0, 0), (6, 2, 0, 0, 0), (6, 2, 1, 1, 1), (6, 2, 0, 1, 0), (6, 2, 1, 1, 0), (6, 5, 2, 1, 1), (6, 1, 0, 0, 1), (6, 1, 0, 2, 1), (6, 3, 0, 1, 2), (6, 3, 0, 0, 2), (6, 3, 0, 0, 3), (6, 5, 0, 0, 2), (6, 3, 3, 1, 0), (6, 9, 6, 2, 1), (6, 2, 0, 0, 4), (6, 1, 0, 1, 5), (6, 1, 0, 1, 5), (6, 2, 1, 2, 1), (6, 3, 3, 1, 0), (6, 3, 2, 1, 0), (6, 3, 2, 2, 2), (6, 2, 1, 2, 1), (6, 3, 2, 1, 1), (6, 3, 2, 1, 2), (6, 4, 3, 1, 3), (6, 4, 2, 0, 0), (6, 2, 0, 0, 1), (6, 9, 7, 0, 1), (6, 9, 6, 1, 3), (6, 8, 6, 1, 2), (6, 4, 2, 1, 3), (6, 5, 3, 1, 2), (6, 3, 2, 1, 2), (6, 1, 0, 1, 1), (6, 7, 3, 2, 0), (6, 4, 3, 2, 1), (6, 4, 2, 0, 0), (6, 5, 2, 2, 2), (6, 5, 2, 2, 2), (6, 3, 2, 1, 3), (6, 1, 1, 2, 1), (6, 1, 1, 1, 0), (6, 2, 1, 1, 0), (6, 8, 4, 1, 2), (6, 5, 3, 1, 2), (6, 2, 1, 1, 0), (6, 2, 1, 1, 0), (6, 3, 2, 1, 0), (6, 6, 2, 1, 4), (6, 1, 1, 2, 0), (6, 7, 3, 0, 5), (6, 3, 2, 2, 6), (6, 2, 1, 1, 6), (6, 2, 1, 1, 6), (6, 4, 3, 1, 6), (6, 4, 1, 1, 7), (6, 1, 0, 1, 8), (6, 4, 1, 1, 4), (6, 5, 2, 1, 8), (6, 6, 0, 1, 1), (6, 12, 2, 1, 7), (6, 2, 2, 1, 0), (6, 4, 1, 0, 1), (6, 1, 1, 2, 0), (6, 1, 1, 2, 1), (6, 2, 1, 0, 0), (6, 3, 2, 0, 0), (6, 5, 2, 0, 1), (6, 5, 3, 0, 2), (6, 5, 3, 0, 2), (6, 2, 1, 0, 0), (6, 2, 1, 0, 1), (6, 3, 2, 0, 1), (6, 3, 2, 0, 1), (6, 2, 1, 0, 1), (6, 5, 0, 0, 3), (6, 6, 3, 1, 4), (6, 13, 3, 1, 8), (6, 1, 0, 1, 1), (6, 1, 0, 1, 1), (6, 4, 1, 1, 8), (8, 1, 1, 1, 0), (7, 4, 1, 2, 9)]
def mown (m : Nat) : Nat := (mtab.getD m (99, 0, 0, 0, 0)).1
def mmax (m : Nat) : Nat := (mtab.getD m (99, 0, 0, 0, 0)).2.1
def mpar (m : Nat) : Nat := (mtab.getD m (99, 0, 0, 0, 0)).2.2.1
def mans (m : Nat) : Nat := (mtab.getD m (99, 0, 0, 0, 0)).2.2.2.1
def mdep (m : Nat) : Nat := (mtab.getD m (99, 0, 0, 0, 0)).2.2.2.2
def lkp {α : Type} : List (Nat × α) → Nat → Option α
  | [], _ => none
  | e :: r, k => if e.1 = k then some e.2 else lkp r k
/-- calls: the way (0 virtual, 1 init, 2 static, 3 init of a nest mate, 4 Object's init, 5 arraycopy, 6 String.length, 7 String.charAt) and the method -/
def linv : List (List (Nat × Nat × Nat)) := [[(3, 4, 0), (11, 3, 47), (32, 0, 2), (36, 0, 59), (40, 0, 68), (43, 0, 71), (46, 2, 4), (50, 0, 66), (54, 2, 3), (57, 0, 69), (60, 2, 6), (68, 0, 19), (84, 0, 10), (88, 0, 15), (91, 0, 73), (94, 0, 11), (97, 0, 53), (101, 0, 12), (104, 0, 16), (107, 0, 74), (111, 0, 7), (114, 0, 8), (118, 0, 25), (121, 0, 17), (124, 0, 18), (127, 0, 20), (130, 0, 5), (133, 0, 9), (136, 2, 21), (139, 2, 22), (142, 0, 60), (145, 0, 24), (148, 0, 23)],
  [(5, 4, 0), (13, 3, 47), (31, 0, 28), (35, 0, 66), (39, 2, 29), (46, 0, 68), (50, 0, 69), (53, 0, 45), (57, 0, 31), (66, 0, 60), (78, 0, 57), (82, 0, 35), (86, 0, 74), (90, 0, 32), (93, 0, 39), (96, 0, 40), (99, 0, 41), (102, 0, 43), (105, 0, 44), (108, 0, 38), (111, 0, 46), (114, 0, 36), (117, 0, 37), (120, 2, 33), (123, 2, 34), (126, 0, 59), (128, 0, 42)],
  [(5, 4, 0), (15, 5, 0), (21, 0, 53), (25, 0, 52), (28, 0, 56), (32, 0, 73), (36, 0, 55), (39, 0, 48), (42, 0, 49), (46, 0, 64), (50, 0, 65), (54, 0, 68), (57, 0, 74), (61, 0, 75), (65, 2, 80), (69, 2, 81), (75, 2, 82), (79, 0, 66), (82, 2, 85), (85, 0, 69)],
  [(1, 4, 0), (23, 5, 0), (29, 0, 50)],
  [(3, 4, 0), (11, 3, 47), (29, 0, 51), (32, 0, 94), (36, 0, 53), (40, 0, 83), (44, 0, 84), (47, 0, 54), (50, 0, 99), (53, 0, 95), (56, 0, 96), (59, 0, 97), (62, 0, 52), (65, 2, 100), (69, 0, 101), (72, 0, 62), (76, 0, 61), (79, 0, 59), (82, 0, 103), (85, 0, 98), (88, 0, 67), (92, 0, 70), (95, 0, 102), (98, 0, 72), (101, 0, 63), (104, 0, 73), (107, 2, 80), (111, 0, 76), (114, 0, 75), (118, 0, 55)],
  [(1, 4, 0), (9, 3, 90), (18, 3, 47), (28, 3, 0), (35, 3, 26), (42, 1, 86), (54, 6, 0), (60, 7, 0), (64, 0, 91), (68, 0, 92), (78, 0, 50), (85, 0, 93), (89, 0, 87), (92, 0, 53), (95, 0, 55), (98, 0, 59), (102, 0, 60), (106, 0, 56), (109, 0, 68), (112, 0, 64), (115, 0, 57), (119, 0, 74), (123, 0, 79), (127, 0, 88), (130, 0, 75), (134, 0, 73), (137, 0, 76), (141, 0, 77), (144, 0, 58), (147, 0, 66), (150, 0, 67), (154, 0, 71), (157, 0, 72), (163, 0, 89), (167, 0, 1), (170, 0, 12), (179, 0, 11), (182, 0, 7), (188, 0, 9), (191, 0, 13), (194, 0, 14), (197, 0, 54), (200, 0, 83), (203, 0, 126), (207, 0, 27), (211, 0, 30), (224, 0, 32), (225, 2, 33), (228, 2, 129), (231, 0, 130), (234, 2, 222), (248, 0, 52), (251, 0, 78)],
  [(1, 4, 0), (62, 0, 138), (65, 0, 139), (69, 0, 140), (73, 0, 141), (77, 0, 142), (106, 2, 135), (116, 0, 145), (130, 0, 148), (136, 0, 149), (140, 0, 147), (143, 0, 146), (147, 2, 154), (151, 2, 153), (160, 0, 150), (163, 0, 151), (166, 0, 152), (169, 0, 155), (172, 0, 158), (176, 0, 160), (187, 0, 161), (193, 2, 159), (196, 0, 166), (199, 0, 167), (202, 0, 168), (206, 0, 162), (209, 0, 175), (219, 0, 176), (222, 0, 178), (225, 0, 179), (228, 2, 181), (231, 2, 182), (234, 0, 183), (237, 2, 136), (240, 0, 188), (243, 0, 184), (247, 0, 185), (250, 0, 186), (253, 0, 187), (256, 0, 180), (259, 0, 177), (268, 0, 189), (271, 2, 190), (274, 0, 191), (279, 0, 192), (282, 0, 196), (285, 2, 202), (307, 0, 207), (310, 2, 205), (313, 2, 204), (316, 0, 206), (320, 0, 213), (323, 0, 208), (326, 0, 209), (329, 0, 210), (332, 0, 211), (335, 0, 212), (338, 0, 214), (341, 0, 215), (350, 0, 203), (353, 0, 216), (366, 2, 137)],
  [(9, 1, 104), (12, 1, 134), (13, 0, 105), (17, 0, 143), (18, 0, 106), (22, 0, 144), (23, 0, 107), (26, 0, 156), (27, 0, 108), (30, 0, 157), (31, 0, 109), (35, 0, 163), (36, 0, 110), (39, 0, 164), (40, 0, 111), (44, 0, 165), (45, 0, 112), (49, 0, 169), (50, 0, 113), (53, 0, 170), (54, 0, 114), (57, 0, 171), (58, 0, 115), (61, 0, 172), (62, 0, 116), (65, 0, 173), (66, 0, 117), (69, 0, 174), (70, 0, 118), (73, 0, 193), (74, 0, 119), (77, 0, 194), (78, 0, 120), (81, 0, 195), (82, 0, 121), (85, 0, 197), (86, 0, 122), (89, 0, 198), (90, 0, 123), (93, 0, 199), (94, 0, 124), (97, 0, 200), (98, 0, 125), (101, 0, 201), (102, 0, 127), (105, 0, 217), (106, 0, 128), (109, 0, 218), (110, 0, 131), (113, 0, 219), (114, 0, 132), (117, 0, 220), (118, 0, 133), (121, 0, 221)],
  []]
/-- fields: the owner, its place, its type (0 int, 1 boolean, 2 a reference) -/
def lfld : List (List (Nat × Nat × Nat × Nat)) := [[(12, 0, 0, 2), (18, 0, 1, 2), (22, 0, 2, 2), (25, 0, 3, 2), (28, 0, 4, 2), (64, 0, 7, 0), (71, 0, 5, 0), (74, 0, 6, 1), (78, 0, 8, 0), (81, 0, 9, 0)],
  [(14, 1, 0, 2), (18, 1, 1, 2), (22, 1, 2, 2), (25, 1, 3, 2), (28, 1, 4, 2), (42, 1, 5, 0), (60, 1, 9, 0), (63, 1, 10, 0), (69, 1, 6, 0), (72, 1, 7, 0), (75, 1, 8, 0)],
  [(11, 2, 0, 2)],
  [(11, 3, 0, 2), (16, 3, 2, 0), (20, 3, 1, 0)],
  [(12, 4, 0, 2), (18, 4, 1, 2), (22, 4, 2, 0), (26, 4, 3, 0)],
  [(10, 5, 0, 2), (19, 5, 1, 2), (23, 5, 2, 2), (29, 5, 3, 2), (36, 5, 4, 2), (45, 5, 5, 2), (49, 5, 6, 2), (71, 4, 0, 2), (74, 2, 0, 2), (82, 4, 2, 0), (160, 3, 2, 0), (173, 0, 8, 0), (176, 0, 9, 0), (185, 0, 7, 0), (214, 1, 10, 0), (217, 1, 9, 0), (220, 1, 7, 0), (223, 1, 8, 0)],
  [(7, 6, 1, 2), (13, 6, 2, 2), (16, 6, 4, 2), (19, 6, 5, 2), (22, 6, 7, 2), (25, 6, 8, 2), (28, 6, 10, 2), (31, 6, 11, 2), (34, 6, 12, 2), (37, 6, 14, 2), (40, 6, 18, 2), (44, 6, 22, 2), (47, 6, 23, 2), (50, 6, 28, 2), (53, 6, 29, 2), (56, 6, 30, 2), (59, 6, 31, 2), (80, 6, 6, 0), (84, 6, 9, 0), (87, 6, 13, 0), (90, 6, 0, 0), (93, 6, 3, 0), (96, 6, 15, 0), (99, 6, 16, 0), (110, 6, 17, 0), (113, 6, 19, 0), (124, 6, 21, 1), (157, 6, 20, 0), (213, 6, 24, 0), (216, 6, 25, 1), (262, 6, 27, 0), (265, 6, 26, 0), (288, 6, 33, 0), (291, 6, 32, 0), (294, 6, 35, 0), (297, 6, 34, 0), (300, 6, 36, 0)],
  [],
  []]
def lsta : List (List (Nat × Nat)) := [[],
  [],
  [(72, 2)],
  [],
  [],
  [(245, 3)],
  [],
  [],
  []]
def lnew : List (List (Nat × Nat)) := [[(9, 2)],
  [(11, 2)],
  [],
  [],
  [(9, 2)],
  [(7, 4), (16, 2), (26, 0), (33, 1), (40, 3)],
  [],
  [(7, 5), (10, 6)],
  []]
def llng : List (List (Nat × Int)) := [[],
  [],
  [],
  [],
  [],
  [(239, 7919), (241, 6151), (243, 65521)],
  [(102, 32), (104, 126), (120, 48), (122, 57), (128, 2), (134, 5), (155, 13), (179, 6), (181, -1), (183, 9), (185, 7), (191, 3), (277, 10), (303, 20000), (305, 29999), (344, 99), (346, 200), (348, 4), (356, 9999), (358, 20), (360, 7919), (362, 6151), (364, 65521)],
  [],
  []]
def lint : List (List (Nat × Int)) := [[],
  [],
  [],
  [],
  [],
  [],
  [],
  [],
  [(265, 1431655765), (266, 858993459), (267, 252645135)]]
def lstr : List (List (Nat × Nat)) := [[], [], [], [], [], [(52, 4)], [], [], []]
def invOf (c k : Nat) : Option (Nat × Nat) := lkp (linv.getD c []) k
def fldOf (c k : Nat) : Option (Nat × Nat × Nat) := lkp (lfld.getD c []) k
def staOf (c k : Nat) : Option (Nat) := lkp (lsta.getD c []) k
def newOf (c k : Nat) : Option (Nat) := lkp (lnew.getD c []) k
def lngOf (c k : Nat) : Option (Int) := lkp (llng.getD c []) k
def intOf (c k : Nat) : Option (Int) := lkp (lint.getD c []) k
def strOf (c k : Nat) : Option (Nat) := lkp (lstr.getD c []) k
/-- the fields of each kind of object, how many -/
def nfld (ci : Nat) : Nat := [10, 11, 1, 3, 4, 7, 37].getD ci 0
/-- the type of a field (0 int, 1 boolean, 2 a reference) -/
def tfld : List (List Nat) := [[2, 2, 2, 2, 2, 0, 1, 0, 0, 0], [2, 2, 2, 2, 2, 0, 0, 0, 0, 0, 0], [2], [2, 0, 0], [2, 2, 0, 0], [2, 2, 2, 2, 2, 2, 2], [0, 2, 2, 0, 2, 2, 0, 2, 2, 0, 2, 2, 2, 0, 2, 0, 0, 0, 2, 0, 0, 1, 2, 2, 0, 1, 0, 0, 2, 2, 2, 2, 0, 0, 0, 0, 0]]
end
section
/-! THE MINI MACHINE: whole numbers, references by number, a memory of rows; no classes, no tables of the virtual machine -/
abbrev mV : Type := Int ⊕ (Int ⊕ Nat)
abbrev mL : Type := List (Option mV)
abbrev mH : Type := List (Nat × Nat) × (Nat → Nat → Int)
abbrev mR : Type := Option (Option mV × mH)
def w32 (x : Int) : Int := (x + 2147483648) % 4294967296 - 2147483648
def w64 (x : Int) : Int := (x + 9223372036854775808) % 18446744073709551616 - 9223372036854775808
def w8 (x : Int) : Int := (x + 128) % 256 - 128
def iand (x y : Int) : Int := (Int32.ofInt x &&& Int32.ofInt y).toInt
def ior (x y : Int) : Int := (Int32.ofInt x ||| Int32.ofInt y).toInt
def ixor (x y : Int) : Int := (Int32.ofInt x ^^^ Int32.ofInt y).toInt
def ishl (x y : Int) : Int := (Int32.ofInt x <<< (Int32.ofInt y &&& 31)).toInt
def ishr (x y : Int) : Int := (Int32.ofInt x >>> (Int32.ofInt y &&& 31)).toInt
def iush (x y : Int) : Int := ((Int32.ofInt x).toUInt32 >>> ((Int32.ofInt y).toUInt32 &&& Int32.toUInt32 31)).toInt32.toInt
def icmp (x y : Int) : Int := if x > y then 1 else if x = y then 0 else -1
def catV : mV → Nat
  | .inr (.inl _) => 2
  | _ => 1
def catS (st : List mV) : Nat := (st.map catV).sum
/-- is it a long -/
def lngV : Option (Option mV) → Bool
  | some (some (.inr (.inl _))) => true
  | _ => false
def set1 (ls : mL) (i : Nat) (v : mV) : Option mL :=
  if i < ls.length then some (if i ≠ 0 ∧ lngV ls[i - 1]? = true then (ls.set i (some v)).set (i - 1) none else ls.set i (some v)) else none
def set2 (ls : mL) (i : Nat) (v : mV) : Option mL :=
  if i + 1 < ls.length then some (if i ≠ 0 ∧ lngV ls[i - 1]? = true then ((ls.set i (some v)).set (i + 1) none).set (i - 1) none else (ls.set i (some v)).set (i + 1) none) else none
def ldI (ls : mL) (i : Nat) : Option Int := match ls[i]? with
  | some (some (.inl x)) => some x
  | _ => none
def ldJ (ls : mL) (i : Nat) : Option Int := match ls[i]? with
  | some (some (.inr (.inl x))) => some x
  | _ => none
def ldA (ls : mL) (i : Nat) : Option Nat := match ls[i]? with
  | some (some (.inr (.inr x))) => some x
  | _ => none
/-! memory -/
def mw (h : mH) (a j : Nat) (v : Int) : mH := (h.1, fun b k => if b = a ∧ k = j then v else h.2 b k)
def mrow (h : mH) (a : Nat) (f : Nat → Int) : mH := (h.1, fun b k => if b = a then f k else h.2 b k)
def mnew (h : mH) (kd n : Nat) : mH := (h.1 ++ [(kd, n)], fun b k => if b = h.1.length then 0 else h.2 b k)
def isO (h : mH) (a ci : Nat) : Bool := match h.1[a]? with
  | some q => decide (q.1 = ci) && decide (a ≠ 0)
  | none => false
def gfd (ci k : Nat) (h : mH) (a : Nat) : Option Int := match h.1[a]? with
  | some q => if q.1 = ci ∧ k < q.2 ∧ a ≠ 0 then some (h.2 a k) else none
  | none => none
def pfd (ci k : Nat) (h : mH) (a : Nat) (v : Int) : Option mH := match h.1[a]? with
  | some q => if q.1 = ci ∧ k < q.2 ∧ 6 ≤ a then some (mw h a k v) else none
  | none => none
def ald (kd : Nat) (h : mH) (a : Nat) (j : Int) : Option Int := match h.1[a]? with
  | some q => if q.1 = kd ∧ 0 ≤ j ∧ j < (q.2 : Int) ∧ a ≠ 0 then some (h.2 a j.toNat) else none
  | none => none
def bld (h : mH) (a : Nat) (j : Int) : Option Int := match h.1[a]? with
  | some q => if (q.1 = 11 ∨ q.1 = 12) ∧ 0 ≤ j ∧ j < (q.2 : Int) ∧ a ≠ 0 then some (h.2 a j.toNat) else none
  | none => none
def ast (h : mH) (a : Nat) (j v : Int) : Option mH := match h.1[a]? with
  | some q => if q.1 = 10 ∧ 0 ≤ j ∧ j < (q.2 : Int) ∧ 6 ≤ a then some (mw h a j.toNat v) else none
  | none => none
def bst (h : mH) (a : Nat) (j v : Int) : Option mH := match h.1[a]? with
  | some q => if (q.1 = 11 ∨ q.1 = 12) ∧ 0 ≤ j ∧ j < (q.2 : Int) ∧ 6 ≤ a then some (mw h a j.toNat (if q.1 = 11 then w8 v else iand v 1)) else none
  | none => none
def aln (h : mH) (a : Nat) : Option Int := match h.1[a]? with
  | some q => if 10 ≤ q.1 ∧ q.1 ≤ 13 ∧ q.2 < 1000000 ∧ a ≠ 0 then some (q.2 : Int) else none
  | none => none
/-- n ints of row b into row a, both from their beginnings -/
def acp (h : mH) (b a : Nat) (n : Int) : Option mH := match h.1[b]?, h.1[a]? with
  | some p, some q => if p.1 = 10 ∧ q.1 = 10 ∧ 0 ≤ n ∧ n ≤ (p.2 : Int) ∧ n ≤ (q.2 : Int) ∧ 6 ≤ a ∧ b ≠ 0 then some (mrow h a (fun j => if j < n.toNat then h.2 b j else h.2 a j)) else none
  | _, _ => none
/-- n rows of k ints, one behind the other -/
def mgrd (h : mH) (n k : Nat) : mH := (h.1 ++ (13, n) :: List.replicate n (10, k), fun b j => if b = h.1.length then (if j < n then (h.1.length + 1 + j : Nat) else 0) else if h.1.length < b then 0 else h.2 b j)
def tgt (pc : Nat) (off : Int) : Option Nat := if 0 ≤ (pc : Int) + off then some ((pc : Int) + off).toNat else none
def cnd : Jvm.ClassFile.Cond → Int → Int → Bool
  | .eq, x, y => decide (x = y)
  | .ne, x, y => decide (x ≠ y)
  | .lt, x, y => decide (x < y)
  | .ge, x, y => decide (y ≤ x)
  | .gt, x, y => decide (y < x)
  | .le, x, y => decide (x ≤ y)
def brn (b : Bool) (pc : Nat) (off : Int) (ls : mL) (r : List mV) (h : mH) : Option (Nat × mL × List mV × mH) :=
  if b = true then (tgt pc off).map (fun t => (t, ls, r, h)) else some (pc + 3, ls, r, h)
def bin (f : Int → Int → Int) (pc : Nat) (ls : mL) (st : List mV) (h : mH) : Option (Nat × mL × List mV × mH) := match st with
  | .inl y :: .inl x :: r => some (pc + 1, ls, .inl (f x y) :: r, h)
  | _ => none
def binJ (f : Int → Int → Int) (pc : Nat) (ls : mL) (st : List mV) (h : mH) : Option (Nat × mL × List mV × mH) := match st with
  | .inr (.inl y) :: .inr (.inl x) :: r => some (pc + 1, ls, .inr (.inl (f x y)) :: r, h)
  | _ => none
/-- the length of an instruction as decoded (0: any) -/
def lenI : Instr → Nat
  | .iload _ | .lload _ | .aload _ | .istore _ | .lstore _ | .astore _ | .bipush _ | .ldc _ | .newarray _ => 2
  | .sipush _ | .ldc_w _ | .ldc2_w _ | .iinc _ _ | .ifCond _ _ | .if_icmp _ _ | .ifnull _ | .ifnonnull _ | .goto _ | .getfield _ | .putfield _ | .getstatic _ | .new _ | .invokevirtual _ | .invokespecial _ | .invokestatic _ => 3
  | .multianewarray _ _ => 4
  | .tableswitch _ _ _ _ | .lookupswitch _ _ => 0
  | _ => 1
/-- final fields, set by constructors alone -/
def pstep (m : Nat) (ins : Instr) (pc : Nat) (ls : mL) (st : List mV) (h : mH) : Option (Nat × mL × List mV × mH) := match ins with
  | .iload i => (ldI ls i).map (fun x => (pc + 2, ls, .inl x :: st, h))
  | .iload_n i => (ldI ls i.val).map (fun x => (pc + 1, ls, .inl x :: st, h))
  | .lload i => (ldJ ls i).map (fun x => (pc + 2, ls, .inr (.inl x) :: st, h))
  | .lload_n i => (ldJ ls i.val).map (fun x => (pc + 1, ls, .inr (.inl x) :: st, h))
  | .aload i => (ldA ls i).map (fun x => (pc + 2, ls, .inr (.inr x) :: st, h))
  | .aload_n i => (ldA ls i.val).map (fun x => (pc + 1, ls, .inr (.inr x) :: st, h))
  | .istore i => match st with
    | .inl x :: r => (set1 ls i (.inl x)).map (fun l => (pc + 2, l, r, h))
    | _ => none
  | .istore_n i => match st with
    | .inl x :: r => (set1 ls i.val (.inl x)).map (fun l => (pc + 1, l, r, h))
    | _ => none
  | .astore i => match st with
    | .inr (.inr x) :: r => (set1 ls i (.inr (.inr x))).map (fun l => (pc + 2, l, r, h))
    | _ => none
  | .astore_n i => match st with
    | .inr (.inr x) :: r => (set1 ls i.val (.inr (.inr x))).map (fun l => (pc + 1, l, r, h))
    | _ => none
  | .lstore i => match st with
    | .inr (.inl x) :: r => (set2 ls i (.inr (.inl x))).map (fun l => (pc + 2, l, r, h))
    | _ => none
  | .lstore_n i => match st with
    | .inr (.inl x) :: r => (set2 ls i.val (.inr (.inl x))).map (fun l => (pc + 1, l, r, h))
    | _ => none
  | .iinc i n => if -32768 ≤ n ∧ n ≤ 32767 then (ldI ls i).bind (fun x => (set1 ls i (.inl (w32 (x + n)))).map (fun l => (pc + 3, l, st, h))) else none
  | .iconst n => if -1 ≤ n ∧ n ≤ 5 then some (pc + 1, ls, .inl n :: st, h) else none
  | .bipush n => if -128 ≤ n ∧ n ≤ 127 then some (pc + 2, ls, .inl n :: st, h) else none
  | .sipush n => if -32768 ≤ n ∧ n ≤ 32767 then some (pc + 3, ls, .inl n :: st, h) else none
  | .lconst n => some (pc + 1, ls, .inr (.inl (n.val : Int)) :: st, h)
  | .ldc k => match intOf (mown m) k with
    | some v => some (pc + 2, ls, .inl v :: st, h)
    | none => (strOf (mown m) k).map (fun a => (pc + 2, ls, .inr (.inr a) :: st, h))
  | .ldc_w k => (intOf (mown m) k).map (fun v => (pc + 3, ls, .inl v :: st, h))
  | .ldc2_w k => (lngOf (mown m) k).map (fun v => (pc + 3, ls, .inr (.inl v) :: st, h))
  | .iadd => bin (fun x y => w32 (x + y)) pc ls st h
  | .isub => bin (fun x y => w32 (x - y)) pc ls st h
  | .imul => bin (fun x y => w32 (x * y)) pc ls st h
  | .iand => bin iand pc ls st h
  | .ior => bin ior pc ls st h
  | .ixor => bin ixor pc ls st h
  | .ishl => bin ishl pc ls st h
  | .ishr => bin ishr pc ls st h
  | .iushr => bin iush pc ls st h
  | .idiv => match st with
    | .inl y :: .inl x :: r => if y = 0 then none else some (pc + 1, ls, .inl (w32 (x.tdiv y)) :: r, h)
    | _ => none
  | .irem => match st with
    | .inl y :: .inl x :: r => if y = 0 then none else some (pc + 1, ls, .inl (x.tmod y) :: r, h)
    | _ => none
  | .ladd => binJ (fun x y => w64 (x + y)) pc ls st h
  | .lmul => binJ (fun x y => w64 (x * y)) pc ls st h
  | .lrem => match st with
    | .inr (.inl y) :: .inr (.inl x) :: r => if y = 0 then none else some (pc + 1, ls, .inr (.inl (x.tmod y)) :: r, h)
    | _ => none
  | .lcmp => match st with
    | .inr (.inl y) :: .inr (.inl x) :: r => some (pc + 1, ls, .inl (icmp x y) :: r, h)
    | _ => none
  | .i2l => match st with
    | .inl x :: r => some (pc + 1, ls, .inr (.inl x) :: r, h)
    | _ => none
  | .l2i => match st with
    | .inr (.inl x) :: r => some (pc + 1, ls, .inl (w32 x) :: r, h)
    | _ => none
  | .i2b => match st with
    | .inl x :: r => some (pc + 1, ls, .inl (w8 x) :: r, h)
    | _ => none
  | .dup => match st with
    | v :: r => if catV v = 1 then some (pc + 1, ls, v :: v :: r, h) else none
    | _ => none
  | .dup2 => match st with
    | v :: w :: r => if catV v = 1 ∧ catV w = 1 then some (pc + 1, ls, v :: w :: v :: w :: r, h) else none
    | _ => none
  | .pop => match st with
    | v :: r => if catV v = 1 then some (pc + 1, ls, r, h) else none
    | _ => none
  | .ifCond cd off => match st with
    | .inl x :: r => brn (cnd cd x 0) pc off ls r h
    | _ => none
  | .if_icmp cd off => match st with
    | .inl y :: .inl x :: r => brn (cnd cd x y) pc off ls r h
    | _ => none
  | .ifnull off => match st with
    | .inr (.inr a) :: r => brn (decide (a = 0)) pc off ls r h
    | _ => none
  | .ifnonnull off => match st with
    | .inr (.inr a) :: r => brn (decide (a ≠ 0)) pc off ls r h
    | _ => none
  | .goto off => (tgt pc off).map (fun t => (t, ls, st, h))
  | .tableswitch d lo hi offs => match st with
    | .inl x :: r => if x < lo ∨ hi < x then (tgt pc d).map (fun t => (t, ls, r, h)) else (offs[(x - lo).toNat]?).bind (fun o => (tgt pc o).map (fun t => (t, ls, r, h)))
    | _ => none
  | .lookupswitch d ps => match st with
    | .inl x :: r => if (ps.toList.zip (ps.toList.drop 1)).all (fun (a, next) => a.1 < next.1) = true then (tgt pc (Op.lookupswitch.offset ps.toList d x)).map (fun t => (t, ls, r, h)) else none
    | _ => none
  | .getfield k => (fldOf (mown m) k).bind (fun f => match st with
    | .inr (.inr a) :: r => (gfd f.1 f.2.1 h a).map (fun x => (pc + 3, ls, (if f.2.2 = 2 then .inr (.inr x.toNat) else .inl x) :: r, h))
    | _ => none)
  | .putfield k => (fldOf (mown m) k).bind (fun f => match st with
    | .inl v :: .inr (.inr a) :: r => if f.2.2 = 0 ∨ (f.2.2 = 1 ∧ (v = 0 ∨ v = 1)) then (pfd f.1 f.2.1 h a v).map (fun h' => (pc + 3, ls, r, h')) else none
    | .inr (.inr b) :: .inr (.inr a) :: r => if f.2.2 = 2 then (pfd f.1 f.2.1 h a (b : Int)).map (fun h' => (pc + 3, ls, r, h')) else none
    | _ => none)
  | .getstatic k => (staOf (mown m) k).map (fun a => (pc + 3, ls, .inr (.inr a) :: st, h))
  | .iaload => match st with
    | .inl j :: .inr (.inr a) :: r => (ald 10 h a j).map (fun x => (pc + 1, ls, .inl x :: r, h))
    | _ => none
  | .baload => match st with
    | .inl j :: .inr (.inr a) :: r => (bld h a j).map (fun x => (pc + 1, ls, .inl x :: r, h))
    | _ => none
  | .aaload => match st with
    | .inl j :: .inr (.inr a) :: r => (ald 13 h a j).map (fun x => (pc + 1, ls, .inr (.inr x.toNat) :: r, h))
    | _ => none
  | .iastore => match st with
    | .inl v :: .inl j :: .inr (.inr a) :: r => (ast h a j v).map (fun h' => (pc + 1, ls, r, h'))
    | _ => none
  | .bastore => match st with
    | .inl v :: .inl j :: .inr (.inr a) :: r => (bst h a j v).map (fun h' => (pc + 1, ls, r, h'))
    | _ => none
  | .arraylength => match st with
    | .inr (.inr a) :: r => (aln h a).map (fun n => (pc + 1, ls, .inl n :: r, h))
    | _ => none
  | .newarray t => match st with
    | .inl n :: r => if 0 ≤ n ∧ n ≤ 100000 then (match t with
      | .int => some (pc + 2, ls, .inr (.inr h.1.length) :: r, mnew h 10 n.toNat)
      | .byte => some (pc + 2, ls, .inr (.inr h.1.length) :: r, mnew h 11 n.toNat)
      | .boolean => some (pc + 2, ls, .inr (.inr h.1.length) :: r, mnew h 12 n.toNat)
      | _ => none) else none
    | _ => none
  | .new k => (newOf (mown m) k).map (fun ci => (pc + 3, ls, .inr (.inr h.1.length) :: st, mnew h ci (nfld ci)))
  | .multianewarray k d => match st with
    | .inl n2 :: .inl n1 :: r => if mown m = 3 ∧ k = 9 ∧ d = 2 ∧ 0 ≤ n1 ∧ n1 ≤ 100 ∧ 0 ≤ n2 ∧ n2 ≤ 1000 then some (pc + 4, ls, .inr (.inr h.1.length) :: r, mgrd h n1.toNat n2.toNat) else none
    | _ => none
  | .invokespecial k => match invOf (mown m) k, st with
    | some (4, _), .inr (.inr a) :: r => if a ≠ 0 ∧ catS r ≤ 8 ∧ 1 ≤ mdep m then some (pc + 3, ls, r, h) else none
    | _, _ => none
  | .invokestatic k => match invOf (mown m) k, st with
    | some (5, _), .inl n :: .inl dp :: .inr (.inr a) :: .inl sp :: .inr (.inr b) :: r => if sp = 0 ∧ dp = 0 ∧ catS r ≤ 8 ∧ 1 ≤ mdep m then (acp h b a n).map (fun h' => (pc + 3, ls, r, h')) else none
    | _, _ => none
  | .invokevirtual k => match invOf (mown m) k, st with
    | some (6, _), .inr (.inr a) :: r => if a = 4 ∧ catS r ≤ 8 ∧ 2 ≤ mdep m then (aln h 5).map (fun n => (pc + 3, ls, .inl n :: r, h)) else none
    | some (7, _), .inl i :: .inr (.inr a) :: r => if a = 4 ∧ catS r ≤ 8 ∧ 5 ≤ mdep m then (ald 11 h 5 i).map (fun x => (pc + 3, ls, .inl x :: r, h)) else none
    | _, _ => none
  | _ => none
/-- a method's locals at its entry -/
def argL : List mV → mL
  | [] => []
  | v :: r => if catV v = 2 then some v :: none :: argL r else some v :: argL r
/-- what a call takes: the method, its arguments, what is left -/
def callOf (m : Nat) (ins : Instr) (st : List mV) : Option (Nat × List mV × List mV) := match ins with
  | .invokevirtual k => match invOf (mown m) k with
    | some (0, t) => if mpar t + 1 ≤ st.length ∧ catS (st.drop (mpar t + 1)) ≤ 8 ∧ mdep t < mdep m ∧ (argL (st.take (mpar t + 1)).reverse).length ≤ mmax t then some (t, (st.take (mpar t + 1)).reverse, st.drop (mpar t + 1)) else none
    | _ => none
  | .invokespecial k => match invOf (mown m) k with
    | some (1, t) => if mpar t + 1 ≤ st.length ∧ catS (st.drop (mpar t + 1)) ≤ 8 ∧ mdep t < mdep m ∧ (argL (st.take (mpar t + 1)).reverse).length ≤ mmax t then some (t, (st.take (mpar t + 1)).reverse, st.drop (mpar t + 1)) else none
    | some (3, t) => if mpar t + 1 ≤ st.length ∧ catS (st.drop (mpar t + 1)) ≤ 8 ∧ mdep t < mdep m ∧ (argL (st.take (mpar t + 1)).reverse).length ≤ mmax t then some (t, (st.take (mpar t + 1)).reverse, st.drop (mpar t + 1)) else none
    | _ => none
  | .invokestatic k => match invOf (mown m) k with
    | some (2, t) => if mpar t ≤ st.length ∧ catS (st.drop (mpar t)) ≤ 8 ∧ mdep t < mdep m ∧ (argL (st.take (mpar t)).reverse).length ≤ mmax t then some (t, (st.take (mpar t)).reverse, st.drop (mpar t)) else none
    | _ => none
  | _ => none
def retOf (m : Nat) (ins : Instr) (st : List mV) : Option (Option mV) := match ins with
  | .ireturn => match st with
    | [.inl x] => if mans m = 1 ∨ (mans m = 2 ∧ (x = 0 ∨ x = 1)) then some (some (.inl x)) else none
    | _ => none
  | .return_ => match st with
    | [] => if mans m = 0 then some none else none
    | _ => none
  | _ => none
def entL (t : Nat) (as : List mV) : mL := argL as ++ List.replicate (mmax t - (argL as).length) none
/-- of an instance method the receiver is of its own kind; of a constructor it is there -/
def rok (k : Nat) (t : Nat) (as : List mV) (h : mH) : Bool := match k with
  | 0 => (match as with
    | .inr (.inr a) :: _ => isO h a (mown t)
    | _ => false)
  | 2 => true
  | _ => (match as with
    | .inr (.inr a) :: _ => decide (a ≠ 0)
    | _ => false)
def wayI : Instr → Nat
  | .invokevirtual _ => 0
  | .invokestatic _ => 2
  | _ => 1
abbrev mF : Type := Nat → Nat → mL → List mV → mH → mR
def asI (x : mR) : Option (Int × mH) := x.bind (fun r => match r.1 with
  | some (.inl v) => some (v, r.2)
  | _ => none)
def asU (x : mR) : Option mH := x.bind (fun r => match r.1 with
  | none => some r.2
  | _ => none)
def cal (f : mF) (k t : Nat) (as : List mV) (h : mH) : mR := if rok k t as h = true then f t 0 (entL t as) [] h else none
def ex (f : mF) (ins : Instr) (m pc : Nat) (ls : mL) (st : List mV) (h : mH) : mR := match retOf m ins st with
  | some v => some (v, h)
  | none => match callOf m ins st with
    | some q => if mans q.1 = 0 then (asU (cal f (wayI ins) q.1 q.2.1 h)).bind (fun h' => f m (pc + 3) ls q.2.2 h')
      else (asI (cal f (wayI ins) q.1 q.2.1 h)).bind (fun r => f m (pc + 3) ls (.inl r.1 :: q.2.2) r.2)
    | none => match pstep m ins pc ls st h with
      | some q => f m q.1 q.2.1 q.2.2.1 q.2.2.2
      | none => none
def exec1 (f : mF) (m pc : Nat) (ls : mL) (st : List mV) (h : mH) : mR := match decode (codeOf m) pc with
  | .ok q => if lenI q.1 = q.2 ∨ lenI q.1 = 0 then ex f q.1 m pc ls st h else none
  | .error _ => none
def mrun : Nat → mF
  | 0 => fun _ _ _ _ _ => none
  | n + 1 => exec1 (mrun n)
/-! its limit -/
def mle (f g : mF) : Prop := ∀ m pc ls st h r, f m pc ls st h = some r → g m pc ls st h = some r
theorem cal_mono {f g : mF} (hfg : mle f g) {k t : Nat} {as : List mV} {h : mH} {r} (e : cal f k t as h = some r) : cal g k t as h = some r := by
  unfold cal at e ⊢
  split at e
  · rename_i h1; rw [if_pos h1]; exact hfg _ _ _ _ _ _ e
  · cases e
theorem ex_mono {f g : mF} (hfg : mle f g) {ins : Instr} {m pc : Nat} {ls : mL} {st : List mV} {h : mH} {r} (e : ex f ins m pc ls st h = some r) : ex g ins m pc ls st h = some r := by
  unfold ex at e ⊢
  split at e
  · exact e
  · split at e
    · split at e
      · rename_i h3
        rw [if_pos h3]
        obtain ⟨h', e1, e2⟩ := Option.bind_eq_some_iff.mp e
        obtain ⟨r0, e3, e4⟩ := Option.bind_eq_some_iff.mp e1
        refine Option.bind_eq_some_iff.mpr ⟨h', Option.bind_eq_some_iff.mpr ⟨r0, cal_mono hfg e3, e4⟩, hfg _ _ _ _ _ _ e2⟩
      · rename_i h3
        rw [if_neg h3]
        obtain ⟨h', e1, e2⟩ := Option.bind_eq_some_iff.mp e
        obtain ⟨r0, e3, e4⟩ := Option.bind_eq_some_iff.mp e1
        refine Option.bind_eq_some_iff.mpr ⟨h', Option.bind_eq_some_iff.mpr ⟨r0, cal_mono hfg e3, e4⟩, hfg _ _ _ _ _ _ e2⟩
    · split at e
      · exact hfg _ _ _ _ _ _ e
      · cases e
theorem exec1_mono {f g : mF} (hfg : mle f g) {m pc : Nat} {ls : mL} {st : List mV} {h : mH} {r} (e : exec1 f m pc ls st h = some r) : exec1 g m pc ls st h = some r := by
  unfold exec1 at e ⊢
  split at e
  · split at e
    · rename_i h1; rw [if_pos h1]; exact ex_mono hfg e
    · cases e
  · cases e
theorem mrun_succ : ∀ n, mle (mrun n) (mrun (n + 1))
  | 0 => fun _ _ _ _ _ _ e => by cases e
  | n + 1 => fun _ _ _ _ _ _ e => exec1_mono (mrun_succ n) e
theorem mrun_le {a b : Nat} (hab : a ≤ b) : mle (mrun a) (mrun b) := by
  induction hab with
  | refl => exact fun _ _ _ _ _ _ e => e
  | step _ ih => exact fun _ _ _ _ _ _ e => mrun_succ _ _ _ _ _ _ _ (ih _ _ _ _ _ _ e)

/-- what a predicate singles out, if anything -/
noncomputable def pick1 {α : Type} (P : α → Prop) : Option α := by
  classical
  exact if e : ∃ r, P r then some (Classical.choose e) else none
theorem pick1_some {α : Type} {P : α → Prop} (hu : ∀ a b, P a → P b → a = b) (r : α) : pick1 P = some r ↔ P r := by
  unfold pick1
  constructor
  · intro h
    split at h
    · rename_i e
      have := Classical.choose_spec e
      cases h; exact this
    · cases h
  · intro h
    rw [dif_pos ⟨r, h⟩]
    exact congrArg some (hu _ _ (Classical.choose_spec (⟨r, h⟩ : ∃ r, P r)) h)
noncomputable def Lim : mF := fun m pc ls st h => pick1 (fun r => ∃ n, mrun n m pc ls st h = some r)
theorem Lim_some {m pc : Nat} {ls : mL} {st : List mV} {h : mH} {r} : Lim m pc ls st h = some r ↔ ∃ n, mrun n m pc ls st h = some r := by
  unfold Lim
  refine pick1_some (fun a b ha hb => ?_) r
  obtain ⟨n, ha⟩ := ha
  obtain ⟨k, hb⟩ := hb
  have h1 := mrun_le (Nat.le_max_left n k) _ _ _ _ _ _ ha
  have h2 := mrun_le (Nat.le_max_right n k) _ _ _ _ _ _ hb
  exact Option.some.inj (h1.symm.trans h2)
theorem mrun_Lim (n : Nat) : mle (mrun n) Lim := fun _ _ _ _ _ _ e => Lim_some.mpr ⟨n, e⟩
theorem cal_Lim {k t : Nat} {as : List mV} {h : mH} {r} (e : cal Lim k t as h = some r) : ∃ n, cal (mrun n) k t as h = some r := by
  unfold cal at e
  split at e
  · rename_i h1
    obtain ⟨n, hn⟩ := Lim_some.mp e
    exact ⟨n, by unfold cal; rw [if_pos h1]; exact hn⟩
  · cases e
theorem ex_Lim {ins : Instr} {m pc : Nat} {ls : mL} {st : List mV} {h : mH} {r} (e : ex Lim ins m pc ls st h = some r) : ∃ n, ex (mrun n) ins m pc ls st h = some r := by
  unfold ex at e
  split at e
  · rename_i v h1
    exact ⟨0, by unfold ex; rw [h1]; exact e⟩
  · rename_i h1
    split at e
    · rename_i q h2
      split at e
      · rename_i h3
        obtain ⟨h', e1, e2⟩ := Option.bind_eq_some_iff.mp e
        obtain ⟨r0, e3, e4⟩ := Option.bind_eq_some_iff.mp e1
        obtain ⟨n, hn⟩ := cal_Lim e3
        obtain ⟨k, hk⟩ := Lim_some.mp e2
        refine ⟨max n k, ?_⟩
        unfold ex
        rw [h1, h2]
        simp only [if_pos h3]
        exact Option.bind_eq_some_iff.mpr ⟨h', Option.bind_eq_some_iff.mpr ⟨r0, cal_mono (mrun_le (Nat.le_max_left n k)) hn, e4⟩, mrun_le (Nat.le_max_right n k) _ _ _ _ _ _ hk⟩
      · rename_i h3
        obtain ⟨h', e1, e2⟩ := Option.bind_eq_some_iff.mp e
        obtain ⟨r0, e3, e4⟩ := Option.bind_eq_some_iff.mp e1
        obtain ⟨n, hn⟩ := cal_Lim e3
        obtain ⟨k, hk⟩ := Lim_some.mp e2
        refine ⟨max n k, ?_⟩
        unfold ex
        rw [h1, h2]
        simp only [if_neg h3]
        exact Option.bind_eq_some_iff.mpr ⟨h', Option.bind_eq_some_iff.mpr ⟨r0, cal_mono (mrun_le (Nat.le_max_left n k)) hn, e4⟩, mrun_le (Nat.le_max_right n k) _ _ _ _ _ _ hk⟩
    · rename_i h2
      split at e
      · rename_i q h3
        obtain ⟨k, hk⟩ := Lim_some.mp e
        exact ⟨k, by unfold ex; rw [h1, h2, h3]; exact hk⟩
      · cases e
theorem Lim_eq (m pc : Nat) (ls : mL) (st : List mV) (h : mH) : Lim m pc ls st h = exec1 Lim m pc ls st h := by
  apply Option.ext
  intro r
  constructor
  · intro e
    obtain ⟨n, hn⟩ := Lim_some.mp e
    cases n with
    | zero => cases hn
    | succ n => exact exec1_mono (mrun_Lim n) hn
  · intro e
    unfold exec1 at e
    split at e
    · rename_i q hd
      split at e
      · rename_i h1
        obtain ⟨n, hn⟩ := ex_Lim e
        refine Lim_some.mpr ⟨n + 1, ?_⟩
        show exec1 (mrun n) m pc ls st h = some r
        unfold exec1
        rw [hd]
        show (if lenI q.1 = q.2 ∨ lenI q.1 = 0 then ex (mrun n) q.1 m pc ls st h else none) = some r
        rw [if_pos h1]
        exact hn
      · cases e
    · cases e
end
section
/-! whole numbers behind the machine's ints and longs -/
theorem w32_bmod (x : Int) : Int.bmod x 4294967296 = w32 x := by
  unfold w32
  simp only [Int.bmod]
  split <;> omega
theorem w64_bmod (x : Int) : Int.bmod x 18446744073709551616 = w64 x := by
  unfold w64
  simp only [Int.bmod]
  split <;> omega
theorem i32_add (a b : Int32) : (a + b).toInt = w32 (a.toInt + b.toInt) := by
  rw [Int32.toInt_add]; exact w32_bmod _
theorem i32_sub (a b : Int32) : (a - b).toInt = w32 (a.toInt - b.toInt) := by
  rw [Int32.toInt_sub]; exact w32_bmod _
theorem i32_mul (a b : Int32) : (a * b).toInt = w32 (a.toInt * b.toInt) := by
  rw [Int32.toInt_mul]; exact w32_bmod _
theorem i32_div (a b : Int32) : (a / b).toInt = w32 (a.toInt.tdiv b.toInt) := by
  rw [Int32.toInt_div]; exact w32_bmod _
theorem i64_add (a b : Int64) : (a + b).toInt = w64 (a.toInt + b.toInt) := by
  rw [Int64.toInt_add]; exact w64_bmod _
theorem i64_sub (a b : Int64) : (a - b).toInt = w64 (a.toInt - b.toInt) := by
  rw [Int64.toInt_sub]; exact w64_bmod _
theorem i64_mul (a b : Int64) : (a * b).toInt = w64 (a.toInt * b.toInt) := by
  rw [Int64.toInt_mul]; exact w64_bmod _
theorem i64_div (a b : Int64) : (a / b).toInt = w64 (a.toInt.tdiv b.toInt) := by
  rw [Int64.toInt_div]; exact w64_bmod _
theorem i32_rng (a : Int32) : -2147483648 ≤ a.toInt ∧ a.toInt < 2147483648 := by
  have h1 := Int32.le_toInt a
  have h2 := Int32.toInt_lt a
  constructor <;> omega
theorem i64_rng (a : Int64) : -9223372036854775808 ≤ a.toInt ∧ a.toInt < 9223372036854775808 := by
  have h1 := Int64.le_toInt a
  have h2 := Int64.toInt_lt a
  constructor <;> omega
theorem w32_in {x : Int} (h1 : -2147483648 ≤ x) (h2 : x < 2147483648) : w32 x = x := by
  unfold w32; omega
theorem w64_in {x : Int} (h1 : -9223372036854775808 ≤ x) (h2 : x < 9223372036854775808) : w64 x = x := by
  unfold w64; omega
theorem w32_mul (a b : Int) : w32 (w32 a * b) = w32 (a * b) := by
  rw [← w32_bmod a, ← w32_bmod (a * b), ← w32_bmod]
  exact Int.bmod_mul_bmod
theorem w64_mul (a b : Int) : w64 (w64 a * b) = w64 (a * b) := by
  rw [← w64_bmod a, ← w64_bmod (a * b), ← w64_bmod]
  exact Int.bmod_mul_bmod
theorem w32_sub (a b : Int) : w32 (a - w32 b) = w32 (a - b) := by
  unfold w32; omega
theorem w64_sub (a b : Int) : w64 (a - w64 b) = w64 (a - b) := by
  unfold w64; omega
theorem tmod_rng {x y M : Int} (h1 : -M ≤ x) (h2 : x < M) : -M ≤ x.tmod y ∧ x.tmod y < M := by
  have h : (x.tmod y).natAbs ≤ x.natAbs := by rw [Int.natAbs_tmod]; exact Nat.mod_le _ _
  have hs := Int.tmod_nonneg (a := x) y
  have hn : x ≤ 0 → x.tmod y ≤ 0 := fun hx => by
    have := Int.tmod_nonneg (a := -x) y (by omega)
    rw [Int.neg_tmod] at this
    omega
  by_cases hx : 0 ≤ x
  · have := hs hx
    omega
  · have := hn (by omega)
    omega
theorem i32_rem (a b : Int32) : (a - a / b * b).toInt = a.toInt.tmod b.toInt := by
  rw [i32_sub, i32_mul, i32_div, w32_sub]
  have e : w32 (a.toInt - w32 (a.toInt.tdiv b.toInt) * b.toInt) = w32 (a.toInt - a.toInt.tdiv b.toInt * b.toInt) := by
    rw [← w32_sub, w32_mul, w32_sub]
  rw [e]
  have h3 : a.toInt - a.toInt.tdiv b.toInt * b.toInt = a.toInt.tmod b.toInt := by
    have := Int.tdiv_mul_add_tmod a.toInt b.toInt
    omega
  rw [h3]
  obtain ⟨r1, r2⟩ := i32_rng a
  obtain ⟨q1, q2⟩ := tmod_rng (y := b.toInt) r1 r2
  exact w32_in q1 q2
theorem i64_rem (a b : Int64) : (a - a / b * b).toInt = a.toInt.tmod b.toInt := by
  rw [i64_sub, i64_mul, i64_div, w64_sub]
  have e : w64 (a.toInt - w64 (a.toInt.tdiv b.toInt) * b.toInt) = w64 (a.toInt - a.toInt.tdiv b.toInt * b.toInt) := by
    rw [← w64_sub, w64_mul, w64_sub]
  rw [e]
  have h3 : a.toInt - a.toInt.tdiv b.toInt * b.toInt = a.toInt.tmod b.toInt := by
    have := Int.tdiv_mul_add_tmod a.toInt b.toInt
    omega
  rw [h3]
  obtain ⟨r1, r2⟩ := i64_rng a
  obtain ⟨q1, q2⟩ := tmod_rng (y := b.toInt) r1 r2
  exact w64_in q1 q2
theorem i32_iand (a b : Int32) : (a &&& b).toInt = iand a.toInt b.toInt := by simp [iand]
theorem i32_ior (a b : Int32) : (a ||| b).toInt = ior a.toInt b.toInt := by simp [ior]
theorem i32_ixor (a b : Int32) : (a ^^^ b).toInt = ixor a.toInt b.toInt := by simp [ixor]
theorem i32_shl (a b : Int32) : (a <<< (b &&& 31)).toInt = ishl a.toInt b.toInt := by simp [ishl]
theorem i32_shr (a b : Int32) : (a >>> (b &&& 31)).toInt = ishr a.toInt b.toInt := by simp [ishr]
theorem i32_ush (a b : Int32) : ((a.toUInt32 >>> (b.toUInt32 &&& Int32.toUInt32 31)).toInt32).toInt = iush a.toInt b.toInt := by simp [iush]
theorem i64_i32 (a : Int64) : a.toInt32.toInt = w32 a.toInt := by
  rw [Int64.toInt_toInt32]; exact w32_bmod _
theorem i32_i64 (a : Int32) : a.toInt64.toInt = a.toInt := by simp
theorem i32_i8 (a : Int32) : a.toInt8.toInt32.toInt = w8 a.toInt := by
  simp only [Int8.toInt_toInt32, Int32.toInt_toInt8, Int.bmod]
  unfold w8
  split <;> omega
theorem i32_eq {a b : Int32} : a = b ↔ a.toInt = b.toInt := Int32.toInt_inj.symm
theorem i32_nat {a : Int32} (h : 0 ≤ a.toInt) : (a.toNatClampNeg : Int) = a.toInt := by
  show ((a.toInt.toNat : Nat) : Int) = a.toInt
  omega
theorem i32_cl (a : Int32) : a.toNatClampNeg = a.toInt.toNat := rfl
theorem i32_of {n : Int} (h1 : -2147483648 ≤ n) (h2 : n < 2147483648) : (Int32.ofInt n).toInt = n := by
  rw [Int32.toInt_ofInt]
  simp only [Int.bmod, Int32.size]
  split <;> omega
theorem i8_of {n : Int} (h1 : -128 ≤ n) (h2 : n ≤ 127) : ((Int8.ofInt n).toInt32).toInt = n := by
  rw [Int8.toInt_toInt32, Int8.toInt_ofInt]
  simp only [Int.bmod, Int8.size]
  split <;> omega
theorem i16_of {n : Int} (h1 : -32768 ≤ n) (h2 : n ≤ 32767) : ((Int16.ofInt n).toInt32).toInt = n := by
  rw [Int16.toInt_toInt32, Int16.toInt_ofInt]
  simp only [Int.bmod, Int16.size]
  split <;> omega
end
section
/-! how the mini machine's values and memory stand in the machine -/
/-- the size of the heap at the law's entry; where the cells 1 to 5 are; the classes and their slots -/
abbrev mG : Type := Nat × (Nat → Nat) × va_G
def rho (G : mG) (k : Nat) : Nat := if k < 6 then G.2.1 k else G.1 + (k - 6)
def RV (G : mG) (v : mV) (w : Value) : Prop := match v with
  | .inl x => ∃ a : Int32, w = .int a ∧ a.toInt = x
  | .inr (.inl x) => ∃ a : Int64, w = .long a ∧ a.toInt = x
  | .inr (.inr k) => w = if k = 0 then .null else .ref (rho G k)
def RL (G : mG) : List mV → List Value → Prop
  | [], [] => True
  | v :: r, w :: q => RV G v w ∧ RL G r q
  | _, _ => False
def RS (G : mG) (ty : Nat) (x : Int) (w : Value) : Prop := if ty = 2 then 0 ≤ x ∧ RV G (.inr (.inr x.toNat)) w else RV G (.inl x) w
def tyf (ci j : Nat) : Nat := (tfld.getD ci []).getD j 0
def tyA (kd : Nat) : FieldType := if kd = 10 then .int else if kd = 11 then .byte else if kd = 12 then .boolean else .array .int
def RC (G : mG) (s : State) (kd n : Nat) (row : Nat → Int) (cell : Cell) : Prop :=
  (kd < 7 ∧ n = nfld kd ∧ cell.cls = G.2.2.1 kd ∧ cell.vm = .none ∧ ∀ j, j < n → ∃ w, cell.slots[G.2.2.2 kd j]? = some w ∧ RS G (tyf kd j) (row j) w) ∨
  (10 ≤ kd ∧ kd ≤ 13 ∧ n < 1000000 ∧ s.isArrayOf cell (tyA kd) ∧ cell.vm ≠ .unknown ∧ cell.slots.size = n ∧ ∀ j, j < n → ∃ w, cell.slots[j]? = some w ∧ RS G (if kd = 13 then 2 else 0) (row j) w) ∨
  kd = 20
def Rep (G : mG) (s : State) (h : mH) (H : Heap) : Prop := H.size = G.1 + (h.1.length - 6) ∧ 6 ≤ h.1.length ∧ (∀ k, 1 ≤ k → k < 6 → G.2.1 k < G.1) ∧
  ∀ (k : Nat) (q : Nat × Nat), 1 ≤ k → h.1[k]? = some q → ∃ cell, H[rho G k]? = some cell ∧ RC G s q.1 q.2 (h.2 k) cell
def LR (G : mG) (n : Nat) (ls : mL) (L : Array Slot) : Prop := L.size = n ∧ lv_wf L ∧ ls.length = n ∧ ∀ (i : Nat) (v : mV), ls[i]? = some (some v) → ∃ w, L[i]? = some (.val w) ∧ RV G v w
theorem RV_cat {G : mG} {v : mV} {w : Value} (h : RV G v w) : w.category = catV v := by
  match v, h with
  | .inl x, ⟨a, e, _⟩ => rw [e]; rfl
  | .inr (.inl x), ⟨a, e, _⟩ => rw [e]; rfl
  | .inr (.inr k), h =>
    have h : w = if k = 0 then .null else .ref (rho G k) := h
    rw [h]
    split <;> rfl
theorem RL_cat {G : mG} : ∀ {st : List mV} {S : List Value}, RL G st S → (S.map fun v => v.category).sum = catS st
  | [], [], _ => rfl
  | v :: r, w :: q, h => by
    have h1 := RV_cat h.1
    have h2 := RL_cat h.2
    simp only [List.map_cons, List.sum_cons, catS] at h2 ⊢
    rw [h1, h2]
theorem RL_len {G : mG} : ∀ {st : List mV} {S : List Value}, RL G st S → S.length = st.length
  | [], [], _ => rfl
  | v :: r, w :: q, h => by simp [RL_len h.2]
theorem RL_cons {G : mG} {v : mV} {r : List mV} {S : List Value} (h : RL G (v :: r) S) : ∃ w q, S = w :: q ∧ RV G v w ∧ RL G r q := by
  match S, h with
  | w :: q, h => exact ⟨w, q, rfl, h.1, h.2⟩
theorem RL_nil {G : mG} {S : List Value} (h : RL G [] S) : S = [] := by
  match S, h with
  | [], _ => rfl
theorem RL_app {G : mG} : ∀ {a b : List mV} {A B : List Value}, RL G a A → RL G b B → RL G (a ++ b) (A ++ B)
  | [], _, [], _, _, h => h
  | _ :: _, _, _ :: _, _, h1, h2 => ⟨h1.1, RL_app h1.2 h2⟩
theorem RL_take {G : mG} : ∀ (n : Nat) {a : List mV} {A : List Value}, RL G a A → RL G (a.take n) (A.take n)
  | 0, _, _, _ => by simp [RL]
  | n + 1, [], [], _ => by simp [RL]
  | n + 1, _ :: _, _ :: _, h => ⟨h.1, RL_take n h.2⟩
theorem RL_drop {G : mG} : ∀ (n : Nat) {a : List mV} {A : List Value}, RL G a A → RL G (a.drop n) (A.drop n)
  | 0, _, _, h => h
  | n + 1, [], [], _ => by simp [RL]
  | n + 1, _ :: _, _ :: _, h => RL_drop n h.2
theorem RL_rev {G : mG} : ∀ {a : List mV} {A : List Value}, RL G a A → RL G a.reverse A.reverse
  | [], [], _ => by simp [RL]
  | v :: r, w :: q, h => by
    rw [List.reverse_cons, List.reverse_cons]
    exact RL_app (RL_rev h.2) ⟨h.1, trivial⟩
theorem RV_int {G : mG} {x : Int} {w : Value} (h : RV G (.inl x) w) : ∃ a : Int32, w = .int a ∧ a.toInt = x := h
theorem RV_lng {G : mG} {x : Int} {w : Value} (h : RV G (.inr (.inl x)) w) : ∃ a : Int64, w = .long a ∧ a.toInt = x := h
theorem RV_ref {G : mG} {k : Nat} {w : Value} (h : RV G (.inr (.inr k)) w) : w = if k = 0 then .null else .ref (rho G k) := h
theorem RV_ref1 {G : mG} {k : Nat} {w : Value} (h : RV G (.inr (.inr k)) w) (hk : k ≠ 0) : w = .ref (rho G k) := by
  rw [RV_ref h, if_neg hk]
/-! locals -/
def lvO (ls : mL) (L : Array Slot) : List (Nat × Value) := (List.range ls.length).filterMap (fun i => match ls[i]?, (L[i]? : Option Slot) with
  | some (some _), some (Slot.val w) => some (i, w)
  | _, _ => none)
theorem lvO_mem {ls : mL} {L : Array Slot} {i : Nat} {w : Value} {v : mV} (h1 : ls[i]? = some (some v)) (h2 : L[i]? = some (.val w)) : (i, w) ∈ lvO ls L := by
  unfold lvO
  refine List.mem_filterMap.mpr ⟨i, List.mem_range.mpr (List.getElem?_eq_some_iff.mp h1).1, ?_⟩
  rw [h1, h2]
theorem lvO_of {ls : mL} {L : Array Slot} {q : Nat × Value} (h : q ∈ lvO ls L) : L[q.1]? = some (.val q.2) := by
  unfold lvO at h
  obtain ⟨i, -, h⟩ := List.mem_filterMap.mp h
  split at h
  · rename_i h1 h2
    cases h
    exact h2
  · cases h
theorem LR_has {G : mG} {n : Nat} {ls : mL} {L : Array Slot} (h : LR G n ls L) : lv_has L n (lvO ls L) := ⟨h.1, h.2.1, fun _ hq => lvO_of hq⟩
theorem LR_set1 {G : mG} {n i : Nat} {ls ls' : mL} {L L' : Array Slot} {v : mV} {w : Value} (h : LR G n ls L) (hs : set1 ls i v = some ls') (hv : RV G v w)
    (hl : lv_has L' n ((i, w) :: (lvO ls L).filter (fun q => !(q.1 == i) && !(q.1 + 1 == i && q.2.category == 2)))) : LR G n ls' L' := by
  obtain ⟨h1, h2, h3, h4⟩ := h
  unfold set1 at hs
  split at hs
  · rename_i hi
    have key : ∀ (j : Nat) (u : mV), j ≠ i → ls[j]? = some (some u) → ¬ (j + 1 = i ∧ catV u = 2) → ∃ w, L'[j]? = some (.val w) ∧ RV G u w := by
      intro j u hj hu hc
      obtain ⟨z, z1, z2⟩ := h4 j u hu
      refine ⟨z, hl.2.2 (j, z) (List.mem_cons_of_mem _ (List.mem_filter.mpr ⟨lvO_mem hu z1, ?_⟩)), z2⟩
      have hz := RV_cat z2
      by_cases hji : j + 1 = i
      · have : catV u ≠ 2 := fun q => hc ⟨hji, q⟩
        simp [hj, hz, this]
      · simp [hj, hji]
    have hnew : L'[i]? = some (.val w) := hl.2.2 (i, w) List.mem_cons_self
    have e : ls' = if i ≠ 0 ∧ lngV ls[i - 1]? = true then (ls.set i (some v)).set (i - 1) none else ls.set i (some v) := (Option.some.inj hs).symm
    refine ⟨hl.1, hl.2.1, ?_, ?_⟩
    · rw [e]; split <;> simp [h3]
    · intro j u hu
      rw [e] at hu
      split at hu
      · rename_i hc
        by_cases hj : j = i - 1
        · subst hj
          rw [List.getElem?_set_self (by simp; omega)] at hu
          cases hu
        · rw [List.getElem?_set_ne (Ne.symm hj)] at hu
          by_cases hj2 : j = i
          · subst hj2
            rw [List.getElem?_set_self hi] at hu
            cases hu
            exact ⟨w, hnew, hv⟩
          · rw [List.getElem?_set_ne (Ne.symm hj2)] at hu
            exact key j u hj2 hu (fun q => hj (by omega))
      · rename_i hc
        by_cases hj2 : j = i
        · subst hj2
          rw [List.getElem?_set_self hi] at hu
          cases hu
          exact ⟨w, hnew, hv⟩
        · rw [List.getElem?_set_ne (Ne.symm hj2)] at hu
          refine key j u hj2 hu (fun q => hc ⟨by omega, ?_⟩)
          have : i - 1 = j := by omega
          rw [this, hu]
          match u, q.2 with
          | .inr (.inl _), _ => rfl
  · cases hs
theorem LR_set2 {G : mG} {n i : Nat} {ls ls' : mL} {L L' : Array Slot} {v : mV} {w : Value} (h : LR G n ls L) (hs : set2 ls i v = some ls') (hv : RV G v w)
    (hl : lv_has L' n ((i, w) :: (lvO ls L).filter (fun q => !(q.1 == i) && (!(q.1 == i + 1) && !(q.1 + 1 == i && q.2.category == 2))))) : LR G n ls' L' := by
  obtain ⟨h1, h2, h3, h4⟩ := h
  unfold set2 at hs
  split at hs
  · rename_i hi
    have key : ∀ (j : Nat) (u : mV), j ≠ i → j ≠ i + 1 → ls[j]? = some (some u) → ¬ (j + 1 = i ∧ catV u = 2) → ∃ w, L'[j]? = some (.val w) ∧ RV G u w := by
      intro j u hj hj' hu hc
      obtain ⟨z, z1, z2⟩ := h4 j u hu
      refine ⟨z, hl.2.2 (j, z) (List.mem_cons_of_mem _ (List.mem_filter.mpr ⟨lvO_mem hu z1, ?_⟩)), z2⟩
      have hz := RV_cat z2
      by_cases hji : j + 1 = i
      · have : catV u ≠ 2 := fun q => hc ⟨hji, q⟩
        simp [hj, hj', hz, this]
      · simp [hj, hj', hji]
    have hnew : L'[i]? = some (.val w) := hl.2.2 (i, w) List.mem_cons_self
    have e : ls' = if i ≠ 0 ∧ lngV ls[i - 1]? = true then ((ls.set i (some v)).set (i + 1) none).set (i - 1) none else (ls.set i (some v)).set (i + 1) none := (Option.some.inj hs).symm
    have hmid : ∀ (j : Nat) (u : mV), ((ls.set i (some v)).set (i + 1) none)[j]? = some (some u) → ¬ (j + 1 = i ∧ catV u = 2) → ∃ w, L'[j]? = some (.val w) ∧ RV G u w := by
      intro j u hu hc
      by_cases hj : j = i + 1
      · subst hj
        rw [List.getElem?_set_self (by simp; omega)] at hu
        cases hu
      · rw [List.getElem?_set_ne (Ne.symm hj)] at hu
        by_cases hj2 : j = i
        · subst hj2
          rw [List.getElem?_set_self (by omega)] at hu
          cases hu
          exact ⟨w, hnew, hv⟩
        · rw [List.getElem?_set_ne (Ne.symm hj2)] at hu
          exact key j u hj2 hj hu hc
    refine ⟨hl.1, hl.2.1, ?_, ?_⟩
    · rw [e]; split <;> simp [h3]
    · intro j u hu
      rw [e] at hu
      split at hu
      · rename_i hc
        by_cases hj : j = i - 1
        · subst hj
          rw [List.getElem?_set_self (by simp; omega)] at hu
          cases hu
        · rw [List.getElem?_set_ne (Ne.symm hj)] at hu
          exact hmid j u hu (fun q => hj (by omega))
      · rename_i hc
        refine hmid j u hu (fun q => hc ⟨by omega, ?_⟩)
        have hji : j ≠ i := by omega
        have hji' : j ≠ i + 1 := by omega
        rw [List.getElem?_set_ne (Ne.symm hji'), List.getElem?_set_ne (Ne.symm hji)] at hu
        have : i - 1 = j := by omega
        rw [this, hu]
        match u, q.2 with
        | .inr (.inl _), _ => rfl
  · cases hs
theorem ldI_of {G : mG} {n i : Nat} {ls : mL} {L : Array Slot} {x : Int} (h : LR G n ls L) (e : ldI ls i = some x) : ∃ a : Int32, L[i]? = some (.val (.int a)) ∧ a.toInt = x := by
  unfold ldI at e
  split at e
  · rename_i y hy
    cases e
    obtain ⟨w, h1, a, rfl, h2⟩ := h.2.2.2 i _ hy
    exact ⟨a, h1, h2⟩
  · cases e
theorem ldJ_of {G : mG} {n i : Nat} {ls : mL} {L : Array Slot} {x : Int} (h : LR G n ls L) (e : ldJ ls i = some x) : ∃ a : Int64, L[i]? = some (.val (.long a)) ∧ a.toInt = x := by
  unfold ldJ at e
  split at e
  · rename_i y hy
    cases e
    obtain ⟨w, h1, a, rfl, h2⟩ := h.2.2.2 i _ hy
    exact ⟨a, h1, h2⟩
  · cases e
theorem ldA_of {G : mG} {n i : Nat} {ls : mL} {L : Array Slot} {x : Nat} (h : LR G n ls L) (e : ldA ls i = some x) : L[i]? = some (.val (if x = 0 then .null else .ref (rho G x))) := by
  unfold ldA at e
  split at e
  · rename_i y hy
    cases e
    obtain ⟨w, h1, h2⟩ := h.2.2.2 i _ hy
    rw [h1, RV_ref h2]
  · cases e
/-- a method's locals at its entry -/
theorem LR_args {G : mG} : ∀ {as : List mV} {A : List Value}, RL G as A → (lg_sl A).length = (argL as).length ∧ ∀ (i : Nat) (v : mV), (argL as)[i]? = some (some v) → ∃ w, (∀ b, (b + i, w) ∈ lv_args b A) ∧ RV G v w
  | [], [], _ => ⟨rfl, fun i v h => by simp [argL] at h⟩
  | v :: r, w :: q, h => by
    obtain ⟨e, f⟩ := LR_args h.2
    have hc := RV_cat h.1
    by_cases h2 : catV v = 2
    · have ea : argL (v :: r) = some v :: none :: argL r := by simp [argL, h2]
      have el : lg_sl (w :: q) = .val w :: .second :: lg_sl q := by simp [lg_sl, hc, h2]
      refine ⟨by rw [ea, el]; simp [e], fun i u hu => ?_⟩
      rw [ea] at hu
      match i, hu with
      | 0, hu =>
        cases hu
        exact ⟨w, fun b => by simp [lv_args], h.1⟩
      | 1, hu => cases hu
      | i + 2, hu =>
        obtain ⟨z, z1, z2⟩ := f i u (by simpa using hu)
        refine ⟨z, fun b => ?_, z2⟩
        have := z1 (b + 2)
        simp only [lv_args, hc, h2, if_true]
        refine List.mem_cons_of_mem _ ?_
        rw [show b + (i + 2) = b + 2 + i by omega]
        exact this
    · have ea : argL (v :: r) = some v :: argL r := by simp [argL, h2]
      have el : lg_sl (w :: q) = .val w :: lg_sl q := by simp [lg_sl, hc, h2]
      refine ⟨by rw [ea, el]; simp [e], fun i u hu => ?_⟩
      rw [ea] at hu
      match i, hu with
      | 0, hu =>
        cases hu
        exact ⟨w, fun b => by simp [lv_args], h.1⟩
      | i + 1, hu =>
        obtain ⟨z, z1, z2⟩ := f i u (by simpa using hu)
        refine ⟨z, fun b => ?_, z2⟩
        have := z1 (b + 1)
        simp only [lv_args, hc, h2, if_false]
        refine List.mem_cons_of_mem _ ?_
        rw [show b + (i + 1) = b + 1 + i by omega]
        exact this
theorem LR_entry {G : mG} {t : Nat} {as : List mV} {A : List Value} (h : RL G as A) (hm : (argL as).length ≤ mmax t) :
    LR G (mmax t) (entL t as) ((lg_sl A ++ List.replicate (mmax t - (lg_sl A).length) Slot.unset).toArray) := by
  obtain ⟨e, f⟩ := LR_args h
  obtain ⟨q1, q2, q3⟩ := lv_entry A (n := mmax t) (by rw [e]; exact hm)
  refine ⟨q1, q2, by unfold entL; simp; omega, fun i v hv => ?_⟩
  unfold entL at hv
  by_cases hi : i < (argL as).length
  · rw [List.getElem?_append_left hi] at hv
    obtain ⟨w, w1, w2⟩ := f i v hv
    have := w1 0
    rw [Nat.zero_add] at this
    exact ⟨w, q3 (i, w) this, w2⟩
  · rw [List.getElem?_append_right (by omega)] at hv
    have := List.eq_of_mem_replicate (List.mem_of_getElem? hv)
    cases this
end
