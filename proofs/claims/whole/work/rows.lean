section
-- ===== PART A: goes FIRST, ahead of the names: the tables' words, and 'selects' of the private methods out of them =====
/-- a private method of a class that the tables say can be made, by its rows of tables_1 -/
def lw_okq (q : MethodName × Nat) : Prop := (q.1.cls ≠ "java/lang/invoke/MethodHandle" ∧ q.1.cls ≠ "java/lang/invoke/VarHandle") ∧ Cond.instantiable q.1.cls q.2 ∈ tables_1 ∧ Cond.privateMethod q.1 ∈ tables_1 ∧ Cond.instanceMethod q.1 ∈ tables_1
theorem lw_p0 : lw_okq (⟨"TensionNet$Net", "readJoints", "(LTensionNet$Slots;)V"⟩, 10) := ⟨⟨by decide +kernel, by decide +kernel⟩, List.mem_of_getElem? (i := 305) (by decide +kernel), List.mem_of_getElem? (i := 458) (by decide +kernel), List.mem_of_getElem? (i := 459) (by decide +kernel)⟩
theorem lw_p1 : lw_okq (⟨"TensionNet$Net", "readMembers", "(LTensionNet$Slots;)V"⟩, 10) := ⟨⟨by decide +kernel, by decide +kernel⟩, List.mem_of_getElem? (i := 305) (by decide +kernel), List.mem_of_getElem? (i := 466) (by decide +kernel), List.mem_of_getElem? (i := 467) (by decide +kernel)⟩
theorem lw_p2 : lw_okq (⟨"TensionNet$Net", "span", "(II)I"⟩, 10) := ⟨⟨by decide +kernel, by decide +kernel⟩, List.mem_of_getElem? (i := 305) (by decide +kernel), List.mem_of_getElem? (i := 470) (by decide +kernel), List.mem_of_getElem? (i := 471) (by decide +kernel)⟩
theorem lw_p3 : lw_okq (⟨"TensionNet", "forgetNet", "()V"⟩, 17) := ⟨⟨by decide +kernel, by decide +kernel⟩, List.mem_of_getElem? (i := 18) (by decide +kernel), List.mem_of_getElem? (i := 479) (by decide +kernel), List.mem_of_getElem? (i := 480) (by decide +kernel)⟩
theorem lw_p4 : lw_okq (⟨"TensionNet", "knowForces", "(Z)V"⟩, 17) := ⟨⟨by decide +kernel, by decide +kernel⟩, List.mem_of_getElem? (i := 18) (by decide +kernel), List.mem_of_getElem? (i := 506) (by decide +kernel), List.mem_of_getElem? (i := 507) (by decide +kernel)⟩
theorem lw_p5 : lw_okq (⟨"TensionNet$Grid", "holds", "(II)Z"⟩, 13) := ⟨⟨by decide +kernel, by decide +kernel⟩, List.mem_of_getElem? (i := 174) (by decide +kernel), List.mem_of_getElem? (i := 534) (by decide +kernel), List.mem_of_getElem? (i := 535) (by decide +kernel)⟩
theorem lw_p6 : lw_okq (⟨"TensionNet$Grid", "firstRowWith", "(I)I"⟩, 13) := ⟨⟨by decide +kernel, by decide +kernel⟩, List.mem_of_getElem? (i := 174) (by decide +kernel), List.mem_of_getElem? (i := 547) (by decide +kernel), List.mem_of_getElem? (i := 548) (by decide +kernel)⟩
theorem lw_p7 : lw_okq (⟨"TensionNet$Grid", "swapRows", "(II)V"⟩, 13) := ⟨⟨by decide +kernel, by decide +kernel⟩, List.mem_of_getElem? (i := 174) (by decide +kernel), List.mem_of_getElem? (i := 566) (by decide +kernel), List.mem_of_getElem? (i := 567) (by decide +kernel)⟩
theorem lw_p8 : lw_okq (⟨"TensionNet$Grid", "clearCell", "(II)V"⟩, 13) := ⟨⟨by decide +kernel, by decide +kernel⟩, List.mem_of_getElem? (i := 174) (by decide +kernel), List.mem_of_getElem? (i := 574) (by decide +kernel), List.mem_of_getElem? (i := 575) (by decide +kernel)⟩
theorem lw_p9 : lw_okq (⟨"TensionNet$Whole", "fit", "(I)I"⟩, 3) := ⟨⟨by decide +kernel, by decide +kernel⟩, List.mem_of_getElem? (i := 65) (by decide +kernel), List.mem_of_getElem? (i := 582) (by decide +kernel), List.mem_of_getElem? (i := 583) (by decide +kernel)⟩
theorem lw_p10 : lw_okq (⟨"TensionNet$Divider", "takeDigit", "([II)I"⟩, 4) := ⟨⟨by decide +kernel, by decide +kernel⟩, List.mem_of_getElem? (i := 119) (by decide +kernel), List.mem_of_getElem? (i := 633) (by decide +kernel), List.mem_of_getElem? (i := 634) (by decide +kernel)⟩
theorem lw_p11 : lw_okq (⟨"TensionNet$Divider", "giveBack", "([II)V"⟩, 4) := ⟨⟨by decide +kernel, by decide +kernel⟩, List.mem_of_getElem? (i := 119) (by decide +kernel), List.mem_of_getElem? (i := 642) (by decide +kernel), List.mem_of_getElem? (i := 643) (by decide +kernel)⟩
theorem lw_p12 : lw_okq (⟨"TensionNet$Grid", "freeColumn", "(I)I"⟩, 13) := ⟨⟨by decide +kernel, by decide +kernel⟩, List.mem_of_getElem? (i := 174) (by decide +kernel), List.mem_of_getElem? (i := 660) (by decide +kernel), List.mem_of_getElem? (i := 661) (by decide +kernel)⟩
theorem lw_p13 : lw_okq (⟨"TensionNet$Fraction", "lower", "(LTensionNet$Whole;LTensionNet$Whole;LTensionNet$Divider;)V"⟩, 3) := ⟨⟨by decide +kernel, by decide +kernel⟩, List.mem_of_getElem? (i := 59) (by decide +kernel), List.mem_of_getElem? (i := 683) (by decide +kernel), List.mem_of_getElem? (i := 684) (by decide +kernel)⟩
theorem lw_p14 : lw_okq (⟨"TensionNet", "knowMoves", "()V"⟩, 17) := ⟨⟨by decide +kernel, by decide +kernel⟩, List.mem_of_getElem? (i := 18) (by decide +kernel), List.mem_of_getElem? (i := 692) (by decide +kernel), List.mem_of_getElem? (i := 693) (by decide +kernel)⟩
theorem lw_p15 : lw_okq (⟨"TensionNet", "knowPlaces", "()V"⟩, 17) := ⟨⟨by decide +kernel, by decide +kernel⟩, List.mem_of_getElem? (i := 18) (by decide +kernel), List.mem_of_getElem? (i := 749) (by decide +kernel), List.mem_of_getElem? (i := 750) (by decide +kernel)⟩
def lw_privs_1 : List (MethodName × Nat) := [(⟨"TensionNet$Net", "readJoints", "(LTensionNet$Slots;)V"⟩, 10), (⟨"TensionNet$Net", "readMembers", "(LTensionNet$Slots;)V"⟩, 10), (⟨"TensionNet$Net", "span", "(II)I"⟩, 10), (⟨"TensionNet", "forgetNet", "()V"⟩, 17), (⟨"TensionNet", "knowForces", "(Z)V"⟩, 17), (⟨"TensionNet$Grid", "holds", "(II)Z"⟩, 13), (⟨"TensionNet$Grid", "firstRowWith", "(I)I"⟩, 13), (⟨"TensionNet$Grid", "swapRows", "(II)V"⟩, 13), (⟨"TensionNet$Grid", "clearCell", "(II)V"⟩, 13), (⟨"TensionNet$Whole", "fit", "(I)I"⟩, 3), (⟨"TensionNet$Divider", "takeDigit", "([II)I"⟩, 4), (⟨"TensionNet$Divider", "giveBack", "([II)V"⟩, 4), (⟨"TensionNet$Grid", "freeColumn", "(I)I"⟩, 13), (⟨"TensionNet$Fraction", "lower", "(LTensionNet$Whole;LTensionNet$Whole;LTensionNet$Divider;)V"⟩, 3), (⟨"TensionNet", "knowMoves", "()V"⟩, 17), (⟨"TensionNet", "knowPlaces", "()V"⟩, 17)]
theorem lw_r1 : ∀ q ∈ lw_privs_1, lw_okq q := List.forall_mem_cons.mpr ⟨lw_p0, List.forall_mem_cons.mpr ⟨lw_p1, List.forall_mem_cons.mpr ⟨lw_p2, List.forall_mem_cons.mpr ⟨lw_p3, List.forall_mem_cons.mpr ⟨lw_p4, List.forall_mem_cons.mpr ⟨lw_p5, List.forall_mem_cons.mpr ⟨lw_p6, List.forall_mem_cons.mpr ⟨lw_p7, List.forall_mem_cons.mpr ⟨lw_p8, List.forall_mem_cons.mpr ⟨lw_p9, List.forall_mem_cons.mpr ⟨lw_p10, List.forall_mem_cons.mpr ⟨lw_p11, List.forall_mem_cons.mpr ⟨lw_p12, List.forall_mem_cons.mpr ⟨lw_p13, List.forall_mem_cons.mpr ⟨lw_p14, List.forall_mem_cons.mpr ⟨lw_p15, fun _ h => absurd h List.not_mem_nil⟩⟩⟩⟩⟩⟩⟩⟩⟩⟩⟩⟩⟩⟩⟩⟩
theorem lw_p16 : lw_okq (⟨"TensionNet$Net", "addHold", "(LTensionNet$Grid;III)V"⟩, 10) := ⟨⟨by decide +kernel, by decide +kernel⟩, List.mem_of_getElem? (i := 305) (by decide +kernel), List.mem_of_getElem? (i := 757) (by decide +kernel), List.mem_of_getElem? (i := 758) (by decide +kernel)⟩
theorem lw_p17 : lw_okq (⟨"TensionNet$Cone", "begin", "(LTensionNet$Net;LTensionNet$Grid;)V"⟩, 8) := ⟨⟨by decide +kernel, by decide +kernel⟩, List.mem_of_getElem? (i := 225) (by decide +kernel), List.mem_of_getElem? (i := 774) (by decide +kernel), List.mem_of_getElem? (i := 775) (by decide +kernel)⟩
theorem lw_p18 : lw_okq (⟨"TensionNet$Cone", "allReached", "()Z"⟩, 8) := ⟨⟨by decide +kernel, by decide +kernel⟩, List.mem_of_getElem? (i := 225) (by decide +kernel), List.mem_of_getElem? (i := 780) (by decide +kernel), List.mem_of_getElem? (i := 781) (by decide +kernel)⟩
theorem lw_p19 : lw_okq (⟨"TensionNet$Cone", "tryRay", "(LTensionNet$Triple;)V"⟩, 8) := ⟨⟨by decide +kernel, by decide +kernel⟩, List.mem_of_getElem? (i := 225) (by decide +kernel), List.mem_of_getElem? (i := 784) (by decide +kernel), List.mem_of_getElem? (i := 785) (by decide +kernel)⟩
theorem lw_p20 : lw_okq (⟨"TensionNet$Cone", "signOfProduct", "(LTensionNet$Triple;LTensionNet$Triple;)I"⟩, 8) := ⟨⟨by decide +kernel, by decide +kernel⟩, List.mem_of_getElem? (i := 225) (by decide +kernel), List.mem_of_getElem? (i := 792) (by decide +kernel), List.mem_of_getElem? (i := 793) (by decide +kernel)⟩
theorem lw_p21 : lw_okq (⟨"TensionNet$Cone", "tryPlane", "()V"⟩, 8) := ⟨⟨by decide +kernel, by decide +kernel⟩, List.mem_of_getElem? (i := 225) (by decide +kernel), List.mem_of_getElem? (i := 806) (by decide +kernel), List.mem_of_getElem? (i := 807) (by decide +kernel)⟩
theorem lw_p22 : lw_okq (⟨"TensionNet$Form", "addUp", "(LTensionNet$Net;LTensionNet$Grid;II)V"⟩, 6) := ⟨⟨by decide +kernel, by decide +kernel⟩, List.mem_of_getElem? (i := 274) (by decide +kernel), List.mem_of_getElem? (i := 820) (by decide +kernel), List.mem_of_getElem? (i := 821) (by decide +kernel)⟩
theorem lw_p23 : lw_okq (⟨"TensionNet$Form", "fetchGap", "(LTensionNet$Whole;LTensionNet$Grid;III)V"⟩, 6) := ⟨⟨by decide +kernel, by decide +kernel⟩, List.mem_of_getElem? (i := 274) (by decide +kernel), List.mem_of_getElem? (i := 827) (by decide +kernel), List.mem_of_getElem? (i := 828) (by decide +kernel)⟩
theorem lw_p24 : lw_okq (⟨"TensionNetModel", "set", "(IJ)V"⟩, 24) := ⟨⟨by decide +kernel, by decide +kernel⟩, List.mem_of_getElem? (i := 870) (by decide +kernel), List.mem_of_getElem? (i := 876) (by decide +kernel), List.mem_of_getElem? (i := 877) (by decide +kernel)⟩
theorem lw_p25 : lw_okq (⟨"TensionNetModel", "carry", "(I)V"⟩, 24) := ⟨⟨by decide +kernel, by decide +kernel⟩, List.mem_of_getElem? (i := 870) (by decide +kernel), List.mem_of_getElem? (i := 880) (by decide +kernel), List.mem_of_getElem? (i := 881) (by decide +kernel)⟩
theorem lw_p26 : lw_okq (⟨"TensionNetModel", "isApart", "(II)Z"⟩, 24) := ⟨⟨by decide +kernel, by decide +kernel⟩, List.mem_of_getElem? (i := 870) (by decide +kernel), List.mem_of_getElem? (i := 987) (by decide +kernel), List.mem_of_getElem? (i := 988) (by decide +kernel)⟩
theorem lw_p27 : lw_okq (⟨"TensionNetModel", "isJoint", "(I)Z"⟩, 24) := ⟨⟨by decide +kernel, by decide +kernel⟩, List.mem_of_getElem? (i := 870) (by decide +kernel), List.mem_of_getElem? (i := 996) (by decide +kernel), List.mem_of_getElem? (i := 997) (by decide +kernel)⟩
theorem lw_p28 : lw_okq (⟨"TensionNetModel", "isMember", "(I)Z"⟩, 24) := ⟨⟨by decide +kernel, by decide +kernel⟩, List.mem_of_getElem? (i := 870) (by decide +kernel), List.mem_of_getElem? (i := 1007) (by decide +kernel), List.mem_of_getElem? (i := 1008) (by decide +kernel)⟩
theorem lw_p29 : lw_okq (⟨"TensionNetModel", "evens", "()V"⟩, 24) := ⟨⟨by decide +kernel, by decide +kernel⟩, List.mem_of_getElem? (i := 870) (by decide +kernel), List.mem_of_getElem? (i := 1015) (by decide +kernel), List.mem_of_getElem? (i := 1016) (by decide +kernel)⟩
theorem lw_p30 : lw_okq (⟨"TensionNetModel", "free", "()I"⟩, 24) := ⟨⟨by decide +kernel, by decide +kernel⟩, List.mem_of_getElem? (i := 870) (by decide +kernel), List.mem_of_getElem? (i := 1019) (by decide +kernel), List.mem_of_getElem? (i := 1020) (by decide +kernel)⟩
theorem lw_p31 : lw_okq (⟨"TensionNetModel", "freeOf", "(I)I"⟩, 24) := ⟨⟨by decide +kernel, by decide +kernel⟩, List.mem_of_getElem? (i := 870) (by decide +kernel), List.mem_of_getElem? (i := 1023) (by decide +kernel), List.mem_of_getElem? (i := 1024) (by decide +kernel)⟩
def lw_privs_2 : List (MethodName × Nat) := [(⟨"TensionNet$Net", "addHold", "(LTensionNet$Grid;III)V"⟩, 10), (⟨"TensionNet$Cone", "begin", "(LTensionNet$Net;LTensionNet$Grid;)V"⟩, 8), (⟨"TensionNet$Cone", "allReached", "()Z"⟩, 8), (⟨"TensionNet$Cone", "tryRay", "(LTensionNet$Triple;)V"⟩, 8), (⟨"TensionNet$Cone", "signOfProduct", "(LTensionNet$Triple;LTensionNet$Triple;)I"⟩, 8), (⟨"TensionNet$Cone", "tryPlane", "()V"⟩, 8), (⟨"TensionNet$Form", "addUp", "(LTensionNet$Net;LTensionNet$Grid;II)V"⟩, 6), (⟨"TensionNet$Form", "fetchGap", "(LTensionNet$Whole;LTensionNet$Grid;III)V"⟩, 6), (⟨"TensionNetModel", "set", "(IJ)V"⟩, 24), (⟨"TensionNetModel", "carry", "(I)V"⟩, 24), (⟨"TensionNetModel", "isApart", "(II)Z"⟩, 24), (⟨"TensionNetModel", "isJoint", "(I)Z"⟩, 24), (⟨"TensionNetModel", "isMember", "(I)Z"⟩, 24), (⟨"TensionNetModel", "evens", "()V"⟩, 24), (⟨"TensionNetModel", "free", "()I"⟩, 24), (⟨"TensionNetModel", "freeOf", "(I)I"⟩, 24)]
theorem lw_r2 : ∀ q ∈ lw_privs_2, lw_okq q := List.forall_mem_cons.mpr ⟨lw_p16, List.forall_mem_cons.mpr ⟨lw_p17, List.forall_mem_cons.mpr ⟨lw_p18, List.forall_mem_cons.mpr ⟨lw_p19, List.forall_mem_cons.mpr ⟨lw_p20, List.forall_mem_cons.mpr ⟨lw_p21, List.forall_mem_cons.mpr ⟨lw_p22, List.forall_mem_cons.mpr ⟨lw_p23, List.forall_mem_cons.mpr ⟨lw_p24, List.forall_mem_cons.mpr ⟨lw_p25, List.forall_mem_cons.mpr ⟨lw_p26, List.forall_mem_cons.mpr ⟨lw_p27, List.forall_mem_cons.mpr ⟨lw_p28, List.forall_mem_cons.mpr ⟨lw_p29, List.forall_mem_cons.mpr ⟨lw_p30, List.forall_mem_cons.mpr ⟨lw_p31, fun _ h => absurd h List.not_mem_nil⟩⟩⟩⟩⟩⟩⟩⟩⟩⟩⟩⟩⟩⟩⟩⟩
theorem lw_p32 : lw_okq (⟨"TensionNetModel", "cell", "(II)I"⟩, 24) := ⟨⟨by decide +kernel, by decide +kernel⟩, List.mem_of_getElem? (i := 870) (by decide +kernel), List.mem_of_getElem? (i := 1027) (by decide +kernel), List.mem_of_getElem? (i := 1028) (by decide +kernel)⟩
theorem lw_p33 : lw_okq (⟨"TensionNetModel", "far", "(III)I"⟩, 24) := ⟨⟨by decide +kernel, by decide +kernel⟩, List.mem_of_getElem? (i := 870) (by decide +kernel), List.mem_of_getElem? (i := 1031) (by decide +kernel), List.mem_of_getElem? (i := 1032) (by decide +kernel)⟩
theorem lw_p34 : lw_okq (⟨"TensionNetModel", "clear", "(I)V"⟩, 24) := ⟨⟨by decide +kernel, by decide +kernel⟩, List.mem_of_getElem? (i := 870) (by decide +kernel), List.mem_of_getElem? (i := 1035) (by decide +kernel), List.mem_of_getElem? (i := 1036) (by decide +kernel)⟩
theorem lw_p35 : lw_okq (⟨"TensionNetModel", "isZero", "(I)Z"⟩, 24) := ⟨⟨by decide +kernel, by decide +kernel⟩, List.mem_of_getElem? (i := 870) (by decide +kernel), List.mem_of_getElem? (i := 1039) (by decide +kernel), List.mem_of_getElem? (i := 1040) (by decide +kernel)⟩
theorem lw_p36 : lw_okq (⟨"TensionNetModel", "copy", "(II)V"⟩, 24) := ⟨⟨by decide +kernel, by decide +kernel⟩, List.mem_of_getElem? (i := 870) (by decide +kernel), List.mem_of_getElem? (i := 1043) (by decide +kernel), List.mem_of_getElem? (i := 1044) (by decide +kernel)⟩
theorem lw_p37 : lw_okq (⟨"TensionNetModel", "clears", "(II)V"⟩, 24) := ⟨⟨by decide +kernel, by decide +kernel⟩, List.mem_of_getElem? (i := 870) (by decide +kernel), List.mem_of_getElem? (i := 1047) (by decide +kernel), List.mem_of_getElem? (i := 1048) (by decide +kernel)⟩
theorem lw_p38 : lw_okq (⟨"TensionNetModel", "times", "(III)V"⟩, 24) := ⟨⟨by decide +kernel, by decide +kernel⟩, List.mem_of_getElem? (i := 870) (by decide +kernel), List.mem_of_getElem? (i := 1051) (by decide +kernel), List.mem_of_getElem? (i := 1052) (by decide +kernel)⟩
theorem lw_p39 : lw_okq (⟨"TensionNetModel", "isBelow", "(I)Z"⟩, 24) := ⟨⟨by decide +kernel, by decide +kernel⟩, List.mem_of_getElem? (i := 870) (by decide +kernel), List.mem_of_getElem? (i := 1055) (by decide +kernel), List.mem_of_getElem? (i := 1056) (by decide +kernel)⟩
theorem lw_p40 : lw_okq (⟨"TensionNetModel", "bare", "(I[J)V"⟩, 24) := ⟨⟨by decide +kernel, by decide +kernel⟩, List.mem_of_getElem? (i := 870) (by decide +kernel), List.mem_of_getElem? (i := 1059) (by decide +kernel), List.mem_of_getElem? (i := 1060) (by decide +kernel)⟩
theorem lw_p41 : lw_okq (⟨"TensionNetModel", "turn", "(I)V"⟩, 24) := ⟨⟨by decide +kernel, by decide +kernel⟩, List.mem_of_getElem? (i := 870) (by decide +kernel), List.mem_of_getElem? (i := 1063) (by decide +kernel), List.mem_of_getElem? (i := 1064) (by decide +kernel)⟩
theorem lw_p42 : lw_okq (⟨"TensionNetModel", "more", "(IIJ)V"⟩, 24) := ⟨⟨by decide +kernel, by decide +kernel⟩, List.mem_of_getElem? (i := 870) (by decide +kernel), List.mem_of_getElem? (i := 1071) (by decide +kernel), List.mem_of_getElem? (i := 1072) (by decide +kernel)⟩
theorem lw_p43 : lw_okq (⟨"TensionNetModel", "parts", "(II)V"⟩, 24) := ⟨⟨by decide +kernel, by decide +kernel⟩, List.mem_of_getElem? (i := 870) (by decide +kernel), List.mem_of_getElem? (i := 1075) (by decide +kernel), List.mem_of_getElem? (i := 1076) (by decide +kernel)⟩
theorem lw_p44 : lw_okq (⟨"TensionNetModel", "goesInto", "(JII)Z"⟩, 24) := ⟨⟨by decide +kernel, by decide +kernel⟩, List.mem_of_getElem? (i := 870) (by decide +kernel), List.mem_of_getElem? (i := 1080) (by decide +kernel), List.mem_of_getElem? (i := 1081) (by decide +kernel)⟩
theorem lw_p45 : lw_okq (⟨"TensionNetModel", "freeColumn", "(II)I"⟩, 24) := ⟨⟨by decide +kernel, by decide +kernel⟩, List.mem_of_getElem? (i := 870) (by decide +kernel), List.mem_of_getElem? (i := 1088) (by decide +kernel), List.mem_of_getElem? (i := 1089) (by decide +kernel)⟩
theorem lw_p46 : lw_okq (⟨"TensionNetModel", "basic", "(II)V"⟩, 24) := ⟨⟨by decide +kernel, by decide +kernel⟩, List.mem_of_getElem? (i := 870) (by decide +kernel), List.mem_of_getElem? (i := 1092) (by decide +kernel), List.mem_of_getElem? (i := 1093) (by decide +kernel)⟩
theorem lw_p47 : lw_okq (⟨"TensionNetModel", "result", "(II)V"⟩, 24) := ⟨⟨by decide +kernel, by decide +kernel⟩, List.mem_of_getElem? (i := 870) (by decide +kernel), List.mem_of_getElem? (i := 1096) (by decide +kernel), List.mem_of_getElem? (i := 1097) (by decide +kernel)⟩
def lw_privs_3 : List (MethodName × Nat) := [(⟨"TensionNetModel", "cell", "(II)I"⟩, 24), (⟨"TensionNetModel", "far", "(III)I"⟩, 24), (⟨"TensionNetModel", "clear", "(I)V"⟩, 24), (⟨"TensionNetModel", "isZero", "(I)Z"⟩, 24), (⟨"TensionNetModel", "copy", "(II)V"⟩, 24), (⟨"TensionNetModel", "clears", "(II)V"⟩, 24), (⟨"TensionNetModel", "times", "(III)V"⟩, 24), (⟨"TensionNetModel", "isBelow", "(I)Z"⟩, 24), (⟨"TensionNetModel", "bare", "(I[J)V"⟩, 24), (⟨"TensionNetModel", "turn", "(I)V"⟩, 24), (⟨"TensionNetModel", "more", "(IIJ)V"⟩, 24), (⟨"TensionNetModel", "parts", "(II)V"⟩, 24), (⟨"TensionNetModel", "goesInto", "(JII)Z"⟩, 24), (⟨"TensionNetModel", "freeColumn", "(II)I"⟩, 24), (⟨"TensionNetModel", "basic", "(II)V"⟩, 24), (⟨"TensionNetModel", "result", "(II)V"⟩, 24)]
theorem lw_r3 : ∀ q ∈ lw_privs_3, lw_okq q := List.forall_mem_cons.mpr ⟨lw_p32, List.forall_mem_cons.mpr ⟨lw_p33, List.forall_mem_cons.mpr ⟨lw_p34, List.forall_mem_cons.mpr ⟨lw_p35, List.forall_mem_cons.mpr ⟨lw_p36, List.forall_mem_cons.mpr ⟨lw_p37, List.forall_mem_cons.mpr ⟨lw_p38, List.forall_mem_cons.mpr ⟨lw_p39, List.forall_mem_cons.mpr ⟨lw_p40, List.forall_mem_cons.mpr ⟨lw_p41, List.forall_mem_cons.mpr ⟨lw_p42, List.forall_mem_cons.mpr ⟨lw_p43, List.forall_mem_cons.mpr ⟨lw_p44, List.forall_mem_cons.mpr ⟨lw_p45, List.forall_mem_cons.mpr ⟨lw_p46, List.forall_mem_cons.mpr ⟨lw_p47, fun _ h => absurd h List.not_mem_nil⟩⟩⟩⟩⟩⟩⟩⟩⟩⟩⟩⟩⟩⟩⟩⟩
theorem lw_p48 : lw_okq (⟨"TensionNetModel", "isEven", "(I)Z"⟩, 24) := ⟨⟨by decide +kernel, by decide +kernel⟩, List.mem_of_getElem? (i := 870) (by decide +kernel), List.mem_of_getElem? (i := 1100) (by decide +kernel), List.mem_of_getElem? (i := 1101) (by decide +kernel)⟩
theorem lw_p49 : lw_okq (⟨"TensionNetModel", "half", "(I)V"⟩, 24) := ⟨⟨by decide +kernel, by decide +kernel⟩, List.mem_of_getElem? (i := 870) (by decide +kernel), List.mem_of_getElem? (i := 1104) (by decide +kernel), List.mem_of_getElem? (i := 1105) (by decide +kernel)⟩
theorem lw_p50 : lw_okq (⟨"TensionNetModel", "isLess", "(II)Z"⟩, 24) := ⟨⟨by decide +kernel, by decide +kernel⟩, List.mem_of_getElem? (i := 870) (by decide +kernel), List.mem_of_getElem? (i := 1108) (by decide +kernel), List.mem_of_getElem? (i := 1109) (by decide +kernel)⟩
theorem lw_p51 : lw_okq (⟨"TensionNetModel", "moves", "()V"⟩, 24) := ⟨⟨by decide +kernel, by decide +kernel⟩, List.mem_of_getElem? (i := 870) (by decide +kernel), List.mem_of_getElem? (i := 1116) (by decide +kernel), List.mem_of_getElem? (i := 1117) (by decide +kernel)⟩
theorem lw_p52 : lw_okq (⟨"TensionNetModel", "isEvenTold", "(Z)Z"⟩, 24) := ⟨⟨by decide +kernel, by decide +kernel⟩, List.mem_of_getElem? (i := 870) (by decide +kernel), List.mem_of_getElem? (i := 1128) (by decide +kernel), List.mem_of_getElem? (i := 1129) (by decide +kernel)⟩
theorem lw_p53 : lw_okq (⟨"TensionNetModel", "leftOf", "(IIZ)J"⟩, 24) := ⟨⟨by decide +kernel, by decide +kernel⟩, List.mem_of_getElem? (i := 870) (by decide +kernel), List.mem_of_getElem? (i := 1132) (by decide +kernel), List.mem_of_getElem? (i := 1133) (by decide +kernel)⟩
theorem lw_p54 : lw_okq (⟨"TensionNetModel", "isBorne", "()Z"⟩, 24) := ⟨⟨by decide +kernel, by decide +kernel⟩, List.mem_of_getElem? (i := 870) (by decide +kernel), List.mem_of_getElem? (i := 1144) (by decide +kernel), List.mem_of_getElem? (i := 1145) (by decide +kernel)⟩
theorem lw_p55 : lw_okq (⟨"TensionNetModel", "isShaped", "()Z"⟩, 24) := ⟨⟨by decide +kernel, by decide +kernel⟩, List.mem_of_getElem? (i := 870) (by decide +kernel), List.mem_of_getElem? (i := 1156) (by decide +kernel), List.mem_of_getElem? (i := 1157) (by decide +kernel)⟩
theorem lw_p56 : lw_okq (⟨"TensionNetModel", "cone", "(II)I"⟩, 24) := ⟨⟨by decide +kernel, by decide +kernel⟩, List.mem_of_getElem? (i := 870) (by decide +kernel), List.mem_of_getElem? (i := 1168) (by decide +kernel), List.mem_of_getElem? (i := 1169) (by decide +kernel)⟩
theorem lw_p57 : lw_okq (⟨"TensionNetModel", "isTight", "()Z"⟩, 24) := ⟨⟨by decide +kernel, by decide +kernel⟩, List.mem_of_getElem? (i := 870) (by decide +kernel), List.mem_of_getElem? (i := 1172) (by decide +kernel), List.mem_of_getElem? (i := 1173) (by decide +kernel)⟩
theorem lw_p58 : lw_okq (⟨"TensionNetModel", "comesBoth", "(II)V"⟩, 24) := ⟨⟨by decide +kernel, by decide +kernel⟩, List.mem_of_getElem? (i := 870) (by decide +kernel), List.mem_of_getElem? (i := 1176) (by decide +kernel), List.mem_of_getElem? (i := 1177) (by decide +kernel)⟩
theorem lw_p59 : lw_okq (⟨"TensionNetModel", "comes", "(II)V"⟩, 24) := ⟨⟨by decide +kernel, by decide +kernel⟩, List.mem_of_getElem? (i := 870) (by decide +kernel), List.mem_of_getElem? (i := 1180) (by decide +kernel), List.mem_of_getElem? (i := 1181) (by decide +kernel)⟩
theorem lw_p60 : lw_okq (⟨"TensionNetModel", "product", "(II)I"⟩, 24) := ⟨⟨by decide +kernel, by decide +kernel⟩, List.mem_of_getElem? (i := 870) (by decide +kernel), List.mem_of_getElem? (i := 1184) (by decide +kernel), List.mem_of_getElem? (i := 1185) (by decide +kernel)⟩
theorem lw_p61 : lw_okq (⟨"TensionNetModel", "sign", "(I)I"⟩, 24) := ⟨⟨by decide +kernel, by decide +kernel⟩, List.mem_of_getElem? (i := 870) (by decide +kernel), List.mem_of_getElem? (i := 1188) (by decide +kernel), List.mem_of_getElem? (i := 1189) (by decide +kernel)⟩
theorem lw_p62 : lw_okq (⟨"TensionNetModel", "cross", "(III)V"⟩, 24) := ⟨⟨by decide +kernel, by decide +kernel⟩, List.mem_of_getElem? (i := 870) (by decide +kernel), List.mem_of_getElem? (i := 1192) (by decide +kernel), List.mem_of_getElem? (i := 1193) (by decide +kernel)⟩
theorem lw_p63 : lw_okq (⟨"TensionNetModel", "kept", "(II)I"⟩, 24) := ⟨⟨by decide +kernel, by decide +kernel⟩, List.mem_of_getElem? (i := 870) (by decide +kernel), List.mem_of_getElem? (i := 1200) (by decide +kernel), List.mem_of_getElem? (i := 1201) (by decide +kernel)⟩
def lw_privs_4 : List (MethodName × Nat) := [(⟨"TensionNetModel", "isEven", "(I)Z"⟩, 24), (⟨"TensionNetModel", "half", "(I)V"⟩, 24), (⟨"TensionNetModel", "isLess", "(II)Z"⟩, 24), (⟨"TensionNetModel", "moves", "()V"⟩, 24), (⟨"TensionNetModel", "isEvenTold", "(Z)Z"⟩, 24), (⟨"TensionNetModel", "leftOf", "(IIZ)J"⟩, 24), (⟨"TensionNetModel", "isBorne", "()Z"⟩, 24), (⟨"TensionNetModel", "isShaped", "()Z"⟩, 24), (⟨"TensionNetModel", "cone", "(II)I"⟩, 24), (⟨"TensionNetModel", "isTight", "()Z"⟩, 24), (⟨"TensionNetModel", "comesBoth", "(II)V"⟩, 24), (⟨"TensionNetModel", "comes", "(II)V"⟩, 24), (⟨"TensionNetModel", "product", "(II)I"⟩, 24), (⟨"TensionNetModel", "sign", "(I)I"⟩, 24), (⟨"TensionNetModel", "cross", "(III)V"⟩, 24), (⟨"TensionNetModel", "kept", "(II)I"⟩, 24)]
theorem lw_r4 : ∀ q ∈ lw_privs_4, lw_okq q := List.forall_mem_cons.mpr ⟨lw_p48, List.forall_mem_cons.mpr ⟨lw_p49, List.forall_mem_cons.mpr ⟨lw_p50, List.forall_mem_cons.mpr ⟨lw_p51, List.forall_mem_cons.mpr ⟨lw_p52, List.forall_mem_cons.mpr ⟨lw_p53, List.forall_mem_cons.mpr ⟨lw_p54, List.forall_mem_cons.mpr ⟨lw_p55, List.forall_mem_cons.mpr ⟨lw_p56, List.forall_mem_cons.mpr ⟨lw_p57, List.forall_mem_cons.mpr ⟨lw_p58, List.forall_mem_cons.mpr ⟨lw_p59, List.forall_mem_cons.mpr ⟨lw_p60, List.forall_mem_cons.mpr ⟨lw_p61, List.forall_mem_cons.mpr ⟨lw_p62, List.forall_mem_cons.mpr ⟨lw_p63, fun _ h => absurd h List.not_mem_nil⟩⟩⟩⟩⟩⟩⟩⟩⟩⟩⟩⟩⟩⟩⟩⟩
theorem lw_p64 : lw_okq (⟨"TensionNetModel", "form", "(II)I"⟩, 24) := ⟨⟨by decide +kernel, by decide +kernel⟩, List.mem_of_getElem? (i := 870) (by decide +kernel), List.mem_of_getElem? (i := 1204) (by decide +kernel), List.mem_of_getElem? (i := 1205) (by decide +kernel)⟩
theorem lw_p65 : lw_okq (⟨"TensionNetModel", "apart", "(IIII)V"⟩, 24) := ⟨⟨by decide +kernel, by decide +kernel⟩, List.mem_of_getElem? (i := 870) (by decide +kernel), List.mem_of_getElem? (i := 1208) (by decide +kernel), List.mem_of_getElem? (i := 1209) (by decide +kernel)⟩
theorem lw_p66 : lw_okq (⟨"TensionNetModel", "minor", "(IIIII)V"⟩, 24) := ⟨⟨by decide +kernel, by decide +kernel⟩, List.mem_of_getElem? (i := 870) (by decide +kernel), List.mem_of_getElem? (i := 1212) (by decide +kernel), List.mem_of_getElem? (i := 1213) (by decide +kernel)⟩
theorem lw_p67 : lw_okq (⟨"TensionNetModel", "manyParts", "([J)I"⟩, 24) := ⟨⟨by decide +kernel, by decide +kernel⟩, List.mem_of_getElem? (i := 870) (by decide +kernel), List.mem_of_getElem? (i := 1220) (by decide +kernel), List.mem_of_getElem? (i := 1221) (by decide +kernel)⟩
def lw_privs_5 : List (MethodName × Nat) := [(⟨"TensionNetModel", "form", "(II)I"⟩, 24), (⟨"TensionNetModel", "apart", "(IIII)V"⟩, 24), (⟨"TensionNetModel", "minor", "(IIIII)V"⟩, 24), (⟨"TensionNetModel", "manyParts", "([J)I"⟩, 24)]
theorem lw_r5 : ∀ q ∈ lw_privs_5, lw_okq q := List.forall_mem_cons.mpr ⟨lw_p64, List.forall_mem_cons.mpr ⟨lw_p65, List.forall_mem_cons.mpr ⟨lw_p66, List.forall_mem_cons.mpr ⟨lw_p67, fun _ h => absurd h List.not_mem_nil⟩⟩⟩⟩
def lw_privs : List (MethodName × Nat) := lw_privs_1 ++ (lw_privs_2 ++ (lw_privs_3 ++ (lw_privs_4 ++ (lw_privs_5))))
def lw_tbl : List Cond := k2_sels lw_privs ++ tables_1
theorem lw_privs_ok : ∀ q ∈ lw_privs, lw_okq q := by
  show ∀ q ∈ lw_privs_1 ++ (lw_privs_2 ++ (lw_privs_3 ++ (lw_privs_4 ++ (lw_privs_5)))), lw_okq q
  exact List.forall_mem_append.mpr ⟨lw_r1, List.forall_mem_append.mpr ⟨lw_r2, List.forall_mem_append.mpr ⟨lw_r3, List.forall_mem_append.mpr ⟨lw_r4, lw_r5⟩⟩⟩⟩
-- ===== end of PART A; then your names; then what follows =====
end
section
/-! the classes of the program: names, fields in the order of the slots, their types (by program out of the papers) -/
def qF0 : u_T := fun k => match k with
  | 0 => ("TensionNet$Cone", "asked", "[LTensionNet$Triple;", true)
  | 1 => ("TensionNet$Cone", "normal", "LTensionNet$Triple;", true)
  | 2 => ("TensionNet$Cone", "ray", "LTensionNet$Triple;", true)
  | 3 => ("TensionNet$Cone", "sum", "LTensionNet$Whole;", true)
  | 4 => ("TensionNet$Cone", "work", "LTensionNet$Whole;", true)
  | 5 => ("TensionNet$Cone", "signs", "[I", true)
  | 6 => ("TensionNet$Cone", "reached", "[Z", true)
  | _ => ("TensionNet$Cone", "members", "I", false)
def qY0 : List FieldType := [.array (.object "TensionNet$Triple"), .object "TensionNet$Triple", .object "TensionNet$Triple", .object "TensionNet$Whole", .object "TensionNet$Whole", .array (.int), .array (.boolean), .int]
def qF1 : u_T := fun k => match k with
  | 0 => ("TensionNet$Desk", "divider", "LTensionNet$Divider;", true)
  | 1 => ("TensionNet$Desk", "pivot", "LTensionNet$Whole;", true)
  | 2 => ("TensionNet$Desk", "factor", "LTensionNet$Whole;", true)
  | 3 => ("TensionNet$Desk", "here", "LTensionNet$Whole;", true)
  | 4 => ("TensionNet$Desk", "above", "LTensionNet$Whole;", true)
  | 5 => ("TensionNet$Desk", "product", "LTensionNet$Whole;", true)
  | _ => ("TensionNet$Desk", "other", "LTensionNet$Whole;", true)
def qY1 : List FieldType := [.object "TensionNet$Divider", .object "TensionNet$Whole", .object "TensionNet$Whole", .object "TensionNet$Whole", .object "TensionNet$Whole", .object "TensionNet$Whole", .object "TensionNet$Whole"]
def qF2 : u_T := fun k => match k with
  | 0 => ("TensionNet$Divider", "quotient", "LTensionNet$Whole;", true)
  | 1 => ("TensionNet$Divider", "scaled", "LTensionNet$Whole;", true)
  | 2 => ("TensionNet$Divider", "one", "LTensionNet$Whole;", true)
  | _ => ("TensionNet$Divider", "two", "LTensionNet$Whole;", true)
def qY2 : List FieldType := [.object "TensionNet$Whole", .object "TensionNet$Whole", .object "TensionNet$Whole", .object "TensionNet$Whole"]
def qF3 : u_T := fun k => match k with
  | 0 => ("TensionNet$Form", "table", "LTensionNet$Grid;", true)
  | 1 => ("TensionNet$Form", "sum", "LTensionNet$Whole;", true)
  | 2 => ("TensionNet$Form", "product", "LTensionNet$Whole;", true)
  | 3 => ("TensionNet$Form", "one", "LTensionNet$Whole;", true)
  | 4 => ("TensionNet$Form", "two", "LTensionNet$Whole;", true)
  | _ => ("TensionNet$Form", "strength", "LTensionNet$Whole;", true)
def qY3 : List FieldType := [.object "TensionNet$Grid", .object "TensionNet$Whole", .object "TensionNet$Whole", .object "TensionNet$Whole", .object "TensionNet$Whole", .object "TensionNet$Whole"]
def qF4 : u_T := fun k => match k with
  | 0 => ("TensionNet$Fraction", "top", "LTensionNet$Whole;", true)
  | 1 => ("TensionNet$Fraction", "bottom", "LTensionNet$Whole;", true)
  | _ => ("TensionNet$Fraction", "work", "LTensionNet$Whole;", true)
def qY4 : List FieldType := [.object "TensionNet$Whole", .object "TensionNet$Whole", .object "TensionNet$Whole"]
def qF5 : u_T := fun k => match k with
  | 0 => ("TensionNet$Grid", "height", "I", true)
  | 1 => ("TensionNet$Grid", "width", "I", true)
  | 2 => ("TensionNet$Grid", "cell", "I", true)
  | 3 => ("TensionNet$Grid", "parts", "[I", true)
  | 4 => ("TensionNet$Grid", "sizes", "[I", true)
  | 5 => ("TensionNet$Grid", "desk", "LTensionNet$Desk;", true)
  | 6 => ("TensionNet$Grid", "rows", "I", false)
  | 7 => ("TensionNet$Grid", "unknowns", "I", false)
  | 8 => ("TensionNet$Grid", "columns", "I", false)
  | 9 => ("TensionNet$Grid", "rank", "I", false)
  | 10 => ("TensionNet$Grid", "rowOf", "[I", true)
  | 11 => ("TensionNet$Grid", "bottom", "LTensionNet$Whole;", true)
  | _ => ("TensionNet$Grid", "leadsAbove", "Z", false)
def qY5 : List FieldType := [.int, .int, .int, .array (.int), .array (.int), .object "TensionNet$Desk", .int, .int, .int, .int, .array (.int), .object "TensionNet$Whole", .boolean]
def qF6 : u_T := fun k => match k with
  | 0 => ("TensionNet$Net", "joints", "I", false)
  | 1 => ("TensionNet$Net", "free", "I", false)
  | 2 => ("TensionNet$Net", "members", "I", false)
  | 3 => ("TensionNet$Net", "places", "[[I", true)
  | 4 => ("TensionNet$Net", "loads", "[[I", true)
  | 5 => ("TensionNet$Net", "order", "[I", true)
  | 6 => ("TensionNet$Net", "from", "[I", true)
  | 7 => ("TensionNet$Net", "to", "[I", true)
  | 8 => ("TensionNet$Net", "sorts", "[I", true)
  | _ => ("TensionNet$Net", "pulls", "[I", true)
def qY6 : List FieldType := [.int, .int, .int, .array (.array (.int)), .array (.array (.int)), .array (.int), .array (.int), .array (.int), .array (.int), .array (.int)]
def qF7 : u_T := fun k => match k with
  | 0 => ("TensionNet$Slots", "numbers", "[[J", true)
  | 1 => ("TensionNet$Slots", "widths", "[I", true)
  | 2 => ("TensionNet$Slots", "sizes", "[I", true)
  | 3 => ("TensionNet$Slots", "open", "I", false)
  | 4 => ("TensionNet$Slots", "at", "I", false)
  | _ => ("TensionNet$Slots", "refusal", "I", false)
def qY7 : List FieldType := [.array (.array (.long)), .array (.int), .array (.int), .int, .int, .int]
def qF8 : u_T := fun k => match k with
  | _ => ("TensionNet$Triple", "at", "[LTensionNet$Whole;", true)
def qY8 : List FieldType := [.array (.object "TensionNet$Whole")]
def qF9 : u_T := fun k => match k with
  | 0 => ("TensionNet$Whole", "parts", "[I", true)
  | 1 => ("TensionNet$Whole", "size", "I", false)
  | _ => ("TensionNet$Whole", "below", "Z", false)
def qY9 : List FieldType := [.array (.int), .int, .boolean]
def qF10 : u_T := fun k => match k with
  | 0 => ("TensionNet", "slots", "LTensionNet$Slots;", true)
  | 1 => ("TensionNet", "result", "LTensionNet$Fraction;", true)
  | 2 => ("TensionNet", "desk", "LTensionNet$Desk;", true)
  | 3 => ("TensionNet", "forces", "LTensionNet$Grid;", true)
  | 4 => ("TensionNet", "moves", "LTensionNet$Grid;", true)
  | 5 => ("TensionNet", "places", "LTensionNet$Grid;", true)
  | 6 => ("TensionNet", "cone", "LTensionNet$Cone;", true)
  | 7 => ("TensionNet", "form", "LTensionNet$Form;", true)
  | 8 => ("TensionNet", "top", "LTensionNet$Whole;", true)
  | 9 => ("TensionNet", "net", "LTensionNet$Net;", false)
  | 10 => ("TensionNet", "spare", "LTensionNet$Net;", false)
  | 11 => ("TensionNet", "forcesKnown", "Z", false)
  | 12 => ("TensionNet", "bearingKnown", "Z", false)
  | 13 => ("TensionNet", "movesKnown", "Z", false)
  | 14 => ("TensionNet", "placesKnown", "Z", false)
  | 15 => ("TensionNet", "tightKnown", "Z", false)
  | _ => ("TensionNet", "canBeTight", "Z", false)
def qY10 : List FieldType := [.object "TensionNet$Slots", .object "TensionNet$Fraction", .object "TensionNet$Desk", .object "TensionNet$Grid", .object "TensionNet$Grid", .object "TensionNet$Grid", .object "TensionNet$Cone", .object "TensionNet$Form", .object "TensionNet$Whole", .object "TensionNet$Net", .object "TensionNet$Net", .boolean, .boolean, .boolean, .boolean, .boolean, .boolean]
def qF11 : u_T := fun k => match k with
  | 0 => ("TensionNetModel", "n", "[J", true)
  | 1 => ("TensionNetModel", "ends", "[I", true)
  | 2 => ("TensionNetModel", "widths", "[I", true)
  | 3 => ("TensionNetModel", "numbers", "[J", true)
  | 4 => ("TensionNetModel", "joints", "I", false)
  | 5 => ("TensionNetModel", "x", "[I", true)
  | 6 => ("TensionNetModel", "y", "[I", true)
  | 7 => ("TensionNetModel", "fixed", "[Z", true)
  | 8 => ("TensionNetModel", "loadX", "[I", true)
  | 9 => ("TensionNetModel", "loadY", "[I", true)
  | 10 => ("TensionNetModel", "members", "I", false)
  | 11 => ("TensionNetModel", "from", "[I", true)
  | 12 => ("TensionNetModel", "to", "[I", true)
  | 13 => ("TensionNetModel", "sort", "[I", true)
  | 14 => ("TensionNetModel", "told", "[I", true)
  | 15 => ("TensionNetModel", "left", "[J", true)
  | 16 => ("TensionNetModel", "right", "[J", true)
  | 17 => ("TensionNetModel", "both", "[J", true)
  | 18 => ("TensionNetModel", "row", "[I", true)
  | 19 => ("TensionNetModel", "high", "I", false)
  | 20 => ("TensionNetModel", "wide", "I", false)
  | 21 => ("TensionNetModel", "rank", "I", false)
  | 22 => ("TensionNetModel", "rowOf", "[I", true)
  | _ => ("TensionNetModel", "cones", "I", false)
def qY11 : List FieldType := [.array (.long), .array (.int), .array (.int), .array (.long), .int, .array (.int), .array (.int), .array (.boolean), .array (.int), .array (.int), .int, .array (.int), .array (.int), .array (.int), .array (.int), .array (.long), .array (.long), .array (.long), .array (.int), .int, .int, .int, .array (.int), .int]
abbrev qcls : List vw_C := [("TensionNet$Cone", qF0, 8), ("TensionNet$Desk", qF1, 7), ("TensionNet$Divider", qF2, 4), ("TensionNet$Form", qF3, 6), ("TensionNet$Fraction", qF4, 3), ("TensionNet$Grid", qF5, 13), ("TensionNet$Net", qF6, 10), ("TensionNet$Slots", qF7, 6), ("TensionNet$Triple", qF8, 1), ("TensionNet$Whole", qF9, 3), ("TensionNet", qF10, 17), ("TensionNetModel", qF11, 24)]
def qYs : List (List FieldType) := [qY0, qY1, qY2, qY3, qY4, qY5, qY6, qY7, qY8, qY9, qY10, qY11]
def qty (ci k : Nat) : FieldType := (qYs.getD ci []).getD k .int
def gT : List Cond := lw_tbl.filter goodWord
theorem gT_in {w : Cond} (i : Nat) (h : lw_tbl[i]? = some w) (hg : goodWord w = true) : w ∈ gT := List.mem_filter.mpr ⟨List.mem_of_getElem? h, hg⟩
theorem gT_good {w : Cond} (h : w ∈ gT) : w ∈ lw_tbl ∧ goodWord w = true := List.mem_filter.mp h
/-- the words of a table by their places -/
def qPl (ps : List Nat) (ws : List Cond) : Bool := ps.length == ws.length && (ps.zip ws).all (fun q => lw_tbl[q.1]? == some q.2 && goodWord q.2)
theorem qPl_ok : ∀ {ps : List Nat} {ws : List Cond}, qPl ps ws = true → ∀ w ∈ ws, w ∈ gT := by
  intro ps ws h w hw
  simp only [qPl, Bool.and_eq_true, beq_iff_eq, List.all_eq_true] at h
  obtain ⟨k, hk⟩ := List.getElem?_of_mem hw
  have hkl : k < ws.length := (List.getElem?_eq_some_iff.mp hk).1
  have hp : ps[k]? = some ps[k] := List.getElem?_eq_getElem (by omega)
  have := h.2 (ps[k], w) (List.mem_of_getElem? (i := k) (by rw [List.getElem?_zip_eq_some]; exact ⟨hp, hk⟩))
  exact gT_in _ this.1 this.2
set_option maxRecDepth 20000 in
theorem qW0 : qPl [323, 325, 327, 329, 331, 333, 335, 337, 78, 293] (u_ws "TensionNet$Cone" qF0 8 ++ [.initialized "TensionNet$Cone", .instantiable "TensionNet$Cone" 8]) = true := by decide +kernel
set_option maxRecDepth 20000 in
theorem qW1 : qPl [226, 228, 230, 232, 234, 236, 238, 75, 181] (u_ws "TensionNet$Desk" qF1 7 ++ [.initialized "TensionNet$Desk", .instantiable "TensionNet$Desk" 7]) = true := by decide +kernel
set_option maxRecDepth 20000 in
theorem qW2 : qPl [200, 202, 204, 206, 76, 187] (u_ws "TensionNet$Divider" qF2 4 ++ [.initialized "TensionNet$Divider", .instantiable "TensionNet$Divider" 4]) = true := by decide +kernel
set_option maxRecDepth 20000 in
theorem qW3 : qPl [357, 359, 361, 363, 365, 367, 80, 342] (u_ws "TensionNet$Form" qF3 6 ++ [.initialized "TensionNet$Form", .instantiable "TensionNet$Form" 6]) = true := by decide +kernel
set_option maxRecDepth 20000 in
theorem qW4 : qPl [173, 175, 177, 72, 127] (u_ws "TensionNet$Fraction" qF4 3 ++ [.initialized "TensionNet$Fraction", .instantiable "TensionNet$Fraction" 3]) = true := by decide +kernel
set_option maxRecDepth 20000 in
theorem qW5 : qPl [265, 267, 269, 271, 273, 275, 277, 279, 281, 283, 285, 287, 289, 77, 242] (u_ws "TensionNet$Grid" qF5 13 ++ [.initialized "TensionNet$Grid", .instantiable "TensionNet$Grid" 13]) = true := by decide +kernel
set_option maxRecDepth 20000 in
theorem qW6 : qPl [403, 405, 407, 409, 411, 413, 415, 417, 419, 421, 81, 373] (u_ws "TensionNet$Net" qF6 10 ++ [.initialized "TensionNet$Net", .instantiable "TensionNet$Net" 10]) = true := by decide +kernel
set_option maxRecDepth 20000 in
theorem qW7 : qPl [111, 113, 115, 117, 119, 121, 70, 94] (u_ws "TensionNet$Slots" qF7 6 ++ [.initialized "TensionNet$Slots", .instantiable "TensionNet$Slots" 6]) = true := by decide +kernel
set_option maxRecDepth 20000 in
theorem qW8 : qPl [310, 79, 300] (u_ws "TensionNet$Triple" qF8 1 ++ [.initialized "TensionNet$Triple", .instantiable "TensionNet$Triple" 1]) = true := by decide +kernel
set_option maxRecDepth 20000 in
theorem qW9 : qPl [154, 156, 158, 73, 133] (u_ws "TensionNet$Whole" qF9 3 ++ [.initialized "TensionNet$Whole", .instantiable "TensionNet$Whole" 3]) = true := by decide +kernel
set_option maxRecDepth 20000 in
theorem qW10 : qPl [441, 443, 445, 447, 449, 451, 453, 455, 457, 459, 461, 463, 465, 467, 469, 471, 473, 69, 86] (u_ws "TensionNet" qF10 17 ++ [.initialized "TensionNet", .instantiable "TensionNet" 17]) = true := by decide +kernel
set_option maxRecDepth 20000 in
theorem qW11 : qPl [982, 984, 986, 988, 990, 992, 994, 996, 998, 1000, 1002, 1004, 1006, 1008, 1010, 1012, 1014, 1016, 1018, 1020, 1022, 1024, 1026, 1028, 82, 938] (u_ws "TensionNetModel" qF11 24 ++ [.initialized "TensionNetModel", .instantiable "TensionNetModel" 24]) = true := by decide +kernel
/-- what is known of each of them -/
def qcOK (ci : Nat) (q : vw_C) : Prop := (∀ w ∈ u_ws q.1 q.2.1 q.2.2, w ∈ gT) ∧ Cond.initialized q.1 ∈ gT ∧ Cond.instantiable q.1 q.2.2 ∈ gT ∧ (∀ k, k < q.2.2 → parseFieldDescriptor (q.2.1 k).2.2.1 = some (qty ci k)) ∧ (∀ a, a < q.2.2 → ∀ b, b < q.2.2 → a ≠ b → (q.2.1 a).2.1 ≠ (q.2.1 b).2.1) ∧ (∀ k, k < q.2.2 → (q.2.1 k).1 = q.1)
theorem qC0 : qcOK 0 ("TensionNet$Cone", qF0, 8) := ⟨fun w h => qPl_ok qW0 w (List.mem_append_left _ h), qPl_ok qW0 _ (List.mem_append_right _ (by simp)), qPl_ok qW0 _ (List.mem_append_right _ (by simp)), by decide +kernel, by decide +kernel, by decide +kernel⟩
theorem qC1 : qcOK 1 ("TensionNet$Desk", qF1, 7) := ⟨fun w h => qPl_ok qW1 w (List.mem_append_left _ h), qPl_ok qW1 _ (List.mem_append_right _ (by simp)), qPl_ok qW1 _ (List.mem_append_right _ (by simp)), by decide +kernel, by decide +kernel, by decide +kernel⟩
theorem qC2 : qcOK 2 ("TensionNet$Divider", qF2, 4) := ⟨fun w h => qPl_ok qW2 w (List.mem_append_left _ h), qPl_ok qW2 _ (List.mem_append_right _ (by simp)), qPl_ok qW2 _ (List.mem_append_right _ (by simp)), by decide +kernel, by decide +kernel, by decide +kernel⟩
theorem qC3 : qcOK 3 ("TensionNet$Form", qF3, 6) := ⟨fun w h => qPl_ok qW3 w (List.mem_append_left _ h), qPl_ok qW3 _ (List.mem_append_right _ (by simp)), qPl_ok qW3 _ (List.mem_append_right _ (by simp)), by decide +kernel, by decide +kernel, by decide +kernel⟩
theorem qC4 : qcOK 4 ("TensionNet$Fraction", qF4, 3) := ⟨fun w h => qPl_ok qW4 w (List.mem_append_left _ h), qPl_ok qW4 _ (List.mem_append_right _ (by simp)), qPl_ok qW4 _ (List.mem_append_right _ (by simp)), by decide +kernel, by decide +kernel, by decide +kernel⟩
theorem qC5 : qcOK 5 ("TensionNet$Grid", qF5, 13) := ⟨fun w h => qPl_ok qW5 w (List.mem_append_left _ h), qPl_ok qW5 _ (List.mem_append_right _ (by simp)), qPl_ok qW5 _ (List.mem_append_right _ (by simp)), by decide +kernel, by decide +kernel, by decide +kernel⟩
theorem qC6 : qcOK 6 ("TensionNet$Net", qF6, 10) := ⟨fun w h => qPl_ok qW6 w (List.mem_append_left _ h), qPl_ok qW6 _ (List.mem_append_right _ (by simp)), qPl_ok qW6 _ (List.mem_append_right _ (by simp)), by decide +kernel, by decide +kernel, by decide +kernel⟩
theorem qC7 : qcOK 7 ("TensionNet$Slots", qF7, 6) := ⟨fun w h => qPl_ok qW7 w (List.mem_append_left _ h), qPl_ok qW7 _ (List.mem_append_right _ (by simp)), qPl_ok qW7 _ (List.mem_append_right _ (by simp)), by decide +kernel, by decide +kernel, by decide +kernel⟩
theorem qC8 : qcOK 8 ("TensionNet$Triple", qF8, 1) := ⟨fun w h => qPl_ok qW8 w (List.mem_append_left _ h), qPl_ok qW8 _ (List.mem_append_right _ (by simp)), qPl_ok qW8 _ (List.mem_append_right _ (by simp)), by decide +kernel, by decide +kernel, by decide +kernel⟩
theorem qC9 : qcOK 9 ("TensionNet$Whole", qF9, 3) := ⟨fun w h => qPl_ok qW9 w (List.mem_append_left _ h), qPl_ok qW9 _ (List.mem_append_right _ (by simp)), qPl_ok qW9 _ (List.mem_append_right _ (by simp)), by decide +kernel, by decide +kernel, by decide +kernel⟩
theorem qC10 : qcOK 10 ("TensionNet", qF10, 17) := ⟨fun w h => qPl_ok qW10 w (List.mem_append_left _ h), qPl_ok qW10 _ (List.mem_append_right _ (by simp)), qPl_ok qW10 _ (List.mem_append_right _ (by simp)), by decide +kernel, by decide +kernel, by decide +kernel⟩
theorem qC11 : qcOK 11 ("TensionNetModel", qF11, 24) := ⟨fun w h => qPl_ok qW11 w (List.mem_append_left _ h), qPl_ok qW11 _ (List.mem_append_right _ (by simp)), qPl_ok qW11 _ (List.mem_append_right _ (by simp)), by decide +kernel, by decide +kernel, by decide +kernel⟩
theorem qcls_ok {ci : Nat} {q : vw_C} (h : qcls[ci]? = some q) : qcOK ci q := by
  match ci, h with
  | 0, h => cases h; exact qC0
  | 1, h => cases h; exact qC1
  | 2, h => cases h; exact qC2
  | 3, h => cases h; exact qC3
  | 4, h => cases h; exact qC4
  | 5, h => cases h; exact qC5
  | 6, h => cases h; exact qC6
  | 7, h => cases h; exact qC7
  | 8, h => cases h; exact qC8
  | 9, h => cases h; exact qC9
  | 10, h => cases h; exact qC10
  | 11, h => cases h; exact qC11
  | k + 12, h => simp [qcls] at h
end
section
/-! THE PURE EVALUATOR of the program's bytecode. A heap is (cells by number, how many, how many slots); an array's first number is its tag: 0 int, 1 long, 2 boolean, 3 Whole, 4 Triple, 5 rows of int, 6 rows of long. A row of code: (pc, instruction, length, a, b, place of its word). -/
abbrev eH : Type := (Nat → va_E) × Nat × Nat
abbrev eL : Type := List (Option Value)
abbrev eR : Type := Option Value × eH
abbrev eM : Type := Nat → List Value → eH → Option eR
abbrev eRow : Type := Nat × Instr × Nat × Nat × Nat × Nat
abbrev eS : Type := Nat × eL × List Value × eH
abbrev eO : Type := Option (eS ⊕ eR)
abbrev eSc : Type := Option (Nat × (Nat → Int32))
def eFind : List eRow → Nat → Option eRow
  | [], _ => none
  | r :: t, pc => bif Nat.beq r.1 pc then some r else eFind t pc
def eKl (o : Option Value) : Option Value := match o with
  | some (.long _) => none
  | some (.double _) => none
  | o => o
def eKill : eL → Nat → eL
  | ls, 0 => ls
  | ls, i + 1 => ls.set i (eKl (ls.getD i none))
def eSet1 (ls : eL) (i : Nat) (v : Value) : eL := (eKill ls i).set i (some v)
def eSet2 (ls : eL) (i : Nat) (v : Value) : eL := ((eKill ls i).set i (some v)).set (i + 1) none
def eSum : List Value → Nat
  | [] => 0
  | v :: t => v.category + eSum t
section EVO
variable {α : Type}
def oA (o : Option Value) (f : Value → Option α) : Option α := match o with
  | some (.ref a) => f (.ref a)
  | some (.float a) => f (.float a)
  | _ => none
def oI (o : Option Value) (f : Int32 → Option α) : Option α := match o with
  | some (.int x) => f x
  | _ => none
def oL (o : Option Value) (f : Int64 → Option α) : Option α := match o with
  | some (.long x) => f x
  | _ => none
def sI (st : List Value) (f : Int32 → List Value → Option α) : Option α := match st with
  | .int x :: t => f x t
  | _ => none
def sL (st : List Value) (f : Int64 → List Value → Option α) : Option α := match st with
  | .long x :: t => f x t
  | _ => none
def sR (st : List Value) (f : Nat → List Value → Option α) : Option α := match st with
  | .ref x :: t => f x t
  | _ => none
def sII (st : List Value) (f : Int32 → Int32 → List Value → Option α) : Option α := match st with
  | .int y :: .int x :: t => f x y t
  | _ => none
def sLL (st : List Value) (f : Int64 → Int64 → List Value → Option α) : Option α := match st with
  | .long y :: .long x :: t => f x y t
  | _ => none
def sLI (st : List Value) (f : Int64 → Int32 → List Value → Option α) : Option α := match st with
  | .int y :: .long x :: t => f x y t
  | _ => none
def sIR (st : List Value) (f : Int32 → Nat → List Value → Option α) : Option α := match st with
  | .int i :: .ref a :: t => f i a t
  | _ => none
def sIIR (st : List Value) (f : Int32 → Int32 → Nat → List Value → Option α) : Option α := match st with
  | .int x :: .int i :: .ref a :: t => f x i a t
  | _ => none
def sLIR (st : List Value) (f : Int64 → Int32 → Nat → List Value → Option α) : Option α := match st with
  | .long x :: .int i :: .ref a :: t => f x i a t
  | _ => none
def sRIR (st : List Value) (f : Nat → Int32 → Nat → List Value → Option α) : Option α := match st with
  | .ref x :: .int i :: .ref a :: t => f x i a t
  | _ => none
def sVR (st : List Value) (f : Value → Nat → List Value → Option α) : Option α := match st with
  | v :: .ref a :: t => f v a t
  | _ => none
def sV (st : List Value) (f : Value → List Value → Option α) : Option α := match st with
  | v :: t => f v t
  | _ => none
def sCpy (st : List Value) (f : Nat → Int32 → Nat → Int32 → Int32 → List Value → Option α) : Option α := match st with
  | .int n :: .int dp :: .ref a1 :: .int sp :: .ref a0 :: t => f a0 sp a1 dp n t
  | _ => none
def hO (h : eH) (a : Nat) (f : Nat → List Value → Option α) : Option α := match h.1 a with
  | .inr (ci, fs) => f ci fs
  | _ => none
def hI (h : eH) (a : Nat) (tg : Nat) (f : Nat → (Nat → Int32) → Option α) : Option α := match h.1 a with
  | .inl (t, n, .inl g) => bif Nat.beq t tg then f n g else none
  | _ => none
def hL (h : eH) (a : Nat) (f : Nat → (Nat → Int64) → Option α) : Option α := match h.1 a with
  | .inl (t, n, .inr (.inl g)) => bif Nat.beq t 1 then f n g else none
  | _ => none
def hQ (h : eH) (a : Nat) (f : Nat → Nat → (Nat → Option Nat) → Option α) : Option α := match h.1 a with
  | .inl (t, n, .inr (.inr (.inr (.inr g)))) => bif Nat.ble 3 t && Nat.ble t 6 then f t n g else none
  | _ => none
def hN (h : eH) (a : Nat) (f : Nat → Option α) : Option α := match h.1 a with
  | .inl (t, n, _) => bif Nat.ble t 6 then f n else none
  | _ => none
def inR (i : Int32) (n : Nat) (o : Option α) : Option α := if i < 0 ∨ n ≤ i.toNatClampNeg then none else o
def bo (b : Bool) (o : Option α) : Option α := bif b then o else none
end EVO
def okv (ty : FieldType) (v : Value) : Bool := match ty, v with
  | .int, .int _ => true
  | .long, .long _ => true
  | .boolean, .int x => x == 0 || x == 1
  | .object _, .ref _ => true
  | .array _, .ref _ => true
  | _, _ => false
def eUp (h : eH) (a : Nat) (e : va_E) : eH := (va_up h.1 a e, h.2.1, h.2.2)
def eDf (ci : Nat) : List Value := (qYs.getD ci []).map defaultValue
def eInv (M : eM) (j : Nat) (as t : List Value) (h : eH) (k : List Value → eH → eO) : eO := bo (Nat.ble (eSum t) 8) (match M j as h with
  | some (v, h') => k (v.toList ++ t) h'
  | none => none)
def eVirt (M : eM) (r : eRow) (ls : eL) (st : List Value) (h : eH) : eO := sR (st.drop r.2.2.2.2.1) (fun a t => eInv M r.2.2.2.1 (.ref a :: (st.take r.2.2.2.2.1).reverse) t h (fun s h' => some (.inl (r.1 + 3, ls, s, h'))))
def eStat (M : eM) (r : eRow) (ls : eL) (st : List Value) (h : eH) : eO := bo (Nat.ble r.2.2.2.2.1 st.length) (eInv M r.2.2.2.1 (st.take r.2.2.2.2.1).reverse (st.drop r.2.2.2.2.1) h (fun s h' => some (.inl (r.1 + 3, ls, s, h'))))
def eCpy (pc : Nat) (ls : eL) (st : List Value) (h : eH) : eO := sCpy st (fun a0 sp a1 dp n t => hI h a0 0 (fun n0 f => hI h a1 0 (fun n1 g => bo (Nat.ble (eSum t) 8) (if sp < 0 ∨ dp < 0 ∨ n < 0 ∨ n0 < sp.toNatClampNeg + n.toNatClampNeg ∨ n1 < dp.toNatClampNeg + n.toNatClampNeg then none else some (.inl (pc + 3, ls, t, eUp h a1 (.inl (0, n1, .inl (va_cpy f g sp.toNatClampNeg dp.toNatClampNeg n.toNatClampNeg)))))))))
def eNewA (pc : Nat) (ls : eL) (st : List Value) (h : eH) (z : vp_A → (Nat × vp_A)) (q : Nat → vp_A) (len : Nat) : eO := sI st (fun c t => if c < 0 ∨ 1000000 < c.toNatClampNeg then none else some (.inl (pc + len, ls, .ref h.2.1 :: t, (va_up h.1 h.2.1 (.inl (z (q c.toNatClampNeg))), h.2.1 + 1, h.2.2 + c.toNatClampNeg))))
def eNewAt (a : ArrayType) (pc : Nat) (ls : eL) (st : List Value) (h : eH) : eO := match a with
  | .int => eNewA pc ls st h (fun x => (0, x)) (fun n => (n, .inl (fun _ => 0))) 2
  | .long => eNewA pc ls st h (fun x => (1, x)) (fun n => (n, .inr (.inl (fun _ => 0)))) 2
  | .boolean => eNewA pc ls st h (fun x => (2, x)) (fun n => (n, .inl (fun _ => 0))) 2
  | _ => none
def eMul (r : eRow) (ls : eL) (st : List Value) (h : eH) : eO := sII st (fun n k t => if n < 0 ∨ k < 0 ∨ 1000 < n.toNatClampNeg ∨ 1000 < k.toNatClampNeg then none else some (.inl (r.1 + 4, ls, .ref h.2.1 :: t,
  ((fun i => if i = h.2.1 then .inl (r.2.2.2.1, n.toNatClampNeg, .inr (.inr (.inr (.inr (fun j => if j < n.toNatClampNeg then some (h.2.1 + 1 + j) else none))))) else if h.2.1 < i ∧ i < h.2.1 + 1 + n.toNatClampNeg then .inl (r.2.2.2.2.1, k.toNatClampNeg, (bif Nat.beq r.2.2.2.2.1 0 then .inl (fun _ => 0) else .inr (.inl (fun _ => 0)))) else h.1 i), h.2.1 + 1 + n.toNatClampNeg, h.2.2 + n.toNatClampNeg + n.toNatClampNeg * k.toNatClampNeg))))
def eSw (pc : Nat) (x : Int32) (dflt lo hi : Int) (offs : Array Int) : Option Int := if x.toInt < lo ∨ hi < x.toInt then some ((pc : Int) + dflt) else (offs[(x.toInt - lo).toNat]?).map (fun o => (pc : Int) + o)
/-- one instruction -/
def estep (sc : eSc) (M : eM) (r : eRow) (ls : eL) (st : List Value) (h : eH) : eO :=
  match r.2.1 with
  | .aload_n n => oA (ls.getD n.val none) (fun v => some (.inl (r.1 + 1, ls, v :: st, h)))
  | .aload n => oA (ls.getD n none) (fun v => some (.inl (r.1 + 2, ls, v :: st, h)))
  | .iload_n n => oI (ls.getD n.val none) (fun v => some (.inl (r.1 + 1, ls, .int v :: st, h)))
  | .iload n => oI (ls.getD n none) (fun v => some (.inl (r.1 + 2, ls, .int v :: st, h)))
  | .lload_n n => oL (ls.getD n.val none) (fun v => some (.inl (r.1 + 1, ls, .long v :: st, h)))
  | .lload n => oL (ls.getD n none) (fun v => some (.inl (r.1 + 2, ls, .long v :: st, h)))
  | .istore_n n => sI st (fun x t => some (.inl (r.1 + 1, eSet1 ls n.val (.int x), t, h)))
  | .istore n => sI st (fun x t => some (.inl (r.1 + 2, eSet1 ls n (.int x), t, h)))
  | .astore_n n => sR st (fun x t => some (.inl (r.1 + 1, eSet1 ls n.val (.ref x), t, h)))
  | .astore n => sR st (fun x t => some (.inl (r.1 + 2, eSet1 ls n (.ref x), t, h)))
  | .lstore_n n => sL st (fun x t => some (.inl (r.1 + 1, eSet2 ls n.val (.long x), t, h)))
  | .lstore n => sL st (fun x t => some (.inl (r.1 + 2, eSet2 ls n (.long x), t, h)))
  | .iinc i n => oI (ls.getD i none) (fun x => some (.inl (r.1 + 3, eSet1 ls i (.int (x + Int32.ofInt n)), st, h)))
  | .iconst n => some (.inl (r.1 + 1, ls, .int (Int32.ofInt n) :: st, h))
  | .bipush n => some (.inl (r.1 + 2, ls, .int (Int8.ofInt n).toInt32 :: st, h))
  | .sipush n => some (.inl (r.1 + 3, ls, .int (Int16.ofInt n).toInt32 :: st, h))
  | .lconst n => some (.inl (r.1 + 1, ls, .long (Int64.ofNat n.val) :: st, h))
  | .ldc _ => some (.inl (r.1 + 2, ls, .int (Int32.ofNat r.2.2.2.1) :: st, h))
  | .ldc2_w _ => some (.inl (r.1 + 3, ls, .long (bif Nat.beq r.2.2.2.2.1 0 then Int64.ofNat r.2.2.2.1 else -Int64.ofNat r.2.2.2.1) :: st, h))
  | .iadd => sII st (fun x y t => some (.inl (r.1 + 1, ls, .int (x + y) :: t, h)))
  | .isub => sII st (fun x y t => some (.inl (r.1 + 1, ls, .int (x - y) :: t, h)))
  | .imul => sII st (fun x y t => some (.inl (r.1 + 1, ls, .int (x * y) :: t, h)))
  | .iand => sII st (fun x y t => some (.inl (r.1 + 1, ls, .int (x &&& y) :: t, h)))
  | .ior => sII st (fun x y t => some (.inl (r.1 + 1, ls, .int (x ||| y) :: t, h)))
  | .ishr => sII st (fun x y t => some (.inl (r.1 + 1, ls, .int (x >>> (y &&& 31)) :: t, h)))
  | .iushr => sII st (fun x y t => some (.inl (r.1 + 1, ls, .int (x.toUInt32 >>> (y.toUInt32 &&& Int32.toUInt32 31)).toInt32 :: t, h)))
  | .idiv => sII st (fun x y t => if y = 0 then none else some (.inl (r.1 + 1, ls, .int (x / y) :: t, h)))
  | .irem => sII st (fun x y t => if y = 0 then none else some (.inl (r.1 + 1, ls, .int (x - x / y * y) :: t, h)))
  | .ineg => sI st (fun x t => some (.inl (r.1 + 1, ls, .int (-x) :: t, h)))
  | .ladd => sLL st (fun x y t => some (.inl (r.1 + 1, ls, .long (x + y) :: t, h)))
  | .lsub => sLL st (fun x y t => some (.inl (r.1 + 1, ls, .long (x - y) :: t, h)))
  | .lmul => sLL st (fun x y t => some (.inl (r.1 + 1, ls, .long (x * y) :: t, h)))
  | .land => sLL st (fun x y t => some (.inl (r.1 + 1, ls, .long (x &&& y) :: t, h)))
  | .lor => sLL st (fun x y t => some (.inl (r.1 + 1, ls, .long (x ||| y) :: t, h)))
  | .lxor => sLL st (fun x y t => some (.inl (r.1 + 1, ls, .long (x ^^^ y) :: t, h)))
  | .ldiv => sLL st (fun x y t => if y = 0 then none else some (.inl (r.1 + 1, ls, .long (x / y) :: t, h)))
  | .lrem => sLL st (fun x y t => if y = 0 then none else some (.inl (r.1 + 1, ls, .long (x - x / y * y) :: t, h)))
  | .lneg => sL st (fun x t => some (.inl (r.1 + 1, ls, .long (-x) :: t, h)))
  | .lshl => sLI st (fun x y t => some (.inl (r.1 + 1, ls, .long (x <<< (y.toInt64 &&& 63)) :: t, h)))
  | .lcmp => sLL st (fun x y t => some (.inl (r.1 + 1, ls, .int (lg_cmp x y) :: t, h)))
  | .i2l => sI st (fun x t => some (.inl (r.1 + 1, ls, .long x.toInt64 :: t, h)))
  | .l2i => sL st (fun x t => some (.inl (r.1 + 1, ls, .int x.toInt32 :: t, h)))
  | .i2b => sI st (fun x t => some (.inl (r.1 + 1, ls, .int x.toInt8.toInt32 :: t, h)))
  | .i2s => sI st (fun x t => some (.inl (r.1 + 1, ls, .int x.toInt16.toInt32 :: t, h)))
  | .dup => sV st (fun v t => bo (Nat.beq v.category 1) (some (.inl (r.1 + 1, ls, v :: v :: t, h))))
  | .pop => sV st (fun v t => bo (Nat.beq v.category 1) (some (.inl (r.1 + 1, ls, t, h))))
  | .dup2 => sV st (fun v t => sV t (fun u t => bo (Nat.beq v.category 1 && Nat.beq u.category 1) (some (.inl (r.1 + 1, ls, v :: u :: v :: u :: t, h)))))
  | .goto _ => some (.inl (r.2.2.2.1, ls, st, h))
  | .ifCond c _ => sI st (fun x t => match c with
    | .eq => if x = 0 then some (.inl (r.2.2.2.1, ls, t, h)) else some (.inl (r.1 + 3, ls, t, h))
    | .ne => if x = 0 then some (.inl (r.1 + 3, ls, t, h)) else some (.inl (r.2.2.2.1, ls, t, h))
    | .lt => if x < 0 then some (.inl (r.2.2.2.1, ls, t, h)) else some (.inl (r.1 + 3, ls, t, h))
    | .ge => if 0 ≤ x then some (.inl (r.2.2.2.1, ls, t, h)) else some (.inl (r.1 + 3, ls, t, h))
    | .gt => if 0 < x then some (.inl (r.2.2.2.1, ls, t, h)) else some (.inl (r.1 + 3, ls, t, h))
    | .le => if x ≤ 0 then some (.inl (r.2.2.2.1, ls, t, h)) else some (.inl (r.1 + 3, ls, t, h)))
  | .if_icmp c _ => sII st (fun x y t => match c with
    | .eq => if x = y then some (.inl (r.2.2.2.1, ls, t, h)) else some (.inl (r.1 + 3, ls, t, h))
    | .ne => if x = y then some (.inl (r.1 + 3, ls, t, h)) else some (.inl (r.2.2.2.1, ls, t, h))
    | .lt => if x < y then some (.inl (r.2.2.2.1, ls, t, h)) else some (.inl (r.1 + 3, ls, t, h))
    | .ge => if y ≤ x then some (.inl (r.2.2.2.1, ls, t, h)) else some (.inl (r.1 + 3, ls, t, h))
    | .gt => if y < x then some (.inl (r.2.2.2.1, ls, t, h)) else some (.inl (r.1 + 3, ls, t, h))
    | .le => if x ≤ y then some (.inl (r.2.2.2.1, ls, t, h)) else some (.inl (r.1 + 3, ls, t, h)))
  | .tableswitch d lo hi offs => sI st (fun x t => match eSw r.1 x d lo hi offs with
    | some z => if 0 ≤ z then some (.inl (z.toNat, ls, t, h)) else none
    | none => none)
  | .getfield _ => sR st (fun a t => hO h a (fun ci fs => bo (Nat.beq ci r.2.2.2.1) (match fs[r.2.2.2.2.1]? with
    | some v => some (.inl (r.1 + 3, ls, v :: t, h))
    | none => none)))
  | .putfield _ => sVR st (fun v a t => hO h a (fun ci fs => bo (Nat.beq ci r.2.2.2.1 && okv (qty ci r.2.2.2.2.1) v && Nat.blt r.2.2.2.2.1 fs.length) (some (.inl (r.1 + 3, ls, t, eUp h a (.inr (ci, fs.set r.2.2.2.2.1 v)))))))
  | .iaload => match st with
    | .int i :: .ref a :: t => hI h a 0 (fun n f => inR i n (some (.inl (r.1 + 1, ls, .int (f i.toNatClampNeg) :: t, h))))
    | .int i :: .float _ :: t => (match sc with
      | some (n, f) => inR i n (some (.inl (r.1 + 1, ls, .int (f i.toNatClampNeg) :: t, h)))
      | none => none)
    | _ => none
  | .baload => sIR st (fun i a t => hI h a 2 (fun n f => inR i n (some (.inl (r.1 + 1, ls, .int (f i.toNatClampNeg) :: t, h)))))
  | .laload => sIR st (fun i a t => hL h a (fun n f => inR i n (some (.inl (r.1 + 1, ls, .long (f i.toNatClampNeg) :: t, h)))))
  | .aaload => sIR st (fun i a t => hQ h a (fun _ n f => inR i n (match f i.toNatClampNeg with
    | some q => some (.inl (r.1 + 1, ls, .ref q :: t, h))
    | none => none)))
  | .iastore => sIIR st (fun x i a t => hI h a 0 (fun n f => inR i n (some (.inl (r.1 + 1, ls, t, eUp h a (.inl (0, n, .inl (upd f i.toNatClampNeg x))))))))
  | .bastore => sIIR st (fun x i a t => hI h a 2 (fun n f => inR i n (bo (x == 0 || x == 1) (some (.inl (r.1 + 1, ls, t, eUp h a (.inl (2, n, .inl (upd f i.toNatClampNeg x)))))))))
  | .lastore => sLIR st (fun x i a t => hL h a (fun n f => inR i n (some (.inl (r.1 + 1, ls, t, eUp h a (.inl (1, n, .inr (.inl (vp_updL f i.toNatClampNeg x)))))))))
  | .aastore => sRIR st (fun v i a t => hQ h a (fun tg n f => hO h v (fun cv _ => bo ((Nat.beq tg 3 && Nat.beq cv 9) || (Nat.beq tg 4 && Nat.beq cv 8)) (inR i n (some (.inl (r.1 + 1, ls, t, eUp h a (.inl (tg, n, .inr (.inr (.inr (.inr (va_up f i.toNatClampNeg (some v))))))))))))))
  | .arraylength => match st with
    | .ref a :: t => hN h a (fun n => some (.inl (r.1 + 1, ls, .int (Int32.ofNat n) :: t, h)))
    | .float _ :: t => (match sc with
      | some (n, _) => some (.inl (r.1 + 1, ls, .int (Int32.ofNat n) :: t, h))
      | none => none)
    | _ => none
  | .new _ => bo (Nat.blt r.2.2.2.1 12) (some (.inl (r.1 + 3, ls, .ref h.2.1 :: st, (va_up h.1 h.2.1 (.inr (r.2.2.2.1, eDf r.2.2.2.1)), h.2.1 + 1, h.2.2 + (eDf r.2.2.2.1).length))))
  | .newarray a => eNewAt a r.1 ls st h
  | .anewarray _ => eNewA r.1 ls st h (fun x => (r.2.2.2.1, x)) (fun n => (n, .inr (.inr (.inr (.inr (fun _ => none)))))) 3
  | .multianewarray _ _ => eMul r ls st h
  | .invokevirtual _ => eVirt M r ls st h
  | .invokespecial _ => bif Nat.beq r.2.2.2.1 9999 then sR st (fun _ t => bo (Nat.ble (eSum t) 8) (some (.inl (r.1 + 3, ls, t, h)))) else eVirt M r ls st h
  | .invokestatic _ => bif Nat.beq r.2.2.2.1 9998 then eCpy r.1 ls st h else eStat M r ls st h
  | .ireturn => (match st with
    | [.int x] => bo (Nat.beq r.2.2.2.1 0 || (x == 0 || x == 1)) (some (.inr (some (.int x), h)))
    | _ => none)
  | .lreturn => (match st with
    | [.long x] => some (.inr (some (.long x), h))
    | _ => none)
  | .areturn => (match st with
    | [.ref x] => some (.inr (some (.ref x), h))
    | _ => none)
  | .return_ => (match st with
    | [] => some (.inr (none, h))
    | _ => none)
  | _ => none
def eExec : Nat → eSc → eM → List eRow → eS → Option eR
  | 0, _, _, _, _ => none
  | f + 1, sc, M, tb, q => match eFind tb q.1 with
    | none => none
    | some r => match estep sc M r q.2.1 q.2.2.1 q.2.2.2 with
      | none => none
      | some (.inl q') => eExec f sc M tb q'
      | some (.inr x) => some x
theorem eExec_mono {sc : eSc} {M : eM} {tb : List eRow} : ∀ {f : Nat} {q : eS} {x : eR}, eExec f sc M tb q = some x → ∀ d, eExec (f + d) sc M tb q = some x := by
  intro f
  induction f with
  | zero => intro q x h; cases h
  | succ f ih =>
    intro q x h d
    rw [show f + 1 + d = (f + d) + 1 by omega]
    unfold eExec at h ⊢
    cases hf : eFind tb q.1 with
    | none => rw [hf] at h; cases h
    | some r =>
      rw [hf] at h
      dsimp only at h ⊢
      cases hs : estep sc M r q.2.1 q.2.2.1 q.2.2.2 with
      | none => rw [hs] at h; cases h
      | some y =>
        rw [hs] at h
        cases y with
        | inl q' => exact ih h d
        | inr z => exact h
def eRuns (sc : eSc) (M : eM) (tb : List eRow) (q : eS) (x : eR) : Prop := ∃ f, eExec f sc M tb q = some x
theorem eRuns_det {sc : eSc} {M : eM} {tb : List eRow} {q : eS} {x y : eR} (h1 : eRuns sc M tb q x) (h2 : eRuns sc M tb q y) : x = y := by
  obtain ⟨f, h1⟩ := h1
  obtain ⟨g, h2⟩ := h2
  have a := eExec_mono h1 g
  have b := eExec_mono h2 f
  rw [show g + f = f + g by omega] at b
  exact Option.some.inj (a.symm.trans b)
noncomputable def eRun (sc : eSc) (M : eM) (tb : List eRow) (q : eS) : Option eR := @dite _ (∃ x, eRuns sc M tb q x) (Classical.propDecidable _) (fun h => some h.choose) (fun _ => none)
theorem eRun_iff {sc : eSc} {M : eM} {tb : List eRow} {q : eS} {x : eR} : eRun sc M tb q = some x ↔ eRuns sc M tb q x := by
  unfold eRun
  by_cases h : ∃ x, eRuns sc M tb q x
  · rw [dif_pos h]
    constructor
    · intro e
      rw [← Option.some.inj e]
      exact h.choose_spec
    · intro e
      rw [eRuns_det h.choose_spec e]
  · rw [dif_neg h]
    constructor
    · intro e; cases e
    · intro e; exact absurd ⟨x, e⟩ h
theorem eRun_ext {sc : eSc} {M : eM} {tb : List eRow} {q q' : eS} (h : ∀ x, eRuns sc M tb q x ↔ eRuns sc M tb q' x) : eRun sc M tb q = eRun sc M tb q' := by
  cases h1 : eRun sc M tb q with
  | some x => exact (eRun_iff.mpr ((h x).mp (eRun_iff.mp h1))).symm
  | none =>
    cases h2 : eRun sc M tb q' with
    | none => rfl
    | some y =>
      have := eRun_iff.mpr ((h y).mpr (eRun_iff.mp h2))
      rw [h1] at this
      cases this
theorem eRun_go {sc : eSc} {M : eM} {tb : List eRow} {q q' : eS} {r : eRow} (hf : eFind tb q.1 = some r) (hs : estep sc M r q.2.1 q.2.2.1 q.2.2.2 = some (.inl q')) : eRun sc M tb q = eRun sc M tb q' := by
  refine eRun_ext fun x => ⟨?_, ?_⟩
  · rintro ⟨f, h⟩
    cases f with
    | zero => cases h
    | succ f =>
      unfold eExec at h
      rw [hf] at h
      dsimp only at h
      rw [hs] at h
      exact ⟨f, h⟩
  · rintro ⟨f, h⟩
    refine ⟨f + 1, ?_⟩
    unfold eExec
    rw [hf]
    dsimp only
    rw [hs]
    exact h
theorem eRun_end {sc : eSc} {M : eM} {tb : List eRow} {q : eS} {r : eRow} {x : eR} (hf : eFind tb q.1 = some r) (hs : estep sc M r q.2.1 q.2.2.1 q.2.2.2 = some (.inr x)) : eRun sc M tb q = some x := by
  refine eRun_iff.mpr ⟨1, ?_⟩
  unfold eExec
  rw [hf]
  dsimp only
  rw [hs]
theorem eRun_no {sc : eSc} {M : eM} {tb : List eRow} {q : eS} {r : eRow} (hf : eFind tb q.1 = some r) (hs : estep sc M r q.2.1 q.2.2.1 q.2.2.2 = none) : eRun sc M tb q = none := by
  cases h : eRun sc M tb q with
  | none => rfl
  | some x =>
    obtain ⟨f, h⟩ := eRun_iff.mp h
    cases f with
    | zero => cases h
    | succ f =>
      unfold eExec at h
      rw [hf] at h
      dsimp only at h
      rw [hs] at h
      cases h
end
section
/-! HOW A HEAP OF THE EVALUATOR LIES IN THE MACHINE: cell i at base + i; the script's cell is b (its reference is written as a float) -/
def qbad : va_E := .inr (99, [])
def lf (b base : Nat) (v : Value) : Value := match v with
  | .ref i => .ref (base + i)
  | .float _ => .ref b
  | v => v
def lfE (dA : Nat → ClassId) (b base : Nat) (x : va_E) : va_E := match x with
  | .inl (t, n, .inr (.inr (.inr (.inr g)))) => .inl (dA t, n, .inr (.inr (.inr (.inr (fun j => (g j).map (base + ·))))))
  | .inl (t, a) => .inl (dA t, a)
  | .inr (ci, fs) => .inr (ci, fs.map (lf b base))
def wl (dA : Nat → ClassId) (b base : Nat) (h : eH) : va_W := (List.range h.2.1).map (fun i => (base + i, lfE dA b base (h.1 i)))
def WH (D : va_G) (dA : Nat → ClassId) (b base : Nat) (h : eH) (H : Heap) : Prop := H.size = base + h.2.1 ∧ va_P D qcls (wl dA b base h) H ∧ ∀ i, h.2.1 ≤ i → h.1 i = qbad
abbrev tysL (dA : Nat → ClassId) : List (ClassId × FieldType) := [(dA 0, .int), (dA 1, .long), (dA 2, .boolean), (dA 3, .object "TensionNet$Whole"), (dA 4, .object "TensionNet$Triple"), (dA 5, .array .int), (dA 6, .array .long)]
def qOv : List FieldType := [.object "TensionNet$Whole", .object "TensionNet$Triple", .array .int, .array .long]
def qNe : List (String × Nat × MethodName) := [("TensionNet", 25, ⟨"TensionNet$Desk", "<init>", "()V"⟩), ("TensionNet$Desk", 11, ⟨"TensionNet$Divider", "<init>", "()V"⟩), ("TensionNet", 72, ⟨"TensionNet$Net", "<init>", "()V"⟩)]
def KK (D : va_G) (dA : Nat → ClassId) (U : State) : Prop := va_K D qcls (tysL dA) U ∧ (∀ t ∈ qOv, (Cond.arrayOver t).before #[] U = true) ∧ ∀ q ∈ qNe, va_Nw (.methodLinkNest q.1 q.2.1 q.2.2 "TensionNet") U
theorem ao_moved {t : FieldType} {A A' : Array Value} {u U : State} (hvm : u.vm.Alike U.vm) (h : (Cond.arrayOver t).before A u = true) : (Cond.arrayOver t).before A' U = true := by
  have h1 : (Cond.arrayOver t).before A (u.setVm U.vm) = true := by rw [Cond.arrayOver_setVmC hvm]; exact h
  exact h1
theorem KK.warm {D : va_G} {dA : Nat → ClassId} {s U : State} (hW : s.WarmedH U.vm) (h : KK D dA s) : KK D dA U := ⟨va_K.moved hW.alike h.1, fun t ht => ao_moved hW.alike (h.2.1 t ht), fun q hq => va_Nw.warmM hW (h.2.2 q hq)⟩
theorem KK.same {D : va_G} {dA : Nat → ClassId} {s U : State} (hv : s.vm = U.vm) (h : KK D dA s) : KK D dA U := ⟨va_K.moved (by rw [hv]; exact Vm.Alike.refl _) h.1, fun t ht => ao_moved (by rw [hv]; exact Vm.Alike.refl _) (h.2.1 t ht), fun q hq => (h.2.2 q hq).same rfl hv⟩
theorem wl_len {dA : Nat → ClassId} {b base : Nat} {h : eH} : (wl dA b base h).length = h.2.1 := by simp [wl]
theorem wl_at {dA : Nat → ClassId} {b base : Nat} {h : eH} {i : Nat} (hi : i < h.2.1) : (wl dA b base h)[i]? = some (base + i, lfE dA b base (h.1 i)) := by
  unfold wl
  rw [List.getElem?_map, List.getElem?_range hi]
  rfl
theorem wl_set {dA : Nat → ClassId} {b base : Nat} {h : eH} {i : Nat} {e : va_E} (hi : i < h.2.1) : (wl dA b base h).set i (base + i, lfE dA b base e) = wl dA b base (eUp h i e) := by
  refine List.ext_getElem? fun j => ?_
  by_cases hj : j < h.2.1
  · rw [wl_at (h := eUp h i e) hj]
    by_cases hij : i = j
    · subst hij
      rw [List.getElem?_set_self (by rw [wl_len]; exact hi)]
      simp [eUp, va_up]
    · rw [List.getElem?_set_ne hij, wl_at hj]
      simp [eUp, va_up, Ne.symm hij]
  · rw [List.getElem?_eq_none (by rw [List.length_set, wl_len]; omega), List.getElem?_eq_none (by rw [wl_len]; show h.2.1 ≤ j; omega)]
theorem wl_push {dA : Nat → ClassId} {b base : Nat} {h : eH} {e : va_E} {k : Nat} : wl dA b base h ++ [(base + h.2.1, lfE dA b base e)] = wl dA b base (va_up h.1 h.2.1 e, h.2.1 + 1, k) := by
  unfold wl
  dsimp only
  rw [List.range_succ, List.map_append]
  congr 1
  · refine List.map_congr_left fun i hi => ?_
    have : i < h.2.1 := List.mem_range.mp hi
    rw [show va_up h.1 h.2.1 e i = h.1 i from if_neg (by omega)]
  · show _ = [(base + h.2.1, lfE dA b base (va_up h.1 h.2.1 e h.2.1))]
    rw [show va_up h.1 h.2.1 e h.2.1 = e from if_pos rfl]
theorem wl_D {dA : Nat → ClassId} {b base : Nat} {h : eH} : va_D (fun q => base ≤ q) (wl dA b base h) := by
  have key : ∀ (i : Nat) (q : Nat × va_E), (wl dA b base h)[i]? = some q → q.1 = base + i := by
    intro i q hq
    have hi : i < h.2.1 := by rw [← wl_len (dA := dA) (b := b) (base := base)]; exact (List.getElem?_eq_some_iff.mp hq).1
    rw [wl_at hi] at hq
    cases hq
    rfl
  refine ⟨fun i j x y hi hj hxy => ?_, fun k q hk => ?_⟩
  · have := key i x hi
    have := key j y hj
    omega
  · rw [key k q hk]
    exact Nat.le_add_right _ _
theorem WH.lt {D : va_G} {dA : Nat → ClassId} {b base : Nat} {h : eH} {H : Heap} (hw : WH D dA b base h H) {a : Nat} {e : va_E} (he : h.1 a = e) (hne : e ≠ qbad) : a < h.2.1 := by
  by_cases hlt : a < h.2.1
  · exact hlt
  · exact absurd (he.symm.trans (hw.2.2 a (by omega))) hne
theorem WH.up {D : va_G} {dA : Nat → ClassId} {b base : Nat} {h : eH} {H H1 : Heap} (hw : WH D dA b base h H) {a : Nat} {e : va_E} (ha : a < h.2.1) (hz : H1.size = H.size) (hP : va_P D qcls ((wl dA b base h).set a (base + a, lfE dA b base e)) H1) : WH D dA b base (eUp h a e) H1 := by
  refine ⟨by rw [hz]; exact hw.1, by rw [← wl_set ha]; exact hP, fun i hi => ?_⟩
  show va_up h.1 a e i = qbad
  rw [show va_up h.1 a e i = h.1 i from if_neg (by have : h.2.1 ≤ i := hi; omega)]
  exact hw.2.2 i hi
/-- the locals -/
def eEnt (b base : Nat) (ls : eL) : List (Nat × Value) := (List.range ls.length).filterMap (fun i => (ls.getD i none).map (fun v => (i, lf b base v)))
theorem eEnt_mem {b base : Nat} {ls : eL} {q : Nat × Value} : q ∈ eEnt b base ls ↔ ∃ v, ls.getD q.1 none = some v ∧ q.2 = lf b base v := by
  unfold eEnt
  rw [List.mem_filterMap]
  constructor
  · rintro ⟨i, -, hi⟩
    cases hv : ls.getD i none with
    | none => rw [hv] at hi; cases hi
    | some v =>
      rw [hv] at hi
      cases hi
      exact ⟨v, hv, rfl⟩
  · rintro ⟨v, hv, he⟩
    have hlt : q.1 < ls.length := by
      by_cases h : q.1 < ls.length
      · exact h
      · rw [List.getD_eq_getElem?_getD, List.getElem?_eq_none (by omega)] at hv
        cases hv
    refine ⟨q.1, List.mem_range.mpr hlt, ?_⟩
    rw [hv]
    show some (q.1, lf b base v) = some q
    rw [← he]
theorem lv_incl {arr : Array Slot} {nL : Nat} {l l' : List (Nat × Value)} (h : lv_has arr nL l) (hi : ∀ q ∈ l', q ∈ l) : lv_has arr nL l' := ⟨h.1, h.2.1, fun q hq => h.2.2 q (hi q hq)⟩
theorem ent_at {b base : Nat} {ls : eL} {arr : Array Slot} {nL i : Nat} {v : Value} (h : lv_has arr nL (eEnt b base ls)) (hv : ls.getD i none = some v) : arr[i]? = some (.val (lf b base v)) := h.2.2 (i, lf b base v) (eEnt_mem.mpr ⟨v, hv, rfl⟩)
theorem lf_cat (b base : Nat) (v : Value) : (lf b base v).category = v.category := by cases v <;> rfl
theorem getD_set_self {α : Type} {l : List α} {i : Nat} {v d u : α} (h : (l.set i v).getD i d = u) (hne : u ≠ d) : u = v := by
  rw [List.getD_eq_getElem?_getD] at h
  by_cases hi : i < l.length
  · rw [List.getElem?_set_self hi] at h
    exact h.symm
  · rw [List.getElem?_eq_none (by rw [List.length_set]; omega)] at h
    exact absurd h.symm hne
theorem getD_set_ne {α : Type} {l : List α} {i j : Nat} {v d : α} (h : j ≠ i) : (l.set i v).getD j d = l.getD j d := by
  rw [List.getD_eq_getElem?_getD, List.getD_eq_getElem?_getD, List.getElem?_set_ne (Ne.symm h)]
theorem eKl_some {o : Option Value} {v : Value} (h : eKl o = some v) : o = some v ∧ v.category = 1 := by
  unfold eKl at h
  split at h
  · cases h
  · cases h
  · next h1 h2 =>
    subst h
    refine ⟨rfl, ?_⟩
    cases v <;> first | rfl | exact absurd rfl (h1 _) | exact absurd rfl (h2 _)
theorem eKill_get {ls : eL} {i j : Nat} {v : Value} (hj : j ≠ i) (h : (eKill ls i).getD j none = some v) : ls.getD j none = some v ∧ ¬ (j + 1 = i ∧ v.category = 2) := by
  cases i with
  | zero => exact ⟨h, fun q => by omega⟩
  | succ i =>
    unfold eKill at h
    by_cases hji : j = i
    · subst hji
      have h2 := getD_set_self h (by simp)
      have h3 := eKl_some h2.symm
      exact ⟨h3.1, fun q => by rw [h3.2] at q; exact absurd q.2 (by decide)⟩
    · rw [getD_set_ne hji] at h
      exact ⟨h, fun q => by omega⟩
theorem eKill_len (ls : eL) (i : Nat) : (eKill ls i).length = ls.length := by
  cases i with
  | zero => rfl
  | succ i => exact List.length_set ..
theorem eSet1_len (ls : eL) (i : Nat) (v : Value) : (eSet1 ls i v).length = ls.length := by
  unfold eSet1
  rw [List.length_set, eKill_len]
theorem eSet2_len (ls : eL) (i : Nat) (v : Value) : (eSet2 ls i v).length = ls.length := by
  unfold eSet2
  rw [List.length_set, List.length_set, eKill_len]
theorem eSet1_in {b base : Nat} {ls : eL} {i : Nat} {v : Value} : ∀ q ∈ eEnt b base (eSet1 ls i v), q ∈ (i, lf b base v) :: (eEnt b base ls).filter (fun q => !(q.1 == i) && !(q.1 + 1 == i && q.2.category == 2)) := by
  intro q hq
  obtain ⟨u, hu, he⟩ := eEnt_mem.mp hq
  unfold eSet1 at hu
  by_cases hi : q.1 = i
  · rw [hi] at hu
    have := Option.some.inj (getD_set_self hu (by simp))
    subst this
    refine List.mem_cons.mpr (Or.inl ?_)
    rw [← hi, ← he]
  · rw [getD_set_ne hi] at hu
    obtain ⟨h1, h2⟩ := eKill_get hi hu
    refine List.mem_cons.mpr (Or.inr (List.mem_filter.mpr ⟨eEnt_mem.mpr ⟨u, h1, he⟩, ?_⟩))
    rw [he, lf_cat]
    simp only [Bool.and_eq_true, Bool.not_eq_true', beq_eq_false_iff_ne, ne_eq, Bool.and_eq_false_iff]
    refine ⟨hi, ?_⟩
    by_cases h3 : q.1 + 1 = i
    · exact Or.inr (fun h4 => h2 ⟨h3, h4⟩)
    · exact Or.inl h3
theorem eSet2_in {b base : Nat} {ls : eL} {i : Nat} {v : Value} : ∀ q ∈ eEnt b base (eSet2 ls i v), q ∈ (i, lf b base v) :: (eEnt b base ls).filter (fun q => !(q.1 == i) && (!(q.1 == i + 1) && !(q.1 + 1 == i && q.2.category == 2))) := by
  intro q hq
  obtain ⟨u, hu, he⟩ := eEnt_mem.mp hq
  unfold eSet2 at hu
  have h9 : q.1 ≠ i + 1 := by
    intro h
    rw [h] at hu
    have := getD_set_self hu (by simp)
    cases this
  rw [getD_set_ne h9] at hu
  by_cases hi : q.1 = i
  · rw [hi] at hu
    have := Option.some.inj (getD_set_self hu (by simp))
    subst this
    refine List.mem_cons.mpr (Or.inl ?_)
    rw [← hi, ← he]
  · rw [getD_set_ne hi] at hu
    obtain ⟨h1, h2⟩ := eKill_get hi hu
    refine List.mem_cons.mpr (Or.inr (List.mem_filter.mpr ⟨eEnt_mem.mpr ⟨u, h1, he⟩, ?_⟩))
    rw [he, lf_cat]
    simp only [Bool.and_eq_true, Bool.not_eq_true', beq_eq_false_iff_ne, ne_eq, Bool.and_eq_false_iff]
    refine ⟨hi, h9, ?_⟩
    by_cases h3 : q.1 + 1 = i
    · exact Or.inr (fun h4 => h2 ⟨h3, h4⟩)
    · exact Or.inl h3
/-- the locals at the entry -/
def entL (n : Nat) (as : List Value) : eL := as.flatMap (fun v => if v.category = 2 then [some v, none] else [some v]) ++ List.replicate (n - (as.flatMap (fun v => if v.category = 2 then [some v, none] else [some v])).length) none
theorem ent_args {b base : Nat} : ∀ (as : List Value) (i j : Nat) (v : Value) (t : eL), (∀ k, t.getD k none = none) → ((as.flatMap (fun v => if v.category = 2 then [some v, none] else [some v])) ++ t).getD j none = some v → (i + j, lf b base v) ∈ lv_args i (as.map (lf b base)) := by
  intro as
  induction as with
  | nil =>
    intro i j v t ht h
    rw [List.flatMap_nil, List.nil_append, ht] at h
    cases h
  | cons a as ih =>
    intro i j v t ht h
    show (i + j, lf b base v) ∈ (i, lf b base a) :: lv_args (if (lf b base a).category = 2 then i + 2 else i + 1) (as.map (lf b base))
    rw [lf_cat, List.flatMap_cons] at *
    by_cases hc : a.category = 2
    · rw [if_pos hc] at h ⊢
      match j, h with
      | 0, h => cases h; exact List.mem_cons_self
      | 1, h => cases h
      | j + 2, h =>
        have := ih (i + 2) j v t ht h
        rw [show i + (j + 2) = i + 2 + j by omega]
        exact List.mem_cons_of_mem _ this
    · rw [if_neg hc] at h ⊢
      match j, h with
      | 0, h => cases h; exact List.mem_cons_self
      | j + 1, h =>
        have := ih (i + 1) j v t ht h
        rw [show i + (j + 1) = i + 1 + j by omega]
        exact List.mem_cons_of_mem _ this
theorem entL_in {b base n : Nat} {as : List Value} : ∀ q ∈ eEnt b base (entL n as), q ∈ lv_args 0 (as.map (lf b base)) := by
  intro q hq
  obtain ⟨u, hu, he⟩ := eEnt_mem.mp hq
  have := ent_args (b := b) (base := base) as 0 q.1 u (List.replicate _ none) (fun k => by
    rw [List.getD_eq_getElem?_getD, List.getElem?_replicate]
    split <;> rfl) hu
  rw [Nat.zero_add, ← he] at this
  exact this
theorem entL_sl {b base : Nat} (as : List Value) : (lg_sl (as.map (lf b base))).length = (as.flatMap (fun v => if v.category = 2 then [some v, (none : Option Value)] else [some v])).length := by
  induction as with
  | nil => rfl
  | cons a as ih =>
    show (lg_sl (lf b base a :: as.map (lf b base))).length = _
    unfold lg_sl at ih ⊢
    rw [List.flatMap_cons, List.flatMap_cons, List.length_append, List.length_append, ih, lf_cat]
    by_cases hc : a.category = 2
    · rw [if_pos hc, if_pos hc]; rfl
    · rw [if_neg hc, if_neg hc]; rfl
theorem eSum_map {b base : Nat} (t : List Value) : ((t.map (lf b base)).map fun v => v.category).sum = eSum t := by
  induction t with
  | nil => rfl
  | cons v t ih =>
    simp only [List.map_cons, List.sum_cons, eSum, ih, lf_cat]
/-! what it takes that a step is one -/
section IV
variable {α : Type} {z : α}
theorem iv_oA {o : Option Value} {f : Value → Option α} (h : oA o f = some z) : ∃ v, o = some v ∧ ((∃ a, v = .ref a) ∨ ∃ a, v = .float a) ∧ f v = some z := by
  unfold oA at h
  split at h
  · exact ⟨_, rfl, Or.inl ⟨_, rfl⟩, h⟩
  · exact ⟨_, rfl, Or.inr ⟨_, rfl⟩, h⟩
  · cases h
theorem iv_oI {o : Option Value} {f : Int32 → Option α} (h : oI o f = some z) : ∃ x, o = some (.int x) ∧ f x = some z := by
  unfold oI at h
  split at h
  · exact ⟨_, rfl, h⟩
  · cases h
theorem iv_oL {o : Option Value} {f : Int64 → Option α} (h : oL o f = some z) : ∃ x, o = some (.long x) ∧ f x = some z := by
  unfold oL at h
  split at h
  · exact ⟨_, rfl, h⟩
  · cases h
theorem iv_sI {st : List Value} {f : Int32 → List Value → Option α} (h : sI st f = some z) : ∃ x t, st = .int x :: t ∧ f x t = some z := by
  unfold sI at h
  split at h
  · exact ⟨_, _, rfl, h⟩
  · cases h
theorem iv_sL {st : List Value} {f : Int64 → List Value → Option α} (h : sL st f = some z) : ∃ x t, st = .long x :: t ∧ f x t = some z := by
  unfold sL at h
  split at h
  · exact ⟨_, _, rfl, h⟩
  · cases h
theorem iv_sR {st : List Value} {f : Nat → List Value → Option α} (h : sR st f = some z) : ∃ x t, st = .ref x :: t ∧ f x t = some z := by
  unfold sR at h
  split at h
  · exact ⟨_, _, rfl, h⟩
  · cases h
theorem iv_sII {st : List Value} {f : Int32 → Int32 → List Value → Option α} (h : sII st f = some z) : ∃ x y t, st = .int y :: .int x :: t ∧ f x y t = some z := by
  unfold sII at h
  split at h
  · exact ⟨_, _, _, rfl, h⟩
  · cases h
theorem iv_sLL {st : List Value} {f : Int64 → Int64 → List Value → Option α} (h : sLL st f = some z) : ∃ x y t, st = .long y :: .long x :: t ∧ f x y t = some z := by
  unfold sLL at h
  split at h
  · exact ⟨_, _, _, rfl, h⟩
  · cases h
theorem iv_sLI {st : List Value} {f : Int64 → Int32 → List Value → Option α} (h : sLI st f = some z) : ∃ x y t, st = .int y :: .long x :: t ∧ f x y t = some z := by
  unfold sLI at h
  split at h
  · exact ⟨_, _, _, rfl, h⟩
  · cases h
theorem iv_sIR {st : List Value} {f : Int32 → Nat → List Value → Option α} (h : sIR st f = some z) : ∃ i a t, st = .int i :: .ref a :: t ∧ f i a t = some z := by
  unfold sIR at h
  split at h
  · exact ⟨_, _, _, rfl, h⟩
  · cases h
theorem iv_sIIR {st : List Value} {f : Int32 → Int32 → Nat → List Value → Option α} (h : sIIR st f = some z) : ∃ x i a t, st = .int x :: .int i :: .ref a :: t ∧ f x i a t = some z := by
  unfold sIIR at h
  split at h
  · exact ⟨_, _, _, _, rfl, h⟩
  · cases h
theorem iv_sLIR {st : List Value} {f : Int64 → Int32 → Nat → List Value → Option α} (h : sLIR st f = some z) : ∃ x i a t, st = .long x :: .int i :: .ref a :: t ∧ f x i a t = some z := by
  unfold sLIR at h
  split at h
  · exact ⟨_, _, _, _, rfl, h⟩
  · cases h
theorem iv_sRIR {st : List Value} {f : Nat → Int32 → Nat → List Value → Option α} (h : sRIR st f = some z) : ∃ x i a t, st = .ref x :: .int i :: .ref a :: t ∧ f x i a t = some z := by
  unfold sRIR at h
  split at h
  · exact ⟨_, _, _, _, rfl, h⟩
  · cases h
theorem iv_sVR {st : List Value} {f : Value → Nat → List Value → Option α} (h : sVR st f = some z) : ∃ v a t, st = v :: .ref a :: t ∧ f v a t = some z := by
  unfold sVR at h
  split at h
  · exact ⟨_, _, _, rfl, h⟩
  · cases h
theorem iv_sV {st : List Value} {f : Value → List Value → Option α} (h : sV st f = some z) : ∃ v t, st = v :: t ∧ f v t = some z := by
  unfold sV at h
  split at h
  · exact ⟨_, _, rfl, h⟩
  · cases h
theorem iv_sCpy {st : List Value} {f : Nat → Int32 → Nat → Int32 → Int32 → List Value → Option α} (h : sCpy st f = some z) : ∃ a0 sp a1 dp n t, st = .int n :: .int dp :: .ref a1 :: .int sp :: .ref a0 :: t ∧ f a0 sp a1 dp n t = some z := by
  unfold sCpy at h
  split at h
  · exact ⟨_, _, _, _, _, _, rfl, h⟩
  · cases h
theorem iv_bo {b : Bool} {o : Option α} (h : bo b o = some z) : b = true ∧ o = some z := by
  cases b with
  | false => cases h
  | true => exact ⟨rfl, h⟩
theorem iv_hO {h0 : eH} {a : Nat} {f : Nat → List Value → Option α} (h : hO h0 a f = some z) : ∃ ci fs, h0.1 a = .inr (ci, fs) ∧ f ci fs = some z := by
  unfold hO at h
  split at h
  · next e => exact ⟨_, _, e, h⟩
  · cases h
theorem iv_hI {h0 : eH} {a tg : Nat} {f : Nat → (Nat → Int32) → Option α} (h : hI h0 a tg f = some z) : ∃ n g, h0.1 a = .inl (tg, n, .inl g) ∧ f n g = some z := by
  unfold hI at h
  split at h
  · next t n g e =>
    obtain ⟨h1, h2⟩ := iv_bo h
    rw [Nat.eq_of_beq_eq_true h1] at e
    exact ⟨_, _, e, h2⟩
  · cases h
theorem iv_hL {h0 : eH} {a : Nat} {f : Nat → (Nat → Int64) → Option α} (h : hL h0 a f = some z) : ∃ n g, h0.1 a = .inl (1, n, .inr (.inl g)) ∧ f n g = some z := by
  unfold hL at h
  split at h
  · next t n g e =>
    obtain ⟨h1, h2⟩ := iv_bo h
    rw [Nat.eq_of_beq_eq_true h1] at e
    exact ⟨_, _, e, h2⟩
  · cases h
theorem iv_hQ {h0 : eH} {a : Nat} {f : Nat → Nat → (Nat → Option Nat) → Option α} (h : hQ h0 a f = some z) : ∃ t n g, h0.1 a = .inl (t, n, .inr (.inr (.inr (.inr g)))) ∧ 3 ≤ t ∧ t ≤ 6 ∧ f t n g = some z := by
  unfold hQ at h
  split at h
  · next t n g e =>
    obtain ⟨h1, h2⟩ := iv_bo h
    rw [Bool.and_eq_true] at h1
    exact ⟨_, _, _, e, Nat.le_of_ble_eq_true h1.1, Nat.le_of_ble_eq_true h1.2, h2⟩
  · cases h
theorem iv_hN {h0 : eH} {a : Nat} {f : Nat → Option α} (h : hN h0 a f = some z) : ∃ t x, h0.1 a = .inl (t, x) ∧ t ≤ 6 ∧ f x.1 = some z := by
  unfold hN at h
  split at h
  · next t n g e =>
    obtain ⟨h1, h2⟩ := iv_bo h
    exact ⟨_, _, e, Nat.le_of_ble_eq_true h1, h2⟩
  · cases h
theorem iv_in {i : Int32} {n : Nat} {o : Option α} (h : inR i n o = some z) : vp_in i n ∧ o = some z := by
  unfold inR at h
  by_cases hc : i < 0 ∨ n ≤ i.toNatClampNeg
  · rw [if_pos hc] at h; cases h
  · rw [if_neg hc] at h; exact ⟨hc, h⟩
end IV
end
section
/-! what is checked of the rows of code, and of the methods, by the kernel -/
abbrev eMI : Type := MethodName × ByteArray × Nat × Option FieldType × Bool × (Nat × Nat × Nat × Nat) × Nat × Nat × Nat
def wAt (i : Nat) (w : Cond) : Bool := lw_tbl[i]? == some w && goodWord w
theorem wAt_ok {i : Nat} {w : Cond} (h : wAt i w = true) : w ∈ gT := by
  simp only [wAt, Bool.and_eq_true, beq_iff_eq] at h
  exact gT_in i h.1 h.2
def mB (i : eMI) : Bool :=
  plainName i.1.cls && wAt i.2.2.2.2.2.1.1 (.code i.1 i.2.1 i.2.2.1 i.2.2.2.1) && (bif i.2.2.2.2.1 then wAt i.2.2.2.2.2.1.2.1 (.static i.1) else wAt i.2.2.2.2.2.1.2.1 (.instanceMethod i.1)) &&
  (i.2.2.2.2.1 || i.1.name == "<init>" || wAt i.2.2.2.2.2.1.2.2.1 (.selects i.1.cls i.1 i.1)) && wAt i.2.2.2.2.2.1.2.2.2 (.initialized i.1.cls) && (i.1.cls != "java/lang/invoke/MethodHandle" && i.1.cls != "java/lang/invoke/VarHandle") &&
  (i.2.2.2.2.1 || (match qcls[i.2.2.2.2.2.2.1]? with | some q => q.1 == i.1.cls | none => false))
def mOK (i : eMI) : Prop := plainName i.1.cls = true ∧ Cond.code i.1 i.2.1 i.2.2.1 i.2.2.2.1 ∈ gT ∧ (i.2.2.2.2.1 = true → Cond.static i.1 ∈ gT) ∧ (i.2.2.2.2.1 = false → Cond.instanceMethod i.1 ∈ gT) ∧ (i.2.2.2.2.1 = false → i.1.name ≠ "<init>" → Cond.selects i.1.cls i.1 i.1 ∈ gT) ∧ Cond.initialized i.1.cls ∈ gT ∧ (i.1.cls ≠ "java/lang/invoke/MethodHandle" ∧ i.1.cls ≠ "java/lang/invoke/VarHandle") ∧ (i.2.2.2.2.1 = false → ∃ q, qcls[i.2.2.2.2.2.2.1]? = some q ∧ q.1 = i.1.cls)
theorem mB_ok {i : eMI} (h : mB i = true) : mOK i := by
  simp only [mB, Bool.and_eq_true, Bool.or_eq_true, beq_iff_eq, bne_iff_ne, ne_eq] at h
  obtain ⟨⟨⟨⟨⟨⟨h1, h2⟩, h3⟩, h4⟩, h5⟩, h6⟩, h7⟩ := h
  refine ⟨h1, wAt_ok h2, fun hs => ?_, fun hs => ?_, fun hs hn => ?_, wAt_ok h5, h6, fun hs => ?_⟩
  · rw [hs] at h3; exact wAt_ok h3
  · rw [hs] at h3; exact wAt_ok h3
  · rcases h4 with (h4 | h4) | h4
    · rw [hs] at h4; cases h4
    · exact absurd h4 hn
    · exact wAt_ok h4
  · rcases h7 with h7 | h7
    · rw [hs] at h7; cases h7
    · split at h7
      · next q hq => exact ⟨q, hq, by simpa using h7⟩
      · cases h7
section CHK
variable (qm : Nat → eMI) (k : Nat)
/-- a call's own: the callee is an earlier method, its room fits, so many arguments -/
def cB (r : eRow) : Bool :=
  Nat.blt r.2.2.2.1 k && mB (qm r.2.2.2.1) && Nat.ble ((qm r.2.2.2.1).2.2.2.2.2.2.2.1 + 1) (qm k).2.2.2.2.2.2.2.1 && Nat.ble (8 + ((qm r.2.2.2.1).2.2.1 + 11) + (qm r.2.2.2.1).2.2.2.2.2.2.2.2) (qm k).2.2.2.2.2.2.2.2 && ((parseMethodDescriptor (qm r.2.2.2.1).1.desc).map (fun d => d.parameters.length) == some r.2.2.2.2.1)
def fB (r : eRow) (idx : Nat) : Bool := match qcls[r.2.2.2.1]? with
  | some q => Nat.blt r.2.2.2.2.1 q.2.2 && wAt r.2.2.2.2.2 (.fieldLink (qm k).1.cls idx q.1 (q.2.1 r.2.2.2.2.1).2.1 (q.2.1 r.2.2.2.2.1).2.2.1)
  | none => false
def pB (r : eRow) : Bool := match qcls[r.2.2.2.1]? with
  | some q => (q.2.1 r.2.2.2.2.1).2.2.2 == false || ((qm k).1.name == "<init>" && (qm k).1.cls == q.1)
  | none => false
def jB (r : eRow) (off : Int) : Bool := decide ((r.1 : Int) + off = (r.2.2.2.1 : Int)) && Nat.beq r.2.2.1 3
def iB (r : eRow) : Bool := match r.2.1 with
  | .aload_n _ => Nat.beq r.2.2.1 1
  | .aload _ => Nat.beq r.2.2.1 2
  | .iload_n _ => Nat.beq r.2.2.1 1
  | .iload _ => Nat.beq r.2.2.1 2
  | .lload_n _ => Nat.beq r.2.2.1 1
  | .lload _ => Nat.beq r.2.2.1 2
  | .istore_n n => Nat.beq r.2.2.1 1 && Nat.blt n.val (qm k).2.2.1
  | .istore n => Nat.beq r.2.2.1 2 && Nat.blt n (qm k).2.2.1
  | .astore_n n => Nat.beq r.2.2.1 1 && Nat.blt n.val (qm k).2.2.1
  | .astore n => Nat.beq r.2.2.1 2 && Nat.blt n (qm k).2.2.1
  | .lstore_n n => Nat.beq r.2.2.1 1 && Nat.blt (n.val + 1) (qm k).2.2.1
  | .lstore n => Nat.beq r.2.2.1 2 && Nat.blt (n + 1) (qm k).2.2.1
  | .iinc i _ => Nat.beq r.2.2.1 3 && Nat.blt i (qm k).2.2.1
  | .iconst _ => Nat.beq r.2.2.1 1
  | .bipush _ => Nat.beq r.2.2.1 2
  | .sipush _ => Nat.beq r.2.2.1 3
  | .lconst _ => Nat.beq r.2.2.1 1
  | .ldc i => Nat.beq r.2.2.1 2 && wAt r.2.2.2.2.2 (.constant (qm k).1.cls i (Int32.ofNat r.2.2.2.1))
  | .ldc2_w i => Nat.beq r.2.2.1 3 && wAt r.2.2.2.2.2 (.constantLong (qm k).1.cls i (bif Nat.beq r.2.2.2.2.1 0 then Int64.ofNat r.2.2.2.1 else -Int64.ofNat r.2.2.2.1))
  | .iadd => Nat.beq r.2.2.1 1
  | .isub => Nat.beq r.2.2.1 1
  | .imul => Nat.beq r.2.2.1 1
  | .iand => Nat.beq r.2.2.1 1
  | .ior => Nat.beq r.2.2.1 1
  | .ishr => Nat.beq r.2.2.1 1
  | .iushr => Nat.beq r.2.2.1 1
  | .idiv => Nat.beq r.2.2.1 1
  | .irem => Nat.beq r.2.2.1 1
  | .ineg => Nat.beq r.2.2.1 1
  | .ladd => Nat.beq r.2.2.1 1
  | .lsub => Nat.beq r.2.2.1 1
  | .lmul => Nat.beq r.2.2.1 1
  | .land => Nat.beq r.2.2.1 1
  | .lor => Nat.beq r.2.2.1 1
  | .lxor => Nat.beq r.2.2.1 1
  | .ldiv => Nat.beq r.2.2.1 1
  | .lrem => Nat.beq r.2.2.1 1
  | .lneg => Nat.beq r.2.2.1 1
  | .lshl => Nat.beq r.2.2.1 1
  | .lcmp => Nat.beq r.2.2.1 1
  | .i2l => Nat.beq r.2.2.1 1
  | .l2i => Nat.beq r.2.2.1 1
  | .i2b => Nat.beq r.2.2.1 1
  | .i2s => Nat.beq r.2.2.1 1
  | .dup => Nat.beq r.2.2.1 1
  | .pop => Nat.beq r.2.2.1 1
  | .dup2 => Nat.beq r.2.2.1 1
  | .goto off => jB r off
  | .ifCond _ off => jB r off
  | .if_icmp _ off => jB r off
  | .tableswitch _ _ _ _ => true
  | .getfield i => Nat.beq r.2.2.1 3 && fB qm k r i
  | .putfield i => Nat.beq r.2.2.1 3 && fB qm k r i && pB qm k r
  | .iaload => Nat.beq r.2.2.1 1
  | .baload => Nat.beq r.2.2.1 1
  | .laload => Nat.beq r.2.2.1 1
  | .aaload => Nat.beq r.2.2.1 1
  | .iastore => Nat.beq r.2.2.1 1
  | .bastore => Nat.beq r.2.2.1 1
  | .lastore => Nat.beq r.2.2.1 1
  | .aastore => Nat.beq r.2.2.1 1
  | .arraylength => Nat.beq r.2.2.1 1
  | .new i => Nat.beq r.2.2.1 3 && (match qcls[r.2.2.2.1]? with | some q => wAt r.2.2.2.2.2 (.classLink (qm k).1.cls i q.1) | none => false)
  | .newarray a => Nat.beq r.2.2.1 2 && wAt r.2.2.2.2.2 (.arrayClass (newarray.typeOf a))
  | .anewarray i => Nat.beq r.2.2.1 3 && ((Nat.beq r.2.2.2.1 3 && wAt r.2.2.2.2.2 (.classLink (qm k).1.cls i "TensionNet$Whole")) || (Nat.beq r.2.2.2.1 4 && wAt r.2.2.2.2.2 (.classLink (qm k).1.cls i "TensionNet$Triple")))
  | .multianewarray i d => Nat.beq r.2.2.1 4 && Nat.beq d 2 && ((Nat.beq r.2.2.2.1 5 && Nat.beq r.2.2.2.2.1 0 && wAt r.2.2.2.2.2 (.classLink (qm k).1.cls i ("[" ++ (FieldType.array .int).toString))) || (Nat.beq r.2.2.2.1 6 && Nat.beq r.2.2.2.2.1 1 && wAt r.2.2.2.2.2 (.classLink (qm k).1.cls i ("[" ++ (FieldType.array .long).toString))))
  | .invokevirtual i => Nat.beq r.2.2.1 3 && cB qm k r && !(qm r.2.2.2.1).2.2.2.2.1 && (qm r.2.2.2.1).1.name != "<init>" && wAt r.2.2.2.2.2 (.methodLink (qm k).1.cls i (qm r.2.2.2.1).1)
  | .invokespecial i => Nat.beq r.2.2.1 3 && (bif Nat.beq r.2.2.2.1 9999 then wAt r.2.2.2.2.2 (.methodLink (qm k).1.cls i objectInit) && Nat.ble 1 (qm k).2.2.2.2.2.2.2.1 && Nat.ble 20 (qm k).2.2.2.2.2.2.2.2 else
      (cB qm k r && !(qm r.2.2.2.1).2.2.2.2.1 && (qm r.2.2.2.1).1.name == "<init>" && (qm r.2.2.2.1).2.2.2.1 == none && (wAt r.2.2.2.2.2 (.methodLink (qm k).1.cls i (qm r.2.2.2.1).1) || decide (((qm k).1.cls, i, (qm r.2.2.2.1).1) ∈ qNe))))
  | .invokestatic i => Nat.beq r.2.2.1 3 && (bif Nat.beq r.2.2.2.1 9998 then wAt r.2.2.2.2.2 (.methodLink (qm k).1.cls i arraycopyName) && Nat.ble 1 (qm k).2.2.2.2.2.2.2.1 && Nat.ble 40 (qm k).2.2.2.2.2.2.2.2 else
      (cB qm k r && (qm r.2.2.2.1).2.2.2.2.1 && wAt r.2.2.2.2.2 (.methodLink (qm k).1.cls i (qm r.2.2.2.1).1)))
  | .ireturn => Nat.beq r.2.2.1 1 && ((Nat.beq r.2.2.2.1 0 && (qm k).2.2.2.1 == some .int) || (Nat.beq r.2.2.2.1 1 && (qm k).2.2.2.1 == some .boolean))
  | .lreturn => Nat.beq r.2.2.1 1 && (qm k).2.2.2.1 == some .long
  | .areturn => Nat.beq r.2.2.1 1 && (qm k).2.2.2.1 == some (.object "TensionNet$Whole")
  | .return_ => Nat.beq r.2.2.1 1 && (qm k).2.2.2.1 == none
  | _ => false
def rB (r : eRow) : Bool := decide (decode (qm k).2.1 r.1 = .ok (r.2.1, r.2.2.1)) && iB qm k r
end CHK
theorem qObjI : Cond.instanceMethod objectInit ∈ gT ∧ Cond.code objectInit ⟨#[0xb1]⟩ 1 none ∈ gT := ⟨wAt_ok (i := 91) (by decide +kernel), wAt_ok (i := 92) (by decide +kernel)⟩
theorem qCpyW : Cond.native arraycopyName ∈ gT ∧ Cond.static arraycopyName ∈ gT ∧ Cond.initialized "java/lang/System" ∈ gT := ⟨wAt_ok (i := 628) (by decide +kernel), wAt_ok (i := 627) (by decide +kernel), wAt_ok (i := 84) (by decide +kernel)⟩
theorem qArrW : Cond.arrayClass .int ∈ gT ∧ Cond.arrayClass .long ∈ gT ∧ Cond.arrayClass .boolean ∈ gT := ⟨wAt_ok (i := 125) (by decide +kernel), wAt_ok (i := 124) (by decide +kernel), wAt_ok (i := 340) (by decide +kernel)⟩
end
