section
-- ===== PART A: goes FIRST, ahead of the names: the tables' words, and 'selects' of the private methods out of them =====
/-- a private method of a class that the tables say can be made, by its rows of tables_1 -/
def lw_okq (q : MethodName × Nat) : Prop := (q.1.cls ≠ "java/lang/invoke/MethodHandle" ∧ q.1.cls ≠ "java/lang/invoke/VarHandle") ∧ Cond.instantiable q.1.cls q.2 ∈ tables_1 ∧ Cond.privateMethod q.1 ∈ tables_1 ∧ Cond.instanceMethod q.1 ∈ tables_1
theorem lw_p0 : lw_okq (⟨"TensionNet$Net", "readJoints", "(LTensionNet$Slots;)V"⟩, 10) := ⟨⟨by decide +kernel, by decide +kernel⟩, List.mem_of_getElem? (i := 305) (by decide +kernel), List.mem_of_getElem? (i := 458) (by decide +kernel), List.mem_of_getElem? (i := 459) (by decide +kernel)⟩
theorem lw_p1 : lw_okq (⟨"TensionNet$Net", "readMembers", "(LTensionNet$Slots;)V"⟩, 10) := ⟨⟨by decide +kernel, by decide +kernel⟩, List.mem_of_getElem? (i := 305) (by decide +kernel), List.mem_of_getElem? (i := 466) (by decide +kernel), List.mem_of_getElem? (i := 467) (by decide +kernel)⟩
theorem lw_p2 : lw_okq (⟨"TensionNet$Net", "span", "(II)I"⟩, 10) := ⟨⟨by decide +kernel, by decide +kernel⟩, List.mem_of_getElem? (i := 305) (by decide +kernel), List.mem_of_getElem? (i := 470) (by decide +kernel), List.mem_of_getElem? (i := 471) (by decide +kernel)⟩
theorem lw_p3 : lw_okq (⟨"TensionNet", "forgetNet", "()V"⟩, 17) := ⟨⟨by decide +kernel, by decide +kernel⟩, List.mem_of_getElem? (i := 18) (by decide +kernel), List.mem_of_getElem? (i := 479) (by decide +kernel), List.mem_of_getElem? (i := 480) (by decide +kernel)⟩
theorem lw_p4 : lw_okq (⟨"TensionNet", "knowForces", "(Z)V"⟩, 17) := ⟨⟨by decide +kernel, by decide +kernel⟩, List.mem_of_getElem? (i := 18) (by decide +kernel), List.mem_of_getElem? (i := 506) (by decide +kernel), List.mem_of_getElem? (i := 507) (by decide +kernel)⟩
theorem lw_p5 : lw_okq (⟨"TensionNet$Grid", "holds", "(II)Z"⟩, 13) := ⟨⟨by decide +kernel, by decide +kernel⟩, List.mem_of_getElem? (i := 174) (by decide +kernel), List.mem_of_getElem? (i := 534) (by decide +kernel), List.mem_of_getElem? (i := 535) (by decide +kernel)⟩
theorem lw_p6 : lw_okq (⟨"TensionNet$Grid", "firstRowWith", "(I)I"⟩, 13) := ⟨⟨by decide +kernel, by decide +kernel⟩, List.mem_of_getElem? (i := 174) (by decide +kernel), List.mem_of_getElem? (i := 547) (by decide +kernel), List.mem_of_getElem? (i := 548) (by decide +kernel)⟩
theorem lw_p7 : lw_okq (⟨"TensionNet$Grid", "swapRows", "(II)V"⟩, 13) := ⟨⟨by decide +kernel, by decide +kernel⟩, List.mem_of_getElem? (i := 174) (by decide +kernel), List.mem_of_getElem? (i := 566) (by decide +kernel), List.mem_of_getElem? (i := 567) (by decide +kernel)⟩
theorem lw_p8 : lw_okq (⟨"TensionNet$Grid", "clearCell", "(II)V"⟩, 13) := ⟨⟨by decide +kernel, by decide +kernel⟩, List.mem_of_getElem? (i := 174) (by decide +kernel), List.mem_of_getElem? (i := 574) (by decide +kernel), List.mem_of_getElem? (i := 575) (by decide +kernel)⟩
theorem lw_p9 : lw_okq (⟨"TensionNet$Whole", "fit", "(I)I"⟩, 3) := ⟨⟨by decide +kernel, by decide +kernel⟩, List.mem_of_getElem? (i := 65) (by decide +kernel), List.mem_of_getElem? (i := 582) (by decide +kernel), List.mem_of_getElem? (i := 583) (by decide +kernel)⟩
theorem lw_p10 : lw_okq (⟨"TensionNet$Divider", "takeDigit", "([II)I"⟩, 4) := ⟨⟨by decide +kernel, by decide +kernel⟩, List.mem_of_getElem? (i := 119) (by decide +kernel), List.mem_of_getElem? (i := 633) (by decide +kernel), List.mem_of_getElem? (i := 634) (by decide +kernel)⟩
theorem lw_p11 : lw_okq (⟨"TensionNet$Divider", "giveBack", "([II)V"⟩, 4) := ⟨⟨by decide +kernel, by decide +kernel⟩, List.mem_of_getElem? (i := 119) (by decide +kernel), List.mem_of_getElem? (i := 642) (by decide +kernel), List.mem_of_getElem? (i := 643) (by decide +kernel)⟩
theorem lw_p12 : lw_okq (⟨"TensionNet$Grid", "freeColumn", "(I)I"⟩, 13) := ⟨⟨by decide +kernel, by decide +kernel⟩, List.mem_of_getElem? (i := 174) (by decide +kernel), List.mem_of_getElem? (i := 660) (by decide +kernel), List.mem_of_getElem? (i := 661) (by decide +kernel)⟩
theorem lw_p13 : lw_okq (⟨"TensionNet$Fraction", "lower", "(LTensionNet$Whole;LTensionNet$Whole;LTensionNet$Divider;)V"⟩, 3) := ⟨⟨by decide +kernel, by decide +kernel⟩, List.mem_of_getElem? (i := 59) (by decide +kernel), List.mem_of_getElem? (i := 683) (by decide +kernel), List.mem_of_getElem? (i := 684) (by decide +kernel)⟩
theorem lw_p14 : lw_okq (⟨"TensionNet", "knowMoves", "()V"⟩, 17) := ⟨⟨by decide +kernel, by decide +kernel⟩, List.mem_of_getElem? (i := 18) (by decide +kernel), List.mem_of_getElem? (i := 692) (by decide +kernel), List.mem_of_getElem? (i := 693) (by decide +kernel)⟩
theorem lw_p15 : lw_okq (⟨"TensionNet", "knowPlaces", "()V"⟩, 17) := ⟨⟨by decide +kernel, by decide +kernel⟩, List.mem_of_getElem? (i := 18) (by decide +kernel), List.mem_of_getElem? (i := 749) (by decide +kernel), List.mem_of_getElem? (i := 750) (by decide +kernel)⟩
def lw_privs_1 : List (MethodName × Nat) := [(⟨"TensionNet$Net", "readJoints", "(LTensionNet$Slots;)V"⟩, 10), (⟨"TensionNet$Net", "readMembers", "(LTensionNet$Slots;)V"⟩, 10), (⟨"TensionNet$Net", "span", "(II)I"⟩, 10), (⟨"TensionNet", "forgetNet", "()V"⟩, 17), (⟨"TensionNet", "knowForces", "(Z)V"⟩, 17), (⟨"TensionNet$Grid", "holds", "(II)Z"⟩, 13), (⟨"TensionNet$Grid", "firstRowWith", "(I)I"⟩, 13), (⟨"TensionNet$Grid", "swapRows", "(II)V"⟩, 13), (⟨"TensionNet$Grid", "clearCell", "(II)V"⟩, 13), (⟨"TensionNet$Whole", "fit", "(I)I"⟩, 3), (⟨"TensionNet$Divider", "takeDigit", "([II)I"⟩, 4), (⟨"TensionNet$Divider", "giveBack", "([II)V"⟩, 4), (⟨"TensionNet$Grid", "freeColumn", "(I)I"⟩, 13), (⟨"TensionNet$Fraction", "lower", "(LTensionNet$Whole;LTensionNet$Whole;LTensionNet$Divider;)V"⟩, 3), (⟨"TensionNet", "knowMoves", "()V"⟩, 17), (⟨"TensionNet", "knowPlaces", "()V"⟩, 17)]
theorem lw_r1 : ∀ q ∈ lw_privs_1, lw_okq q := List.forall_mem_cons.mpr ⟨lw_p0, List.forall_mem_cons.mpr ⟨lw_p1, List.forall_mem_cons.mpr ⟨lw_p2, List.forall_mem_cons.mpr ⟨lw_p3, List.forall_mem_cons.mpr ⟨lw_p4, List.forall_mem_cons.mpr ⟨lw_p5, List.forall_mem_cons.mpr ⟨lw_p6, List.forall_mem_cons.mpr ⟨lw_p7, List.forall_mem_cons.mpr ⟨lw_p8, List.forall_mem_cons.mpr ⟨lw_p9, List.forall_mem_cons.mpr ⟨lw_p10, List.forall_mem_cons.mpr ⟨lw_p11, List.forall_mem_cons.mpr ⟨lw_p12, List.forall_mem_cons.mpr ⟨lw_p13, List.forall_mem_cons.mpr ⟨lw_p14, List.forall_mem_cons.mpr ⟨lw_p15, fun _ h => absurd h List.not_mem_nil⟩⟩⟩⟩⟩⟩⟩⟩⟩⟩⟩⟩⟩⟩⟩⟩
theorem lw_p16 : lw_okq (⟨"TensionNet$Net", "addHold", "(LTensionNet$Grid;III)V"⟩, 10) := ⟨⟨by decide +kernel, by decide +kernel⟩, List.mem_of_getElem? (i := 305) (by decide +kernel), List.mem_of_getElem? (i := 757) (by decide +kernel), List.mem_of_getElem? (i := 758) (by decide +kernel)⟩
theorem lw_p17 : lw_okq (⟨"TensionNet$Cone", "begin", "(LTensionNet$Net;LTensionNet$Grid;)V"⟩, 8) := ⟨⟨by decide +kernel, by decide +kernel⟩, List.mem_of_getElem? (i := 225) (by decide +kernel), List.mem_of_getElem? (i := 774) (by decide +kernel), List.mem_of_getElem? (i := 775) (by decide +kernel)⟩
theorem lw_p18 : lw_okq (⟨"TensionNet$Cone", "allReached", "()Z"⟩, 8) := ⟨⟨by decide +kernel, by decide +kernel⟩, List.mem_of_getElem? (i := 225) (by decide +kernel), List.mem_of_getElem? (i := 780) (by decide +kernel), List.mem_of_getElem? (i := 781) (by decide +kernel)⟩
theorem lw_p19 : lw_okq (⟨"TensionNet$Cone", "tryRay", "(LTensionNet$Triple;)V"⟩, 8) := ⟨⟨by decide +kernel, by decide +kernel⟩, List.mem_of_getElem? (i := 225) (by decide +kernel), List.mem_of_getElem? (i := 784) (by decide +kernel), List.mem_of_getElem? (i := 785) (by decide +kernel)⟩
theorem lw_p20 : lw_okq (⟨"TensionNet$Cone", "signOfProduct", "(LTensionNet$Triple;LTensionNet$Triple;)I"⟩, 8) := ⟨⟨by decide +kernel, by decide +kernel⟩, List.mem_of_getElem? (i := 225) (by decide +kernel), List.mem_of_getElem? (i := 792) (by decide +kernel), List.mem_of_getElem? (i := 793) (by decide +kernel)⟩
theorem lw_p21 : lw_okq (⟨"TensionNet$Cone", "tryPlane", "()V"⟩, 8) := ⟨⟨by decide +kernel, by decide +kernel⟩, List.mem_of_getElem? (i := 225) (by decide +kernel), List.mem_of_getElem? (i := 806) (by decide +kernel), List.mem_of_getElem? (i := 807) (by decide +kernel)⟩
theorem lw_p22 : lw_okq (⟨"TensionNet$Form", "addUp", "(LTensionNet$Net;LTensionNet$Grid;II)V"⟩, 6) := ⟨⟨by decide +kernel, by decide +kernel⟩, List.mem_of_getElem? (i := 274) (by decide +kernel), List.mem_of_getElem? (i := 820) (by decide +kernel), List.mem_of_getElem? (i := 821) (by decide +kernel)⟩
theorem lw_p23 : lw_okq (⟨"TensionNet$Form", "fetchGap", "(LTensionNet$Whole;LTensionNet$Grid;III)V"⟩, 6) := ⟨⟨by decide +kernel, by decide +kernel⟩, List.mem_of_getElem? (i := 274) (by decide +kernel), List.mem_of_getElem? (i := 827) (by decide +kernel), List.mem_of_getElem? (i := 828) (by decide +kernel)⟩
theorem lw_p24 : lw_okq (⟨"TensionNetModel", "set", "(IJ)V"⟩, 24) := ⟨⟨by decide +kernel, by decide +kernel⟩, List.mem_of_getElem? (i := 870) (by decide +kernel), List.mem_of_getElem? (i := 876) (by decide +kernel), List.mem_of_getElem? (i := 877) (by decide +kernel)⟩
theorem lw_p25 : lw_okq (⟨"TensionNetModel", "carry", "(I)V"⟩, 24) := ⟨⟨by decide +kernel, by decide +kernel⟩, List.mem_of_getElem? (i := 870) (by decide +kernel), List.mem_of_getElem? (i := 880) (by decide +kernel), List.mem_of_getElem? (i := 881) (by decide +kernel)⟩
theorem lw_p26 : lw_okq (⟨"TensionNetModel", "isApart", "(II)Z"⟩, 24) := ⟨⟨by decide +kernel, by decide +kernel⟩, List.mem_of_getElem? (i := 870) (by decide +kernel), List.mem_of_getElem? (i := 987) (by decide +kernel), List.mem_of_getElem? (i := 988) (by decide +kernel)⟩
theorem lw_p27 : lw_okq (⟨"TensionNetModel", "isJoint", "(I)Z"⟩, 24) := ⟨⟨by decide +kernel, by decide +kernel⟩, List.mem_of_getElem? (i := 870) (by decide +kernel), List.mem_of_getElem? (i := 996) (by decide +kernel), List.mem_of_getElem? (i := 997) (by decide +kernel)⟩
theorem lw_p28 : lw_okq (⟨"TensionNetModel", "isMember", "(I)Z"⟩, 24) := ⟨⟨by decide +kernel, by decide +kernel⟩, List.mem_of_getElem? (i := 870) (by decide +kernel), List.mem_of_getElem? (i := 1007) (by decide +kernel), List.mem_of_getElem? (i := 1008) (by decide +kernel)⟩
theorem lw_p29 : lw_okq (⟨"TensionNetModel", "evens", "()V"⟩, 24) := ⟨⟨by decide +kernel, by decide +kernel⟩, List.mem_of_getElem? (i := 870) (by decide +kernel), List.mem_of_getElem? (i := 1015) (by decide +kernel), List.mem_of_getElem? (i := 1016) (by decide +kernel)⟩
theorem lw_p30 : lw_okq (⟨"TensionNetModel", "free", "()I"⟩, 24) := ⟨⟨by decide +kernel, by decide +kernel⟩, List.mem_of_getElem? (i := 870) (by decide +kernel), List.mem_of_getElem? (i := 1019) (by decide +kernel), List.mem_of_getElem? (i := 1020) (by decide +kernel)⟩
theorem lw_p31 : lw_okq (⟨"TensionNetModel", "freeOf", "(I)I"⟩, 24) := ⟨⟨by decide +kernel, by decide +kernel⟩, List.mem_of_getElem? (i := 870) (by decide +kernel), List.mem_of_getElem? (i := 1023) (by decide +kernel), List.mem_of_getElem? (i := 1024) (by decide +kernel)⟩
def lw_privs_2 : List (MethodName × Nat) := [(⟨"TensionNet$Net", "addHold", "(LTensionNet$Grid;III)V"⟩, 10), (⟨"TensionNet$Cone", "begin", "(LTensionNet$Net;LTensionNet$Grid;)V"⟩, 8), (⟨"TensionNet$Cone", "allReached", "()Z"⟩, 8), (⟨"TensionNet$Cone", "tryRay", "(LTensionNet$Triple;)V"⟩, 8), (⟨"TensionNet$Cone", "signOfProduct", "(LTensionNet$Triple;LTensionNet$Triple;)I"⟩, 8), (⟨"TensionNet$Cone", "tryPlane", "()V"⟩, 8), (⟨"TensionNet$Form", "addUp", "(LTensionNet$Net;LTensionNet$Grid;II)V"⟩, 6), (⟨"TensionNet$Form", "fetchGap", "(LTensionNet$Whole;LTensionNet$Grid;III)V"⟩, 6), (⟨"TensionNetModel", "set", "(IJ)V"⟩, 24), (⟨"TensionNetModel", "carry", "(I)V"⟩, 24), (⟨"TensionNetModel", "isApart", "(II)Z"⟩, 24), (⟨"TensionNetModel", "isJoint", "(I)Z"⟩, 24), (⟨"TensionNetModel", "isMember", "(I)Z"⟩, 24), (⟨"TensionNetModel", "evens", "()V"⟩, 24), (⟨"TensionNetModel", "free", "()I"⟩, 24), (⟨"TensionNetModel", "freeOf", "(I)I"⟩, 24)]
theorem lw_r2 : ∀ q ∈ lw_privs_2, lw_okq q := List.forall_mem_cons.mpr ⟨lw_p16, List.forall_mem_cons.mpr ⟨lw_p17, List.forall_mem_cons.mpr ⟨lw_p18, List.forall_mem_cons.mpr ⟨lw_p19, List.forall_mem_cons.mpr ⟨lw_p20, List.forall_mem_cons.mpr ⟨lw_p21, List.forall_mem_cons.mpr ⟨lw_p22, List.forall_mem_cons.mpr ⟨lw_p23, List.forall_mem_cons.mpr ⟨lw_p24, List.forall_mem_cons.mpr ⟨lw_p25, List.forall_mem_cons.mpr ⟨lw_p26, List.forall_mem_cons.mpr ⟨lw_p27, List.forall_mem_cons.mpr ⟨lw_p28, List.forall_mem_cons.mpr ⟨lw_p29, List.forall_mem_cons.mpr ⟨lw_p30, List.forall_mem_cons.mpr ⟨lw_p31, fun _ h => absurd h List.not_mem_nil⟩⟩⟩⟩⟩⟩⟩⟩⟩⟩⟩⟩⟩⟩⟩⟩
theorem lw_p32 : lw_okq (⟨"TensionNetModel", "cell", "(II)I"⟩, 24) := ⟨⟨by decide +kernel, by decide +kernel⟩, List.mem_of_getElem? (i := 870) (by decide +kernel), List.mem_of_getElem? (i := 1027) (by decide +kernel), List.mem_of_getElem? (i := 1028) (by decide +kernel)⟩
theorem lw_p33 : lw_okq (⟨"TensionNetModel", "far", "(III)I"⟩, 24) := ⟨⟨by decide +kernel, by decide +kernel⟩, List.mem_of_getElem? (i := 870) (by decide +kernel), List.mem_of_getElem? (i := 1031) (by decide +kernel), List.mem_of_getElem? (i := 1032) (by decide +kernel)⟩
theorem lw_p34 : lw_okq (⟨"TensionNetModel", "clear", "(I)V"⟩, 24) := ⟨⟨by decide +kernel, by decide +kernel⟩, List.mem_of_getElem? (i := 870) (by decide +kernel), List.mem_of_getElem? (i := 1035) (by decide +kernel), List.mem_of_getElem? (i := 1036) (by decide +kernel)⟩
theorem lw_p35 : lw_okq (⟨"TensionNetModel", "isZero", "(I)Z"⟩, 24) := ⟨⟨by decide +kernel, by decide +kernel⟩, List.mem_of_getElem? (i := 870) (by decide +kernel), List.mem_of_getElem? (i := 1039) (by decide +kernel), List.mem_of_getElem? (i := 1040) (by decide +kernel)⟩
theorem lw_p36 : lw_okq (⟨"TensionNetModel", "copy", "(II)V"⟩, 24) := ⟨⟨by decide +kernel, by decide +kernel⟩, List.mem_of_getElem? (i := 870) (by decide +kernel), List.mem_of_getElem? (i := 1043) (by decide +kernel), List.mem_of_getElem? (i := 1044) (by decide +kernel)⟩
theorem lw_p37 : lw_okq (⟨"TensionNetModel", "clears", "(II)V"⟩, 24) := ⟨⟨by decide +kernel, by decide +kernel⟩, List.mem_of_getElem? (i := 870) (by decide +kernel), List.mem_of_getElem? (i := 1047) (by decide +kernel), List.mem_of_getElem? (i := 1048) (by decide +kernel)⟩
theorem lw_p38 : lw_okq (⟨"TensionNetModel", "times", "(III)V"⟩, 24) := ⟨⟨by decide +kernel, by decide +kernel⟩, List.mem_of_getElem? (i := 870) (by decide +kernel), List.mem_of_getElem? (i := 1051) (by decide +kernel), List.mem_of_getElem? (i := 1052) (by decide +kernel)⟩
theorem lw_p39 : lw_okq (⟨"TensionNetModel", "isBelow", "(I)Z"⟩, 24) := ⟨⟨by decide +kernel, by decide +kernel⟩, List.mem_of_getElem? (i := 870) (by decide +kernel), List.mem_of_getElem? (i := 1055) (by decide +kernel), List.mem_of_getElem? (i := 1056) (by decide +kernel)⟩
theorem lw_p40 : lw_okq (⟨"TensionNetModel", "bare", "(I[J)V"⟩, 24) := ⟨⟨by decide +kernel, by decide +kernel⟩, List.mem_of_getElem? (i := 870) (by decide +kernel), List.mem_of_getElem? (i := 1059) (by decide +kernel), List.mem_of_getElem? (i := 1060) (by decide +kernel)⟩
theorem lw_p41 : lw_okq (⟨"TensionNetModel", "turn", "(I)V"⟩, 24) := ⟨⟨by decide +kernel, by decide +kernel⟩, List.mem_of_getElem? (i := 870) (by decide +kernel), List.mem_of_getElem? (i := 1063) (by decide +kernel), List.mem_of_getElem? (i := 1064) (by decide +kernel)⟩
theorem lw_p42 : lw_okq (⟨"TensionNetModel", "more", "(IIJ)V"⟩, 24) := ⟨⟨by decide +kernel, by decide +kernel⟩, List.mem_of_getElem? (i := 870) (by decide +kernel), List.mem_of_getElem? (i := 1071) (by decide +kernel), List.mem_of_getElem? (i := 1072) (by decide +kernel)⟩
theorem lw_p43 : lw_okq (⟨"TensionNetModel", "parts", "(II)V"⟩, 24) := ⟨⟨by decide +kernel, by decide +kernel⟩, List.mem_of_getElem? (i := 870) (by decide +kernel), List.mem_of_getElem? (i := 1075) (by decide +kernel), List.mem_of_getElem? (i := 1076) (by decide +kernel)⟩
theorem lw_p44 : lw_okq (⟨"TensionNetModel", "goesInto", "(JII)Z"⟩, 24) := ⟨⟨by decide +kernel, by decide +kernel⟩, List.mem_of_getElem? (i := 870) (by decide +kernel), List.mem_of_getElem? (i := 1080) (by decide +kernel), List.mem_of_getElem? (i := 1081) (by decide +kernel)⟩
theorem lw_p45 : lw_okq (⟨"TensionNetModel", "freeColumn", "(II)I"⟩, 24) := ⟨⟨by decide +kernel, by decide +kernel⟩, List.mem_of_getElem? (i := 870) (by decide +kernel), List.mem_of_getElem? (i := 1088) (by decide +kernel), List.mem_of_getElem? (i := 1089) (by decide +kernel)⟩
theorem lw_p46 : lw_okq (⟨"TensionNetModel", "basic", "(II)V"⟩, 24) := ⟨⟨by decide +kernel, by decide +kernel⟩, List.mem_of_getElem? (i := 870) (by decide +kernel), List.mem_of_getElem? (i := 1092) (by decide +kernel), List.mem_of_getElem? (i := 1093) (by decide +kernel)⟩
theorem lw_p47 : lw_okq (⟨"TensionNetModel", "result", "(II)V"⟩, 24) := ⟨⟨by decide +kernel, by decide +kernel⟩, List.mem_of_getElem? (i := 870) (by decide +kernel), List.mem_of_getElem? (i := 1096) (by decide +kernel), List.mem_of_getElem? (i := 1097) (by decide +kernel)⟩
def lw_privs_3 : List (MethodName × Nat) := [(⟨"TensionNetModel", "cell", "(II)I"⟩, 24), (⟨"TensionNetModel", "far", "(III)I"⟩, 24), (⟨"TensionNetModel", "clear", "(I)V"⟩, 24), (⟨"TensionNetModel", "isZero", "(I)Z"⟩, 24), (⟨"TensionNetModel", "copy", "(II)V"⟩, 24), (⟨"TensionNetModel", "clears", "(II)V"⟩, 24), (⟨"TensionNetModel", "times", "(III)V"⟩, 24), (⟨"TensionNetModel", "isBelow", "(I)Z"⟩, 24), (⟨"TensionNetModel", "bare", "(I[J)V"⟩, 24), (⟨"TensionNetModel", "turn", "(I)V"⟩, 24), (⟨"TensionNetModel", "more", "(IIJ)V"⟩, 24), (⟨"TensionNetModel", "parts", "(II)V"⟩, 24), (⟨"TensionNetModel", "goesInto", "(JII)Z"⟩, 24), (⟨"TensionNetModel", "freeColumn", "(II)I"⟩, 24), (⟨"TensionNetModel", "basic", "(II)V"⟩, 24), (⟨"TensionNetModel", "result", "(II)V"⟩, 24)]
theorem lw_r3 : ∀ q ∈ lw_privs_3, lw_okq q := List.forall_mem_cons.mpr ⟨lw_p32, List.forall_mem_cons.mpr ⟨lw_p33, List.forall_mem_cons.mpr ⟨lw_p34, List.forall_mem_cons.mpr ⟨lw_p35, List.forall_mem_cons.mpr ⟨lw_p36, List.forall_mem_cons.mpr ⟨lw_p37, List.forall_mem_cons.mpr ⟨lw_p38, List.forall_mem_cons.mpr ⟨lw_p39, List.forall_mem_cons.mpr ⟨lw_p40, List.forall_mem_cons.mpr ⟨lw_p41, List.forall_mem_cons.mpr ⟨lw_p42, List.forall_mem_cons.mpr ⟨lw_p43, List.forall_mem_cons.mpr ⟨lw_p44, List.forall_mem_cons.mpr ⟨lw_p45, List.forall_mem_cons.mpr ⟨lw_p46, List.forall_mem_cons.mpr ⟨lw_p47, fun _ h => absurd h List.not_mem_nil⟩⟩⟩⟩⟩⟩⟩⟩⟩⟩⟩⟩⟩⟩⟩⟩
theorem lw_p48 : lw_okq (⟨"TensionNetModel", "isEven", "(I)Z"⟩, 24) := ⟨⟨by decide +kernel, by decide +kernel⟩, List.mem_of_getElem? (i := 870) (by decide +kernel), List.mem_of_getElem? (i := 1100) (by decide +kernel), List.mem_of_getElem? (i := 1101) (by decide +kernel)⟩
theorem lw_p49 : lw_okq (⟨"TensionNetModel", "half", "(I)V"⟩, 24) := ⟨⟨by decide +kernel, by decide +kernel⟩, List.mem_of_getElem? (i := 870) (by decide +kernel), List.mem_of_getElem? (i := 1104) (by decide +kernel), List.mem_of_getElem? (i := 1105) (by decide +kernel)⟩
theorem lw_p50 : lw_okq (⟨"TensionNetModel", "isLess", "(II)Z"⟩, 24) := ⟨⟨by decide +kernel, by decide +kernel⟩, List.mem_of_getElem? (i := 870) (by decide +kernel), List.mem_of_getElem? (i := 1108) (by decide +kernel), List.mem_of_getElem? (i := 1109) (by decide +kernel)⟩
theorem lw_p51 : lw_okq (⟨"TensionNetModel", "moves", "()V"⟩, 24) := ⟨⟨by decide +kernel, by decide +kernel⟩, List.mem_of_getElem? (i := 870) (by decide +kernel), List.mem_of_getElem? (i := 1116) (by decide +kernel), List.mem_of_getElem? (i := 1117) (by decide +kernel)⟩
theorem lw_p52 : lw_okq (⟨"TensionNetModel", "isEvenTold", "(Z)Z"⟩, 24) := ⟨⟨by decide +kernel, by decide +kernel⟩, List.mem_of_getElem? (i := 870) (by decide +kernel), List.mem_of_getElem? (i := 1128) (by decide +kernel), List.mem_of_getElem? (i := 1129) (by decide +kernel)⟩
theorem lw_p53 : lw_okq (⟨"TensionNetModel", "leftOf", "(IIZ)J"⟩, 24) := ⟨⟨by decide +kernel, by decide +kernel⟩, List.mem_of_getElem? (i := 870) (by decide +kernel), List.mem_of_getElem? (i := 1132) (by decide +kernel), List.mem_of_getElem? (i := 1133) (by decide +kernel)⟩
theorem lw_p54 : lw_okq (⟨"TensionNetModel", "isBorne", "()Z"⟩, 24) := ⟨⟨by decide +kernel, by decide +kernel⟩, List.mem_of_getElem? (i := 870) (by decide +kernel), List.mem_of_getElem? (i := 1144) (by decide +kernel), List.mem_of_getElem? (i := 1145) (by decide +kernel)⟩
theorem lw_p55 : lw_okq (⟨"TensionNetModel", "isShaped", "()Z"⟩, 24) := ⟨⟨by decide +kernel, by decide +kernel⟩, List.mem_of_getElem? (i := 870) (by decide +kernel), List.mem_of_getElem? (i := 1156) (by decide +kernel), List.mem_of_getElem? (i := 1157) (by decide +kernel)⟩
theorem lw_p56 : lw_okq (⟨"TensionNetModel", "cone", "(II)I"⟩, 24) := ⟨⟨by decide +kernel, by decide +kernel⟩, List.mem_of_getElem? (i := 870) (by decide +kernel), List.mem_of_getElem? (i := 1168) (by decide +kernel), List.mem_of_getElem? (i := 1169) (by decide +kernel)⟩
theorem lw_p57 : lw_okq (⟨"TensionNetModel", "isTight", "()Z"⟩, 24) := ⟨⟨by decide +kernel, by decide +kernel⟩, List.mem_of_getElem? (i := 870) (by decide +kernel), List.mem_of_getElem? (i := 1172) (by decide +kernel), List.mem_of_getElem? (i := 1173) (by decide +kernel)⟩
theorem lw_p58 : lw_okq (⟨"TensionNetModel", "comesBoth", "(II)V"⟩, 24) := ⟨⟨by decide +kernel, by decide +kernel⟩, List.mem_of_getElem? (i := 870) (by decide +kernel), List.mem_of_getElem? (i := 1176) (by decide +kernel), List.mem_of_getElem? (i := 1177) (by decide +kernel)⟩
theorem lw_p59 : lw_okq (⟨"TensionNetModel", "comes", "(II)V"⟩, 24) := ⟨⟨by decide +kernel, by decide +kernel⟩, List.mem_of_getElem? (i := 870) (by decide +kernel), List.mem_of_getElem? (i := 1180) (by decide +kernel), List.mem_of_getElem? (i := 1181) (by decide +kernel)⟩
theorem lw_p60 : lw_okq (⟨"TensionNetModel", "product", "(II)I"⟩, 24) := ⟨⟨by decide +kernel, by decide +kernel⟩, List.mem_of_getElem? (i := 870) (by decide +kernel), List.mem_of_getElem? (i := 1184) (by decide +kernel), List.mem_of_getElem? (i := 1185) (by decide +kernel)⟩
theorem lw_p61 : lw_okq (⟨"TensionNetModel", "sign", "(I)I"⟩, 24) := ⟨⟨by decide +kernel, by decide +kernel⟩, List.mem_of_getElem? (i := 870) (by decide +kernel), List.mem_of_getElem? (i := 1188) (by decide +kernel), List.mem_of_getElem? (i := 1189) (by decide +kernel)⟩
theorem lw_p62 : lw_okq (⟨"TensionNetModel", "cross", "(III)V"⟩, 24) := ⟨⟨by decide +kernel, by decide +kernel⟩, List.mem_of_getElem? (i := 870) (by decide +kernel), List.mem_of_getElem? (i := 1192) (by decide +kernel), List.mem_of_getElem? (i := 1193) (by decide +kernel)⟩
theorem lw_p63 : lw_okq (⟨"TensionNetModel", "kept", "(II)I"⟩, 24) := ⟨⟨by decide +kernel, by decide +kernel⟩, List.mem_of_getElem? (i := 870) (by decide +kernel), List.mem_of_getElem? (i := 1200) (by decide +kernel), List.mem_of_getElem? (i := 1201) (by decide +kernel)⟩
def lw_privs_4 : List (MethodName × Nat) := [(⟨"TensionNetModel", "isEven", "(I)Z"⟩, 24), (⟨"TensionNetModel", "half", "(I)V"⟩, 24), (⟨"TensionNetModel", "isLess", "(II)Z"⟩, 24), (⟨"TensionNetModel", "moves", "()V"⟩, 24), (⟨"TensionNetModel", "isEvenTold", "(Z)Z"⟩, 24), (⟨"TensionNetModel", "leftOf", "(IIZ)J"⟩, 24), (⟨"TensionNetModel", "isBorne", "()Z"⟩, 24), (⟨"TensionNetModel", "isShaped", "()Z"⟩, 24), (⟨"TensionNetModel", "cone", "(II)I"⟩, 24), (⟨"TensionNetModel", "isTight", "()Z"⟩, 24), (⟨"TensionNetModel", "comesBoth", "(II)V"⟩, 24), (⟨"TensionNetModel", "comes", "(II)V"⟩, 24), (⟨"TensionNetModel", "product", "(II)I"⟩, 24), (⟨"TensionNetModel", "sign", "(I)I"⟩, 24), (⟨"TensionNetModel", "cross", "(III)V"⟩, 24), (⟨"TensionNetModel", "kept", "(II)I"⟩, 24)]
theorem lw_r4 : ∀ q ∈ lw_privs_4, lw_okq q := List.forall_mem_cons.mpr ⟨lw_p48, List.forall_mem_cons.mpr ⟨lw_p49, List.forall_mem_cons.mpr ⟨lw_p50, List.forall_mem_cons.mpr ⟨lw_p51, List.forall_mem_cons.mpr ⟨lw_p52, List.forall_mem_cons.mpr ⟨lw_p53, List.forall_mem_cons.mpr ⟨lw_p54, List.forall_mem_cons.mpr ⟨lw_p55, List.forall_mem_cons.mpr ⟨lw_p56, List.forall_mem_cons.mpr ⟨lw_p57, List.forall_mem_cons.mpr ⟨lw_p58, List.forall_mem_cons.mpr ⟨lw_p59, List.forall_mem_cons.mpr ⟨lw_p60, List.forall_mem_cons.mpr ⟨lw_p61, List.forall_mem_cons.mpr ⟨lw_p62, List.forall_mem_cons.mpr ⟨lw_p63, fun _ h => absurd h List.not_mem_nil⟩⟩⟩⟩⟩⟩⟩⟩⟩⟩⟩⟩⟩⟩⟩⟩
theorem lw_p64 : lw_okq (⟨"TensionNetModel", "form", "(II)I"⟩, 24) := ⟨⟨by decide +kernel, by decide +kernel⟩, List.mem_of_getElem? (i := 870) (by decide +kernel), List.mem_of_getElem? (i := 1204) (by decide +kernel), List.mem_of_getElem? (i := 1205) (by decide +kernel)⟩
theorem lw_p65 : lw_okq (⟨"TensionNetModel", "apart", "(IIII)V"⟩, 24) := ⟨⟨by decide +kernel, by decide +kernel⟩, List.mem_of_getElem? (i := 870) (by decide +kernel), List.mem_of_getElem? (i := 1208) (by decide +kernel), List.mem_of_getElem? (i := 1209) (by decide +kernel)⟩
theorem lw_p66 : lw_okq (⟨"TensionNetModel", "minor", "(IIIII)V"⟩, 24) := ⟨⟨by decide +kernel, by decide +kernel⟩, List.mem_of_getElem? (i := 870) (by decide +kernel), List.mem_of_getElem? (i := 1212) (by decide +kernel), List.mem_of_getElem? (i := 1213) (by decide +kernel)⟩
theorem lw_p67 : lw_okq (⟨"TensionNetModel", "manyParts", "([J)I"⟩, 24) := ⟨⟨by decide +kernel, by decide +kernel⟩, List.mem_of_getElem? (i := 870) (by decide +kernel), List.mem_of_getElem? (i := 1220) (by decide +kernel), List.mem_of_getElem? (i := 1221) (by decide +kernel)⟩
def lw_privs_5 : List (MethodName × Nat) := [(⟨"TensionNetModel", "form", "(II)I"⟩, 24), (⟨"TensionNetModel", "apart", "(IIII)V"⟩, 24), (⟨"TensionNetModel", "minor", "(IIIII)V"⟩, 24), (⟨"TensionNetModel", "manyParts", "([J)I"⟩, 24)]
theorem lw_r5 : ∀ q ∈ lw_privs_5, lw_okq q := List.forall_mem_cons.mpr ⟨lw_p64, List.forall_mem_cons.mpr ⟨lw_p65, List.forall_mem_cons.mpr ⟨lw_p66, List.forall_mem_cons.mpr ⟨lw_p67, fun _ h => absurd h List.not_mem_nil⟩⟩⟩⟩
def lw_privs : List (MethodName × Nat) := lw_privs_1 ++ (lw_privs_2 ++ (lw_privs_3 ++ (lw_privs_4 ++ (lw_privs_5))))
def lw_tbl : List Cond := k2_sels lw_privs ++ tables_1
theorem lw_privs_ok : ∀ q ∈ lw_privs, lw_okq q := by
  show ∀ q ∈ lw_privs_1 ++ (lw_privs_2 ++ (lw_privs_3 ++ (lw_privs_4 ++ (lw_privs_5)))), lw_okq q
  exact List.forall_mem_append.mpr ⟨lw_r1, List.forall_mem_append.mpr ⟨lw_r2, List.forall_mem_append.mpr ⟨lw_r3, List.forall_mem_append.mpr ⟨lw_r4, lw_r5⟩⟩⟩⟩
-- ===== end of PART A; then your names; then what follows =====
end
section
/-! the classes of the program: names, fields in the order of the slots, their types (by program out of the papers) -/
def qF0 : u_T := fun k => match k with
  | 0 => ("TensionNet$Cone", "asked", "[LTensionNet$Triple;", true)
  | 1 => ("TensionNet$Cone", "normal", "LTensionNet$Triple;", true)
  | 2 => ("TensionNet$Cone", "ray", "LTensionNet$Triple;", true)
  | 3 => ("TensionNet$Cone", "sum", "LTensionNet$Whole;", true)
  | 4 => ("TensionNet$Cone", "work", "LTensionNet$Whole;", true)
  | 5 => ("TensionNet$Cone", "signs", "[I", true)
  | 6 => ("TensionNet$Cone", "reached", "[Z", true)
  | _ => ("TensionNet$Cone", "members", "I", false)
def qY0 : List FieldType := [.array (.object "TensionNet$Triple"), .object "TensionNet$Triple", .object "TensionNet$Triple", .object "TensionNet$Whole", .object "TensionNet$Whole", .array (.int), .array (.boolean), .int]
def qF1 : u_T := fun k => match k with
  | 0 => ("TensionNet$Desk", "divider", "LTensionNet$Divider;", true)
  | 1 => ("TensionNet$Desk", "pivot", "LTensionNet$Whole;", true)
  | 2 => ("TensionNet$Desk", "factor", "LTensionNet$Whole;", true)
  | 3 => ("TensionNet$Desk", "here", "LTensionNet$Whole;", true)
  | 4 => ("TensionNet$Desk", "above", "LTensionNet$Whole;", true)
  | 5 => ("TensionNet$Desk", "product", "LTensionNet$Whole;", true)
  | _ => ("TensionNet$Desk", "other", "LTensionNet$Whole;", true)
def qY1 : List FieldType := [.object "TensionNet$Divider", .object "TensionNet$Whole", .object "TensionNet$Whole", .object "TensionNet$Whole", .object "TensionNet$Whole", .object "TensionNet$Whole", .object "TensionNet$Whole"]
def qF2 : u_T := fun k => match k with
  | 0 => ("TensionNet$Divider", "quotient", "LTensionNet$Whole;", true)
  | 1 => ("TensionNet$Divider", "scaled", "LTensionNet$Whole;", true)
  | 2 => ("TensionNet$Divider", "one", "LTensionNet$Whole;", true)
  | _ => ("TensionNet$Divider", "two", "LTensionNet$Whole;", true)
def qY2 : List FieldType := [.object "TensionNet$Whole", .object "TensionNet$Whole", .object "TensionNet$Whole", .object "TensionNet$Whole"]
def qF3 : u_T := fun k => match k with
  | 0 => ("TensionNet$Form", "table", "LTensionNet$Grid;", true)
  | 1 => ("TensionNet$Form", "sum", "LTensionNet$Whole;", true)
  | 2 => ("TensionNet$Form", "product", "LTensionNet$Whole;", true)
  | 3 => ("TensionNet$Form", "one", "LTensionNet$Whole;", true)
  | 4 => ("TensionNet$Form", "two", "LTensionNet$Whole;", true)
  | _ => ("TensionNet$Form", "strength", "LTensionNet$Whole;", true)
def qY3 : List FieldType := [.object "TensionNet$Grid", .object "TensionNet$Whole", .object "TensionNet$Whole", .object "TensionNet$Whole", .object "TensionNet$Whole", .object "TensionNet$Whole"]
def qF4 : u_T := fun k => match k with
  | 0 => ("TensionNet$Fraction", "top", "LTensionNet$Whole;", true)
  | 1 => ("TensionNet$Fraction", "bottom", "LTensionNet$Whole;", true)
  | _ => ("TensionNet$Fraction", "work", "LTensionNet$Whole;", true)
def qY4 : List FieldType := [.object "TensionNet$Whole", .object "TensionNet$Whole", .object "TensionNet$Whole"]
def qF5 : u_T := fun k => match k with
  | 0 => ("TensionNet$Grid", "height", "I", true)
  | 1 => ("TensionNet$Grid", "width", "I", true)
  | 2 => ("TensionNet$Grid", "cell", "I", true)
  | 3 => ("TensionNet$Grid", "parts", "[I", true)
  | 4 => ("TensionNet$Grid", "sizes", "[I", true)
  | 5 => ("TensionNet$Grid", "desk", "LTensionNet$Desk;", true)
  | 6 => ("TensionNet$Grid", "rows", "I", false)
  | 7 => ("TensionNet$Grid", "unknowns", "I", false)
  | 8 => ("TensionNet$Grid", "columns", "I", false)
  | 9 => ("TensionNet$Grid", "rank", "I", false)
  | 10 => ("TensionNet$Grid", "rowOf", "[I", true)
  | 11 => ("TensionNet$Grid", "bottom", "LTensionNet$Whole;", true)
  | _ => ("TensionNet$Grid", "leadsAbove", "Z", false)
def qY5 : List FieldType := [.int, .int, .int, .array (.int), .array (.int), .object "TensionNet$Desk", .int, .int, .int, .int, .array (.int), .object "TensionNet$Whole", .boolean]
def qF6 : u_T := fun k => match k with
  | 0 => ("TensionNet$Net", "joints", "I", false)
  | 1 => ("TensionNet$Net", "free", "I", false)
  | 2 => ("TensionNet$Net", "members", "I", false)
  | 3 => ("TensionNet$Net", "places", "[[I", true)
  | 4 => ("TensionNet$Net", "loads", "[[I", true)
  | 5 => ("TensionNet$Net", "order", "[I", true)
  | 6 => ("TensionNet$Net", "from", "[I", true)
  | 7 => ("TensionNet$Net", "to", "[I", true)
  | 8 => ("TensionNet$Net", "sorts", "[I", true)
  | _ => ("TensionNet$Net", "pulls", "[I", true)
def qY6 : List FieldType := [.int, .int, .int, .array (.array (.int)), .array (.array (.int)), .array (.int), .array (.int), .array (.int), .array (.int), .array (.int)]
def qF7 : u_T := fun k => match k with
  | 0 => ("TensionNet$Slots", "numbers", "[[J", true)
  | 1 => ("TensionNet$Slots", "widths", "[I", true)
  | 2 => ("TensionNet$Slots", "sizes", "[I", true)
  | 3 => ("TensionNet$Slots", "open", "I", false)
  | 4 => ("TensionNet$Slots", "at", "I", false)
  | _ => ("TensionNet$Slots", "refusal", "I", false)
def qY7 : List FieldType := [.array (.array (.long)), .array (.int), .array (.int), .int, .int, .int]
def qF8 : u_T := fun k => match k with
  | _ => ("TensionNet$Triple", "at", "[LTensionNet$Whole;", true)
def qY8 : List FieldType := [.array (.object "TensionNet$Whole")]
def qF9 : u_T := fun k => match k with
  | 0 => ("TensionNet$Whole", "parts", "[I", true)
  | 1 => ("TensionNet$Whole", "size", "I", false)
  | _ => ("TensionNet$Whole", "below", "Z", false)
def qY9 : List FieldType := [.array (.int), .int, .boolean]
def qF10 : u_T := fun k => match k with
  | 0 => ("TensionNet", "slots", "LTensionNet$Slots;", true)
  | 1 => ("TensionNet", "result", "LTensionNet$Fraction;", true)
  | 2 => ("TensionNet", "desk", "LTensionNet$Desk;", true)
  | 3 => ("TensionNet", "forces", "LTensionNet$Grid;", true)
  | 4 => ("TensionNet", "moves", "LTensionNet$Grid;", true)
  | 5 => ("TensionNet", "places", "LTensionNet$Grid;", true)
  | 6 => ("TensionNet", "cone", "LTensionNet$Cone;", true)
  | 7 => ("TensionNet", "form", "LTensionNet$Form;", true)
  | 8 => ("TensionNet", "top", "LTensionNet$Whole;", true)
  | 9 => ("TensionNet", "net", "LTensionNet$Net;", false)
  | 10 => ("TensionNet", "spare", "LTensionNet$Net;", false)
  | 11 => ("TensionNet", "forcesKnown", "Z", false)
  | 12 => ("TensionNet", "bearingKnown", "Z", false)
  | 13 => ("TensionNet", "movesKnown", "Z", false)
  | 14 => ("TensionNet", "placesKnown", "Z", false)
  | 15 => ("TensionNet", "tightKnown", "Z", false)
  | _ => ("TensionNet", "canBeTight", "Z", false)
def qY10 : List FieldType := [.object "TensionNet$Slots", .object "TensionNet$Fraction", .object "TensionNet$Desk", .object "TensionNet$Grid", .object "TensionNet$Grid", .object "TensionNet$Grid", .object "TensionNet$Cone", .object "TensionNet$Form", .object "TensionNet$Whole", .object "TensionNet$Net", .object "TensionNet$Net", .boolean, .boolean, .boolean, .boolean, .boolean, .boolean]
def qF11 : u_T := fun k => match k with
  | 0 => ("TensionNetModel", "n", "[J", true)
  | 1 => ("TensionNetModel", "ends", "[I", true)
  | 2 => ("TensionNetModel", "widths", "[I", true)
  | 3 => ("TensionNetModel", "numbers", "[J", true)
  | 4 => ("TensionNetModel", "joints", "I", false)
  | 5 => ("TensionNetModel", "x", "[I", true)
  | 6 => ("TensionNetModel", "y", "[I", true)
  | 7 => ("TensionNetModel", "fixed", "[Z", true)
  | 8 => ("TensionNetModel", "loadX", "[I", true)
  | 9 => ("TensionNetModel", "loadY", "[I", true)
  | 10 => ("TensionNetModel", "members", "I", false)
  | 11 => ("TensionNetModel", "from", "[I", true)
  | 12 => ("TensionNetModel", "to", "[I", true)
  | 13 => ("TensionNetModel", "sort", "[I", true)
  | 14 => ("TensionNetModel", "told", "[I", true)
  | 15 => ("TensionNetModel", "left", "[J", true)
  | 16 => ("TensionNetModel", "right", "[J", true)
  | 17 => ("TensionNetModel", "both", "[J", true)
  | 18 => ("TensionNetModel", "row", "[I", true)
  | 19 => ("TensionNetModel", "high", "I", false)
  | 20 => ("TensionNetModel", "wide", "I", false)
  | 21 => ("TensionNetModel", "rank", "I", false)
  | 22 => ("TensionNetModel", "rowOf", "[I", true)
  | _ => ("TensionNetModel", "cones", "I", false)
def qY11 : List FieldType := [.array (.long), .array (.int), .array (.int), .array (.long), .int, .array (.int), .array (.int), .array (.boolean), .array (.int), .array (.int), .int, .array (.int), .array (.int), .array (.int), .array (.int), .array (.long), .array (.long), .array (.long), .array (.int), .int, .int, .int, .array (.int), .int]
abbrev qcls : List vw_C := [("TensionNet$Cone", qF0, 8), ("TensionNet$Desk", qF1, 7), ("TensionNet$Divider", qF2, 4), ("TensionNet$Form", qF3, 6), ("TensionNet$Fraction", qF4, 3), ("TensionNet$Grid", qF5, 13), ("TensionNet$Net", qF6, 10), ("TensionNet$Slots", qF7, 6), ("TensionNet$Triple", qF8, 1), ("TensionNet$Whole", qF9, 3), ("TensionNet", qF10, 17), ("TensionNetModel", qF11, 24)]
def qYs : List (List FieldType) := [qY0, qY1, qY2, qY3, qY4, qY5, qY6, qY7, qY8, qY9, qY10, qY11]
def qty (ci k : Nat) : FieldType := (qYs.getD ci []).getD k .int
def gT : List Cond := lw_tbl.filter goodWord
theorem gT_in {w : Cond} (i : Nat) (h : lw_tbl[i]? = some w) (hg : goodWord w = true) : w ∈ gT := List.mem_filter.mpr ⟨List.mem_of_getElem? h, hg⟩
theorem gT_good {w : Cond} (h : w ∈ gT) : w ∈ lw_tbl ∧ goodWord w = true := List.mem_filter.mp h
/-- the words of a table by their places -/
def qPl (ps : List Nat) (ws : List Cond) : Bool := ps.length == ws.length && (ps.zip ws).all (fun q => lw_tbl[q.1]? == some q.2 && goodWord q.2)
theorem qPl_ok : ∀ {ps : List Nat} {ws : List Cond}, qPl ps ws = true → ∀ w ∈ ws, w ∈ gT := by
  intro ps ws h w hw
  simp only [qPl, Bool.and_eq_true, beq_iff_eq, List.all_eq_true] at h
  obtain ⟨k, hk⟩ := List.getElem?_of_mem hw
  have hkl : k < ws.length := (List.getElem?_eq_some_iff.mp hk).1
  have hp : ps[k]? = some ps[k] := List.getElem?_eq_getElem (by omega)
  have := h.2 (ps[k], w) (List.mem_of_getElem? (i := k) (by rw [List.getElem?_zip_eq_some]; exact ⟨hp, hk⟩))
  exact gT_in _ this.1 this.2
set_option maxRecDepth 20000 in
theorem qW0 : qPl [323, 325, 327, 329, 331, 333, 335, 337, 78, 293] (u_ws "TensionNet$Cone" qF0 8 ++ [.initialized "TensionNet$Cone", .instantiable "TensionNet$Cone" 8]) = true := by decide +kernel
set_option maxRecDepth 20000 in
theorem qW1 : qPl [226, 228, 230, 232, 234, 236, 238, 75, 181] (u_ws "TensionNet$Desk" qF1 7 ++ [.initialized "TensionNet$Desk", .instantiable "TensionNet$Desk" 7]) = true := by decide +kernel
set_option maxRecDepth 20000 in
theorem qW2 : qPl [200, 202, 204, 206, 76, 187] (u_ws "TensionNet$Divider" qF2 4 ++ [.initialized "TensionNet$Divider", .instantiable "TensionNet$Divider" 4]) = true := by decide +kernel
set_option maxRecDepth 20000 in
theorem qW3 : qPl [357, 359, 361, 363, 365, 367, 80, 342] (u_ws "TensionNet$Form" qF3 6 ++ [.initialized "TensionNet$Form", .instantiable "TensionNet$Form" 6]) = true := by decide +kernel
set_option maxRecDepth 20000 in
theorem qW4 : qPl [173, 175, 177, 72, 127] (u_ws "TensionNet$Fraction" qF4 3 ++ [.initialized "TensionNet$Fraction", .instantiable "TensionNet$Fraction" 3]) = true := by decide +kernel
set_option maxRecDepth 20000 in
theorem qW5 : qPl [265, 267, 269, 271, 273, 275, 277, 279, 281, 283, 285, 287, 289, 77, 242] (u_ws "TensionNet$Grid" qF5 13 ++ [.initialized "TensionNet$Grid", .instantiable "TensionNet$Grid" 13]) = true := by decide +kernel
set_option maxRecDepth 20000 in
theorem qW6 : qPl [403, 405, 407, 409, 411, 413, 415, 417, 419, 421, 81, 373] (u_ws "TensionNet$Net" qF6 10 ++ [.initialized "TensionNet$Net", .instantiable "TensionNet$Net" 10]) = true := by decide +kernel
set_option maxRecDepth 20000 in
theorem qW7 : qPl [111, 113, 115, 117, 119, 121, 70, 94] (u_ws "TensionNet$Slots" qF7 6 ++ [.initialized "TensionNet$Slots", .instantiable "TensionNet$Slots" 6]) = true := by decide +kernel
set_option maxRecDepth 20000 in
theorem qW8 : qPl [310, 79, 300] (u_ws "TensionNet$Triple" qF8 1 ++ [.initialized "TensionNet$Triple", .instantiable "TensionNet$Triple" 1]) = true := by decide +kernel
set_option maxRecDepth 20000 in
theorem qW9 : qPl [154, 156, 158, 73, 133] (u_ws "TensionNet$Whole" qF9 3 ++ [.initialized "TensionNet$Whole", .instantiable "TensionNet$Whole" 3]) = true := by decide +kernel
set_option maxRecDepth 20000 in
theorem qW10 : qPl [441, 443, 445, 447, 449, 451, 453, 455, 457, 459, 461, 463, 465, 467, 469, 471, 473, 69, 86] (u_ws "TensionNet" qF10 17 ++ [.initialized "TensionNet", .instantiable "TensionNet" 17]) = true := by decide +kernel
set_option maxRecDepth 20000 in
theorem qW11 : qPl [982, 984, 986, 988, 990, 992, 994, 996, 998, 1000, 1002, 1004, 1006, 1008, 1010, 1012, 1014, 1016, 1018, 1020, 1022, 1024, 1026, 1028, 82, 938] (u_ws "TensionNetModel" qF11 24 ++ [.initialized "TensionNetModel", .instantiable "TensionNetModel" 24]) = true := by decide +kernel
/-- what is known of each of them -/
def qcOK (ci : Nat) (q : vw_C) : Prop := (∀ w ∈ u_ws q.1 q.2.1 q.2.2, w ∈ gT) ∧ Cond.initialized q.1 ∈ gT ∧ Cond.instantiable q.1 q.2.2 ∈ gT ∧ (∀ k, k < q.2.2 → parseFieldDescriptor (q.2.1 k).2.2.1 = some (qty ci k)) ∧ (∀ a, a < q.2.2 → ∀ b, b < q.2.2 → a ≠ b → (q.2.1 a).2.1 ≠ (q.2.1 b).2.1) ∧ (∀ k, k < q.2.2 → (q.2.1 k).1 = q.1)
theorem qC0 : qcOK 0 ("TensionNet$Cone", qF0, 8) := ⟨fun w h => qPl_ok qW0 w (List.mem_append_left _ h), qPl_ok qW0 _ (List.mem_append_right _ (by simp)), qPl_ok qW0 _ (List.mem_append_right _ (by simp)), by decide +kernel, by decide +kernel, by decide +kernel⟩
theorem qC1 : qcOK 1 ("TensionNet$Desk", qF1, 7) := ⟨fun w h => qPl_ok qW1 w (List.mem_append_left _ h), qPl_ok qW1 _ (List.mem_append_right _ (by simp)), qPl_ok qW1 _ (List.mem_append_right _ (by simp)), by decide +kernel, by decide +kernel, by decide +kernel⟩
theorem qC2 : qcOK 2 ("TensionNet$Divider", qF2, 4) := ⟨fun w h => qPl_ok qW2 w (List.mem_append_left _ h), qPl_ok qW2 _ (List.mem_append_right _ (by simp)), qPl_ok qW2 _ (List.mem_append_right _ (by simp)), by decide +kernel, by decide +kernel, by decide +kernel⟩
theorem qC3 : qcOK 3 ("TensionNet$Form", qF3, 6) := ⟨fun w h => qPl_ok qW3 w (List.mem_append_left _ h), qPl_ok qW3 _ (List.mem_append_right _ (by simp)), qPl_ok qW3 _ (List.mem_append_right _ (by simp)), by decide +kernel, by decide +kernel, by decide +kernel⟩
theorem qC4 : qcOK 4 ("TensionNet$Fraction", qF4, 3) := ⟨fun w h => qPl_ok qW4 w (List.mem_append_left _ h), qPl_ok qW4 _ (List.mem_append_right _ (by simp)), qPl_ok qW4 _ (List.mem_append_right _ (by simp)), by decide +kernel, by decide +kernel, by decide +kernel⟩
theorem qC5 : qcOK 5 ("TensionNet$Grid", qF5, 13) := ⟨fun w h => qPl_ok qW5 w (List.mem_append_left _ h), qPl_ok qW5 _ (List.mem_append_right _ (by simp)), qPl_ok qW5 _ (List.mem_append_right _ (by simp)), by decide +kernel, by decide +kernel, by decide +kernel⟩
theorem qC6 : qcOK 6 ("TensionNet$Net", qF6, 10) := ⟨fun w h => qPl_ok qW6 w (List.mem_append_left _ h), qPl_ok qW6 _ (List.mem_append_right _ (by simp)), qPl_ok qW6 _ (List.mem_append_right _ (by simp)), by decide +kernel, by decide +kernel, by decide +kernel⟩
theorem qC7 : qcOK 7 ("TensionNet$Slots", qF7, 6) := ⟨fun w h => qPl_ok qW7 w (List.mem_append_left _ h), qPl_ok qW7 _ (List.mem_append_right _ (by simp)), qPl_ok qW7 _ (List.mem_append_right _ (by simp)), by decide +kernel, by decide +kernel, by decide +kernel⟩
theorem qC8 : qcOK 8 ("TensionNet$Triple", qF8, 1) := ⟨fun w h => qPl_ok qW8 w (List.mem_append_left _ h), qPl_ok qW8 _ (List.mem_append_right _ (by simp)), qPl_ok qW8 _ (List.mem_append_right _ (by simp)), by decide +kernel, by decide +kernel, by decide +kernel⟩
theorem qC9 : qcOK 9 ("TensionNet$Whole", qF9, 3) := ⟨fun w h => qPl_ok qW9 w (List.mem_append_left _ h), qPl_ok qW9 _ (List.mem_append_right _ (by simp)), qPl_ok qW9 _ (List.mem_append_right _ (by simp)), by decide +kernel, by decide +kernel, by decide +kernel⟩
theorem qC10 : qcOK 10 ("TensionNet", qF10, 17) := ⟨fun w h => qPl_ok qW10 w (List.mem_append_left _ h), qPl_ok qW10 _ (List.mem_append_right _ (by simp)), qPl_ok qW10 _ (List.mem_append_right _ (by simp)), by decide +kernel, by decide +kernel, by decide +kernel⟩
theorem qC11 : qcOK 11 ("TensionNetModel", qF11, 24) := ⟨fun w h => qPl_ok qW11 w (List.mem_append_left _ h), qPl_ok qW11 _ (List.mem_append_right _ (by simp)), qPl_ok qW11 _ (List.mem_append_right _ (by simp)), by decide +kernel, by decide +kernel, by decide +kernel⟩
theorem qcls_ok {ci : Nat} {q : vw_C} (h : qcls[ci]? = some q) : qcOK ci q := by
  match ci, h with
  | 0, h => cases h; exact qC0
  | 1, h => cases h; exact qC1
  | 2, h => cases h; exact qC2
  | 3, h => cases h; exact qC3
  | 4, h => cases h; exact qC4
  | 5, h => cases h; exact qC5
  | 6, h => cases h; exact qC6
  | 7, h => cases h; exact qC7
  | 8, h => cases h; exact qC8
  | 9, h => cases h; exact qC9
  | 10, h => cases h; exact qC10
  | 11, h => cases h; exact qC11
  | k + 12, h => simp [qcls] at h
end
section
/-! THE PURE EVALUATOR of the program's bytecode. A heap is (cells by number, how many, how many slots); an array's first number is its tag: 0 int, 1 long, 2 boolean, 3 Whole, 4 Triple, 5 rows of int, 6 rows of long. A row of code: (pc, instruction, length, a, b, place of its word). -/
abbrev eH : Type := (Nat → va_E) × Nat × Nat
abbrev eL : Type := List (Option Value)
abbrev eR : Type := Option Value × eH
abbrev eM : Type := Nat → List Value → eH → Option eR
abbrev eRow : Type := Nat × Instr × Nat × Nat × Nat × Nat
abbrev eS : Type := Nat × eL × List Value × eH
abbrev eO : Type := Option (eS ⊕ eR)
abbrev eSc : Type := Option (Nat × (Nat → Int32))
def eFind : List eRow → Nat → Option eRow
  | [], _ => none
  | r :: t, pc => bif Nat.beq r.1 pc then some r else eFind t pc
def eKl (o : Option Value) : Option Value := match o with
  | some (.long _) => none
  | some (.double _) => none
  | o => o
def eKill : eL → Nat → eL
  | ls, 0 => ls
  | ls, i + 1 => ls.set i (eKl (ls.getD i none))
def eSet1 (ls : eL) (i : Nat) (v : Value) : eL := (eKill ls i).set i (some v)
def eSet2 (ls : eL) (i : Nat) (v : Value) : eL := ((eKill ls i).set i (some v)).set (i + 1) none
def eSum : List Value → Nat
  | [] => 0
  | v :: t => v.category + eSum t
section EVO
variable {α : Type}
def oA (o : Option Value) (f : Value → Option α) : Option α := match o with
  | some (.ref a) => f (.ref a)
  | some (.float a) => f (.float a)
  | _ => none
def oI (o : Option Value) (f : Int32 → Option α) : Option α := match o with
  | some (.int x) => f x
  | _ => none
def oL (o : Option Value) (f : Int64 → Option α) : Option α := match o with
  | some (.long x) => f x
  | _ => none
def sI (st : List Value) (f : Int32 → List Value → Option α) : Option α := match st with
  | .int x :: t => f x t
  | _ => none
def sL (st : List Value) (f : Int64 → List Value → Option α) : Option α := match st with
  | .long x :: t => f x t
  | _ => none
def sR (st : List Value) (f : Nat → List Value → Option α) : Option α := match st with
  | .ref x :: t => f x t
  | _ => none
def sII (st : List Value) (f : Int32 → Int32 → List Value → Option α) : Option α := match st with
  | .int y :: .int x :: t => f x y t
  | _ => none
def sLL (st : List Value) (f : Int64 → Int64 → List Value → Option α) : Option α := match st with
  | .long y :: .long x :: t => f x y t
  | _ => none
def sLI (st : List Value) (f : Int64 → Int32 → List Value → Option α) : Option α := match st with
  | .int y :: .long x :: t => f x y t
  | _ => none
def sIR (st : List Value) (f : Int32 → Nat → List Value → Option α) : Option α := match st with
  | .int i :: .ref a :: t => f i a t
  | _ => none
def sIIR (st : List Value) (f : Int32 → Int32 → Nat → List Value → Option α) : Option α := match st with
  | .int x :: .int i :: .ref a :: t => f x i a t
  | _ => none
def sLIR (st : List Value) (f : Int64 → Int32 → Nat → List Value → Option α) : Option α := match st with
  | .long x :: .int i :: .ref a :: t => f x i a t
  | _ => none
def sRIR (st : List Value) (f : Nat → Int32 → Nat → List Value → Option α) : Option α := match st with
  | .ref x :: .int i :: .ref a :: t => f x i a t
  | _ => none
def sVR (st : List Value) (f : Value → Nat → List Value → Option α) : Option α := match st with
  | v :: .ref a :: t => f v a t
  | _ => none
def sV (st : List Value) (f : Value → List Value → Option α) : Option α := match st with
  | v :: t => f v t
  | _ => none
def sCpy (st : List Value) (f : Nat → Int32 → Nat → Int32 → Int32 → List Value → Option α) : Option α := match st with
  | .int n :: .int dp :: .ref a1 :: .int sp :: .ref a0 :: t => f a0 sp a1 dp n t
  | _ => none
def sIF (st : List Value) (f : Int32 → Nat → List Value → Option α) (g : Int32 → List Value → Option α) : Option α := match st with
  | .int i :: .ref a :: t => f i a t
  | .int i :: .float _ :: t => g i t
  | _ => none
def sRF (st : List Value) (f : Nat → List Value → Option α) (g : List Value → Option α) : Option α := match st with
  | .ref a :: t => f a t
  | .float _ :: t => g t
  | _ => none
def oSc (sc : Option (Nat × (Nat → Int32))) (f : Nat → (Nat → Int32) → Option α) : Option α := match sc with
  | some (n, g) => f n g
  | none => none
def hO (h : eH) (a : Nat) (f : Nat → List Value → Option α) : Option α := match h.1 a with
  | .inr (ci, fs) => f ci fs
  | _ => none
def hI (h : eH) (a : Nat) (tg : Nat) (f : Nat → (Nat → Int32) → Option α) : Option α := match h.1 a with
  | .inl (t, n, .inl g) => bif Nat.beq t tg then f n g else none
  | _ => none
def hL (h : eH) (a : Nat) (f : Nat → (Nat → Int64) → Option α) : Option α := match h.1 a with
  | .inl (t, n, .inr (.inl g)) => bif Nat.beq t 1 then f n g else none
  | _ => none
def hQ (h : eH) (a : Nat) (f : Nat → Nat → (Nat → Option Nat) → Option α) : Option α := match h.1 a with
  | .inl (t, n, .inr (.inr (.inr (.inr g)))) => bif Nat.ble 3 t && Nat.ble t 6 then f t n g else none
  | _ => none
def hN (h : eH) (a : Nat) (f : Nat → Option α) : Option α := match h.1 a with
  | .inl (t, n, _) => bif Nat.ble t 6 then f n else none
  | _ => none
def inR (i : Int32) (n : Nat) (o : Option α) : Option α := if i < 0 ∨ n ≤ i.toNatClampNeg then none else o
def bo (b : Bool) (o : Option α) : Option α := bif b then o else none
end EVO
def okv (ty : FieldType) (v : Value) : Bool := match ty, v with
  | .int, .int _ => true
  | .long, .long _ => true
  | .boolean, .int x => x == 0 || x == 1
  | .object _, .ref _ => true
  | .array _, .ref _ => true
  | _, _ => false
def eUp (h : eH) (a : Nat) (e : va_E) : eH := (va_up h.1 a e, h.2.1, h.2.2)
def eDf (ci : Nat) : List Value := (qYs.getD ci []).map defaultValue
def eInv (M : eM) (j : Nat) (as t : List Value) (h : eH) (k : List Value → eH → eO) : eO := bo (Nat.ble (eSum t) 8) (match M j as h with
  | some (v, h') => k (v.toList ++ t) h'
  | none => none)
def eVirt (M : eM) (r : eRow) (ls : eL) (st : List Value) (h : eH) : eO := sR (st.drop r.2.2.2.2.1) (fun a t => eInv M r.2.2.2.1 (.ref a :: (st.take r.2.2.2.2.1).reverse) t h (fun s h' => some (.inl (r.1 + 3, ls, s, h'))))
def eStat (M : eM) (r : eRow) (ls : eL) (st : List Value) (h : eH) : eO := bo (Nat.ble r.2.2.2.2.1 st.length) (eInv M r.2.2.2.1 (st.take r.2.2.2.2.1).reverse (st.drop r.2.2.2.2.1) h (fun s h' => some (.inl (r.1 + 3, ls, s, h'))))
def eCpy (pc : Nat) (ls : eL) (st : List Value) (h : eH) : eO := sCpy st (fun a0 sp a1 dp n t => hI h a0 0 (fun n0 f => hI h a1 0 (fun n1 g => bo (Nat.ble (eSum t) 8) (if sp < 0 ∨ dp < 0 ∨ n < 0 ∨ n0 < sp.toNatClampNeg + n.toNatClampNeg ∨ n1 < dp.toNatClampNeg + n.toNatClampNeg then none else some (.inl (pc + 3, ls, t, eUp h a1 (.inl (0, n1, .inl (va_cpy f g sp.toNatClampNeg dp.toNatClampNeg n.toNatClampNeg)))))))))
def eNewA (pc : Nat) (ls : eL) (st : List Value) (h : eH) (z : vp_A → (Nat × vp_A)) (q : Nat → vp_A) (len : Nat) : eO := sI st (fun c t => if c < 0 ∨ 1000000 < c.toNatClampNeg then none else some (.inl (pc + len, ls, .ref h.2.1 :: t, (va_up h.1 h.2.1 (.inl (z (q c.toNatClampNeg))), h.2.1 + 1, h.2.2 + c.toNatClampNeg))))
def eNewAt (a : ArrayType) (pc : Nat) (ls : eL) (st : List Value) (h : eH) : eO := match a with
  | .int => eNewA pc ls st h (fun x => (0, x)) (fun n => (n, .inl (fun _ => 0))) 2
  | .long => eNewA pc ls st h (fun x => (1, x)) (fun n => (n, .inr (.inl (fun _ => 0)))) 2
  | .boolean => eNewA pc ls st h (fun x => (2, x)) (fun n => (n, .inl (fun _ => 0))) 2
  | _ => none
def eMul (r : eRow) (ls : eL) (st : List Value) (h : eH) : eO := sII st (fun n k t => if n < 0 ∨ k < 0 ∨ 1000 < n.toNatClampNeg ∨ 1000 < k.toNatClampNeg then none else some (.inl (r.1 + 4, ls, .ref h.2.1 :: t,
  ((fun i => if i = h.2.1 then .inl (r.2.2.2.1, n.toNatClampNeg, .inr (.inr (.inr (.inr (fun j => if j < n.toNatClampNeg then some (h.2.1 + 1 + j) else none))))) else if h.2.1 < i ∧ i < h.2.1 + 1 + n.toNatClampNeg then .inl (r.2.2.2.2.1, k.toNatClampNeg, (bif Nat.beq r.2.2.2.2.1 0 then .inl (fun _ => 0) else .inr (.inl (fun _ => 0)))) else h.1 i), h.2.1 + 1 + n.toNatClampNeg, h.2.2 + n.toNatClampNeg + n.toNatClampNeg * k.toNatClampNeg))))
def eSw (pc : Nat) (x : Int32) (dflt lo hi : Int) (offs : Array Int) : Option Int := if x.toInt < lo ∨ hi < x.toInt then some ((pc : Int) + dflt) else (offs[(x.toInt - lo).toNat]?).map (fun o => (pc : Int) + o)
/-- one instruction -/
def estep (sc : eSc) (M : eM) (r : eRow) (ls : eL) (st : List Value) (h : eH) : eO :=
  match r.2.1 with
  | .aload_n n => oA (ls.getD n.val none) (fun v => some (.inl (r.1 + 1, ls, v :: st, h)))
  | .aload n => oA (ls.getD n none) (fun v => some (.inl (r.1 + 2, ls, v :: st, h)))
  | .iload_n n => oI (ls.getD n.val none) (fun v => some (.inl (r.1 + 1, ls, .int v :: st, h)))
  | .iload n => oI (ls.getD n none) (fun v => some (.inl (r.1 + 2, ls, .int v :: st, h)))
  | .lload_n n => oL (ls.getD n.val none) (fun v => some (.inl (r.1 + 1, ls, .long v :: st, h)))
  | .lload n => oL (ls.getD n none) (fun v => some (.inl (r.1 + 2, ls, .long v :: st, h)))
  | .istore_n n => sI st (fun x t => some (.inl (r.1 + 1, eSet1 ls n.val (.int x), t, h)))
  | .istore n => sI st (fun x t => some (.inl (r.1 + 2, eSet1 ls n (.int x), t, h)))
  | .astore_n n => sR st (fun x t => some (.inl (r.1 + 1, eSet1 ls n.val (.ref x), t, h)))
  | .astore n => sR st (fun x t => some (.inl (r.1 + 2, eSet1 ls n (.ref x), t, h)))
  | .lstore_n n => sL st (fun x t => some (.inl (r.1 + 1, eSet2 ls n.val (.long x), t, h)))
  | .lstore n => sL st (fun x t => some (.inl (r.1 + 2, eSet2 ls n (.long x), t, h)))
  | .iinc i n => oI (ls.getD i none) (fun x => some (.inl (r.1 + 3, eSet1 ls i (.int (x + Int32.ofInt n)), st, h)))
  | .iconst n => some (.inl (r.1 + 1, ls, .int (Int32.ofInt n) :: st, h))
  | .bipush n => some (.inl (r.1 + 2, ls, .int (Int8.ofInt n).toInt32 :: st, h))
  | .sipush n => some (.inl (r.1 + 3, ls, .int (Int16.ofInt n).toInt32 :: st, h))
  | .lconst n => some (.inl (r.1 + 1, ls, .long (Int64.ofNat n.val) :: st, h))
  | .ldc _ => some (.inl (r.1 + 2, ls, .int (Int32.ofNat r.2.2.2.1) :: st, h))
  | .ldc2_w _ => some (.inl (r.1 + 3, ls, .long (bif Nat.beq r.2.2.2.2.1 0 then Int64.ofNat r.2.2.2.1 else -Int64.ofNat r.2.2.2.1) :: st, h))
  | .iadd => sII st (fun x y t => some (.inl (r.1 + 1, ls, .int (x + y) :: t, h)))
  | .isub => sII st (fun x y t => some (.inl (r.1 + 1, ls, .int (x - y) :: t, h)))
  | .imul => sII st (fun x y t => some (.inl (r.1 + 1, ls, .int (x * y) :: t, h)))
  | .iand => sII st (fun x y t => some (.inl (r.1 + 1, ls, .int (x &&& y) :: t, h)))
  | .ior => sII st (fun x y t => some (.inl (r.1 + 1, ls, .int (x ||| y) :: t, h)))
  | .ishr => sII st (fun x y t => some (.inl (r.1 + 1, ls, .int (x >>> (y &&& 31)) :: t, h)))
  | .iushr => sII st (fun x y t => some (.inl (r.1 + 1, ls, .int (x.toUInt32 >>> (y.toUInt32 &&& Int32.toUInt32 31)).toInt32 :: t, h)))
  | .idiv => sII st (fun x y t => if y = 0 then none else some (.inl (r.1 + 1, ls, .int (x / y) :: t, h)))
  | .irem => sII st (fun x y t => if y = 0 then none else some (.inl (r.1 + 1, ls, .int (x - x / y * y) :: t, h)))
  | .ineg => sI st (fun x t => some (.inl (r.1 + 1, ls, .int (-x) :: t, h)))
  | .ladd => sLL st (fun x y t => some (.inl (r.1 + 1, ls, .long (x + y) :: t, h)))
  | .lsub => sLL st (fun x y t => some (.inl (r.1 + 1, ls, .long (x - y) :: t, h)))
  | .lmul => sLL st (fun x y t => some (.inl (r.1 + 1, ls, .long (x * y) :: t, h)))
  | .land => sLL st (fun x y t => some (.inl (r.1 + 1, ls, .long (x &&& y) :: t, h)))
  | .lor => sLL st (fun x y t => some (.inl (r.1 + 1, ls, .long (x ||| y) :: t, h)))
  | .lxor => sLL st (fun x y t => some (.inl (r.1 + 1, ls, .long (x ^^^ y) :: t, h)))
  | .ldiv => sLL st (fun x y t => if y = 0 then none else some (.inl (r.1 + 1, ls, .long (x / y) :: t, h)))
  | .lrem => sLL st (fun x y t => if y = 0 then none else some (.inl (r.1 + 1, ls, .long (x - x / y * y) :: t, h)))
  | .lneg => sL st (fun x t => some (.inl (r.1 + 1, ls, .long (-x) :: t, h)))
  | .lshl => sLI st (fun x y t => some (.inl (r.1 + 1, ls, .long (x <<< (y.toInt64 &&& 63)) :: t, h)))
  | .lcmp => sLL st (fun x y t => some (.inl (r.1 + 1, ls, .int (lg_cmp x y) :: t, h)))
  | .i2l => sI st (fun x t => some (.inl (r.1 + 1, ls, .long x.toInt64 :: t, h)))
  | .l2i => sL st (fun x t => some (.inl (r.1 + 1, ls, .int x.toInt32 :: t, h)))
  | .i2b => sI st (fun x t => some (.inl (r.1 + 1, ls, .int x.toInt8.toInt32 :: t, h)))
  | .i2s => sI st (fun x t => some (.inl (r.1 + 1, ls, .int x.toInt16.toInt32 :: t, h)))
  | .dup => sV st (fun v t => bo (Nat.beq v.category 1) (some (.inl (r.1 + 1, ls, v :: v :: t, h))))
  | .pop => sV st (fun v t => bo (Nat.beq v.category 1) (some (.inl (r.1 + 1, ls, t, h))))
  | .dup2 => sV st (fun v t => sV t (fun u t => bo (Nat.beq v.category 1 && Nat.beq u.category 1) (some (.inl (r.1 + 1, ls, v :: u :: v :: u :: t, h)))))
  | .goto _ => some (.inl (r.2.2.2.1, ls, st, h))
  | .ifCond c _ => sI st (fun x t => match c with
    | .eq => if x = 0 then some (.inl (r.2.2.2.1, ls, t, h)) else some (.inl (r.1 + 3, ls, t, h))
    | .ne => if x = 0 then some (.inl (r.1 + 3, ls, t, h)) else some (.inl (r.2.2.2.1, ls, t, h))
    | .lt => if x < 0 then some (.inl (r.2.2.2.1, ls, t, h)) else some (.inl (r.1 + 3, ls, t, h))
    | .ge => if 0 ≤ x then some (.inl (r.2.2.2.1, ls, t, h)) else some (.inl (r.1 + 3, ls, t, h))
    | .gt => if 0 < x then some (.inl (r.2.2.2.1, ls, t, h)) else some (.inl (r.1 + 3, ls, t, h))
    | .le => if x ≤ 0 then some (.inl (r.2.2.2.1, ls, t, h)) else some (.inl (r.1 + 3, ls, t, h)))
  | .if_icmp c _ => sII st (fun x y t => match c with
    | .eq => if x = y then some (.inl (r.2.2.2.1, ls, t, h)) else some (.inl (r.1 + 3, ls, t, h))
    | .ne => if x = y then some (.inl (r.1 + 3, ls, t, h)) else some (.inl (r.2.2.2.1, ls, t, h))
    | .lt => if x < y then some (.inl (r.2.2.2.1, ls, t, h)) else some (.inl (r.1 + 3, ls, t, h))
    | .ge => if y ≤ x then some (.inl (r.2.2.2.1, ls, t, h)) else some (.inl (r.1 + 3, ls, t, h))
    | .gt => if y < x then some (.inl (r.2.2.2.1, ls, t, h)) else some (.inl (r.1 + 3, ls, t, h))
    | .le => if x ≤ y then some (.inl (r.2.2.2.1, ls, t, h)) else some (.inl (r.1 + 3, ls, t, h)))
  | .tableswitch d lo hi offs => sI st (fun x t => match eSw r.1 x d lo hi offs with
    | some z => if 0 ≤ z then some (.inl (z.toNat, ls, t, h)) else none
    | none => none)
  | .getfield _ => sR st (fun a t => hO h a (fun ci fs => bo (Nat.beq ci r.2.2.2.1) (match fs[r.2.2.2.2.1]? with
    | some v => some (.inl (r.1 + 3, ls, v :: t, h))
    | none => none)))
  | .putfield _ => sVR st (fun v a t => hO h a (fun ci fs => bo (Nat.beq ci r.2.2.2.1 && okv (qty ci r.2.2.2.2.1) v && Nat.blt r.2.2.2.2.1 fs.length) (some (.inl (r.1 + 3, ls, t, eUp h a (.inr (ci, fs.set r.2.2.2.2.1 v)))))))
  | .iaload => sIF st (fun i a t => hI h a 0 (fun n f => inR i n (some (.inl (r.1 + 1, ls, .int (f i.toNatClampNeg) :: t, h))))) (fun i t => oSc sc (fun n f => inR i n (some (.inl (r.1 + 1, ls, .int (f i.toNatClampNeg) :: t, h)))))
  | .baload => sIR st (fun i a t => hI h a 2 (fun n f => inR i n (some (.inl (r.1 + 1, ls, .int (f i.toNatClampNeg) :: t, h)))))
  | .laload => sIR st (fun i a t => hL h a (fun n f => inR i n (some (.inl (r.1 + 1, ls, .long (f i.toNatClampNeg) :: t, h)))))
  | .aaload => sIR st (fun i a t => hQ h a (fun _ n f => inR i n (match f i.toNatClampNeg with
    | some q => some (.inl (r.1 + 1, ls, .ref q :: t, h))
    | none => none)))
  | .iastore => sIIR st (fun x i a t => hI h a 0 (fun n f => inR i n (some (.inl (r.1 + 1, ls, t, eUp h a (.inl (0, n, .inl (upd f i.toNatClampNeg x))))))))
  | .bastore => sIIR st (fun x i a t => hI h a 2 (fun n f => inR i n (bo (x == 0 || x == 1) (some (.inl (r.1 + 1, ls, t, eUp h a (.inl (2, n, .inl (upd f i.toNatClampNeg x)))))))))
  | .lastore => sLIR st (fun x i a t => hL h a (fun n f => inR i n (some (.inl (r.1 + 1, ls, t, eUp h a (.inl (1, n, .inr (.inl (vp_updL f i.toNatClampNeg x)))))))))
  | .aastore => sRIR st (fun v i a t => hQ h a (fun tg n f => hO h v (fun cv _ => bo ((Nat.beq tg 3 && Nat.beq cv 9) || (Nat.beq tg 4 && Nat.beq cv 8)) (inR i n (some (.inl (r.1 + 1, ls, t, eUp h a (.inl (tg, n, .inr (.inr (.inr (.inr (va_up f i.toNatClampNeg (some v))))))))))))))
  | .arraylength => sRF st (fun a t => hN h a (fun n => some (.inl (r.1 + 1, ls, .int (Int32.ofNat n) :: t, h)))) (fun t => oSc sc (fun n _ => some (.inl (r.1 + 1, ls, .int (Int32.ofNat n) :: t, h))))
  | .new _ => bo (Nat.blt r.2.2.2.1 12) (some (.inl (r.1 + 3, ls, .ref h.2.1 :: st, (va_up h.1 h.2.1 (.inr (r.2.2.2.1, eDf r.2.2.2.1)), h.2.1 + 1, h.2.2 + (eDf r.2.2.2.1).length))))
  | .newarray a => eNewAt a r.1 ls st h
  | .anewarray _ => eNewA r.1 ls st h (fun x => (r.2.2.2.1, x)) (fun n => (n, .inr (.inr (.inr (.inr (fun _ => none)))))) 3
  | .multianewarray _ _ => eMul r ls st h
  | .invokevirtual _ => eVirt M r ls st h
  | .invokespecial _ => bif Nat.beq r.2.2.2.1 9999 then sR st (fun _ t => bo (Nat.ble (eSum t) 8) (some (.inl (r.1 + 3, ls, t, h)))) else eVirt M r ls st h
  | .invokestatic _ => bif Nat.beq r.2.2.2.1 9998 then eCpy r.1 ls st h else eStat M r ls st h
  | .ireturn => (match st with
    | [.int x] => bo (Nat.beq r.2.2.2.1 0 || (x == 0 || x == 1)) (some (.inr (some (.int x), h)))
    | _ => none)
  | .lreturn => (match st with
    | [.long x] => some (.inr (some (.long x), h))
    | _ => none)
  | .areturn => (match st with
    | [.ref x] => some (.inr (some (.ref x), h))
    | _ => none)
  | .return_ => (match st with
    | [] => some (.inr (none, h))
    | _ => none)
  | _ => none
def eExec : Nat → eSc → eM → List eRow → eS → Option eR
  | 0, _, _, _, _ => none
  | f + 1, sc, M, tb, q => match eFind tb q.1 with
    | none => none
    | some r => match estep sc M r q.2.1 q.2.2.1 q.2.2.2 with
      | none => none
      | some (.inl q') => eExec f sc M tb q'
      | some (.inr x) => some x
theorem eExec_mono {sc : eSc} {M : eM} {tb : List eRow} : ∀ {f : Nat} {q : eS} {x : eR}, eExec f sc M tb q = some x → ∀ d, eExec (f + d) sc M tb q = some x := by
  intro f
  induction f with
  | zero => intro q x h; cases h
  | succ f ih =>
    intro q x h d
    rw [show f + 1 + d = (f + d) + 1 by omega]
    unfold eExec at h ⊢
    cases hf : eFind tb q.1 with
    | none => rw [hf] at h; cases h
    | some r =>
      rw [hf] at h
      dsimp only at h ⊢
      cases hs : estep sc M r q.2.1 q.2.2.1 q.2.2.2 with
      | none => rw [hs] at h; cases h
      | some y =>
        rw [hs] at h
        cases y with
        | inl q' => exact ih h d
        | inr z => exact h
def eRuns (sc : eSc) (M : eM) (tb : List eRow) (q : eS) (x : eR) : Prop := ∃ f, eExec f sc M tb q = some x
theorem eRuns_det {sc : eSc} {M : eM} {tb : List eRow} {q : eS} {x y : eR} (h1 : eRuns sc M tb q x) (h2 : eRuns sc M tb q y) : x = y := by
  obtain ⟨f, h1⟩ := h1
  obtain ⟨g, h2⟩ := h2
  have a := eExec_mono h1 g
  have b := eExec_mono h2 f
  rw [show g + f = f + g by omega] at b
  exact Option.some.inj (a.symm.trans b)
noncomputable def eRun (sc : eSc) (M : eM) (tb : List eRow) (q : eS) : Option eR := @dite _ (∃ x, eRuns sc M tb q x) (Classical.propDecidable _) (fun h => some h.choose) (fun _ => none)
theorem eRun_iff {sc : eSc} {M : eM} {tb : List eRow} {q : eS} {x : eR} : eRun sc M tb q = some x ↔ eRuns sc M tb q x := by
  unfold eRun
  by_cases h : ∃ x, eRuns sc M tb q x
  · rw [dif_pos h]
    constructor
    · intro e
      rw [← Option.some.inj e]
      exact h.choose_spec
    · intro e
      rw [eRuns_det h.choose_spec e]
  · rw [dif_neg h]
    constructor
    · intro e; cases e
    · intro e; exact absurd ⟨x, e⟩ h
theorem eRun_ext {sc : eSc} {M : eM} {tb : List eRow} {q q' : eS} (h : ∀ x, eRuns sc M tb q x ↔ eRuns sc M tb q' x) : eRun sc M tb q = eRun sc M tb q' := by
  cases h1 : eRun sc M tb q with
  | some x => exact (eRun_iff.mpr ((h x).mp (eRun_iff.mp h1))).symm
  | none =>
    cases h2 : eRun sc M tb q' with
    | none => rfl
    | some y =>
      have := eRun_iff.mpr ((h y).mpr (eRun_iff.mp h2))
      rw [h1] at this
      cases this
theorem eRun_go {sc : eSc} {M : eM} {tb : List eRow} {q q' : eS} {r : eRow} (hf : eFind tb q.1 = some r) (hs : estep sc M r q.2.1 q.2.2.1 q.2.2.2 = some (.inl q')) : eRun sc M tb q = eRun sc M tb q' := by
  refine eRun_ext fun x => ⟨?_, ?_⟩
  · rintro ⟨f, h⟩
    cases f with
    | zero => cases h
    | succ f =>
      unfold eExec at h
      rw [hf] at h
      dsimp only at h
      rw [hs] at h
      exact ⟨f, h⟩
  · rintro ⟨f, h⟩
    refine ⟨f + 1, ?_⟩
    unfold eExec
    rw [hf]
    dsimp only
    rw [hs]
    exact h
theorem eRun_end {sc : eSc} {M : eM} {tb : List eRow} {q : eS} {r : eRow} {x : eR} (hf : eFind tb q.1 = some r) (hs : estep sc M r q.2.1 q.2.2.1 q.2.2.2 = some (.inr x)) : eRun sc M tb q = some x := by
  refine eRun_iff.mpr ⟨1, ?_⟩
  unfold eExec
  rw [hf]
  dsimp only
  rw [hs]
theorem eRun_no {sc : eSc} {M : eM} {tb : List eRow} {q : eS} {r : eRow} (hf : eFind tb q.1 = some r) (hs : estep sc M r q.2.1 q.2.2.1 q.2.2.2 = none) : eRun sc M tb q = none := by
  cases h : eRun sc M tb q with
  | none => rfl
  | some x =>
    obtain ⟨f, h⟩ := eRun_iff.mp h
    cases f with
    | zero => cases h
    | succ f =>
      unfold eExec at h
      rw [hf] at h
      dsimp only at h
      rw [hs] at h
      cases h
end
section
/-! HOW A HEAP OF THE EVALUATOR LIES IN THE MACHINE: cell i at base + i; the script's cell is b (its reference is written as a float) -/
def qbad : va_E := .inr (99, [])
def lf (b base : Nat) (v : Value) : Value := match v with
  | .ref i => .ref (base + i)
  | .float _ => .ref b
  | v => v
def lfE (dA : Nat → ClassId) (b base : Nat) (x : va_E) : va_E := match x with
  | .inl (t, n, .inr (.inr (.inr (.inr g)))) => .inl (dA t, n, .inr (.inr (.inr (.inr (fun j => (g j).map (base + ·))))))
  | .inl (t, a) => .inl (dA t, a)
  | .inr (ci, fs) => .inr (ci, fs.map (lf b base))
def wl (dA : Nat → ClassId) (b base : Nat) (h : eH) : va_W := (List.range h.2.1).map (fun i => (base + i, lfE dA b base (h.1 i)))
def WH (D : va_G) (dA : Nat → ClassId) (b base : Nat) (h : eH) (H : Heap) : Prop := H.size = base + h.2.1 ∧ va_P D qcls (wl dA b base h) H ∧ ∀ i, h.2.1 ≤ i → h.1 i = qbad
abbrev tysL (dA : Nat → ClassId) : List (ClassId × FieldType) := [(dA 0, .int), (dA 1, .long), (dA 2, .boolean), (dA 3, .object "TensionNet$Whole"), (dA 4, .object "TensionNet$Triple"), (dA 5, .array .int), (dA 6, .array .long)]
def qOv : List FieldType := [.object "TensionNet$Whole", .object "TensionNet$Triple", .array .int, .array .long]
def qNe : List (String × Nat × MethodName) := [("TensionNet", 25, ⟨"TensionNet$Desk", "<init>", "()V"⟩), ("TensionNet$Desk", 11, ⟨"TensionNet$Divider", "<init>", "()V"⟩), ("TensionNet", 72, ⟨"TensionNet$Net", "<init>", "()V"⟩)]
def KK (D : va_G) (dA : Nat → ClassId) (U : State) : Prop := va_K D qcls (tysL dA) U ∧ (∀ t ∈ qOv, (Cond.arrayOver t).before #[] U = true) ∧ ∀ q ∈ qNe, va_Nw (.methodLinkNest q.1 q.2.1 q.2.2 "TensionNet") U
theorem ao_moved {t : FieldType} {A A' : Array Value} {u U : State} (hvm : u.vm.Alike U.vm) (h : (Cond.arrayOver t).before A u = true) : (Cond.arrayOver t).before A' U = true := by
  have h1 : (Cond.arrayOver t).before A (u.setVm U.vm) = true := by rw [Cond.arrayOver_setVmC hvm]; exact h
  exact h1
theorem KK.warm {D : va_G} {dA : Nat → ClassId} {s U : State} (hW : s.WarmedH U.vm) (h : KK D dA s) : KK D dA U := ⟨va_K.moved hW.alike h.1, fun t ht => ao_moved hW.alike (h.2.1 t ht), fun q hq => va_Nw.warmM hW (h.2.2 q hq)⟩
theorem KK.same {D : va_G} {dA : Nat → ClassId} {s U : State} (hv : s.vm = U.vm) (h : KK D dA s) : KK D dA U := ⟨va_K.moved (by rw [hv]; exact Vm.Alike.refl _) h.1, fun t ht => ao_moved (by rw [hv]; exact Vm.Alike.refl _) (h.2.1 t ht), fun q hq => (h.2.2 q hq).same rfl hv⟩
theorem wl_len {dA : Nat → ClassId} {b base : Nat} {h : eH} : (wl dA b base h).length = h.2.1 := by simp [wl]
theorem wl_at {dA : Nat → ClassId} {b base : Nat} {h : eH} {i : Nat} (hi : i < h.2.1) : (wl dA b base h)[i]? = some (base + i, lfE dA b base (h.1 i)) := by
  unfold wl
  rw [List.getElem?_map, List.getElem?_range hi]
  rfl
theorem wl_set {dA : Nat → ClassId} {b base : Nat} {h : eH} {i : Nat} {e : va_E} (hi : i < h.2.1) : (wl dA b base h).set i (base + i, lfE dA b base e) = wl dA b base (eUp h i e) := by
  refine List.ext_getElem? fun j => ?_
  by_cases hj : j < h.2.1
  · rw [wl_at (h := eUp h i e) hj]
    by_cases hij : i = j
    · subst hij
      rw [List.getElem?_set_self (by rw [wl_len]; exact hi)]
      simp [eUp, va_up]
    · rw [List.getElem?_set_ne hij, wl_at hj]
      simp [eUp, va_up, Ne.symm hij]
  · rw [List.getElem?_eq_none (by rw [List.length_set, wl_len]; omega), List.getElem?_eq_none (by rw [wl_len]; show h.2.1 ≤ j; omega)]
theorem wl_push {dA : Nat → ClassId} {b base : Nat} {h : eH} {e : va_E} {k : Nat} : wl dA b base h ++ [(base + h.2.1, lfE dA b base e)] = wl dA b base (va_up h.1 h.2.1 e, h.2.1 + 1, k) := by
  unfold wl
  dsimp only
  rw [List.range_succ, List.map_append]
  congr 1
  · refine List.map_congr_left fun i hi => ?_
    have : i < h.2.1 := List.mem_range.mp hi
    rw [show va_up h.1 h.2.1 e i = h.1 i from if_neg (by omega)]
  · show _ = [(base + h.2.1, lfE dA b base (va_up h.1 h.2.1 e h.2.1))]
    rw [show va_up h.1 h.2.1 e h.2.1 = e from if_pos rfl]
theorem wl_D {dA : Nat → ClassId} {b base : Nat} {h : eH} : va_D (fun q => base ≤ q) (wl dA b base h) := by
  have key : ∀ (i : Nat) (q : Nat × va_E), (wl dA b base h)[i]? = some q → q.1 = base + i := by
    intro i q hq
    have hi : i < h.2.1 := by rw [← wl_len (dA := dA) (b := b) (base := base)]; exact (List.getElem?_eq_some_iff.mp hq).1
    rw [wl_at hi] at hq
    cases hq
    rfl
  refine ⟨fun i j x y hi hj hxy => ?_, fun k q hk => ?_⟩
  · have := key i x hi
    have := key j y hj
    omega
  · rw [key k q hk]
    exact Nat.le_add_right _ _
theorem WH.lt {D : va_G} {dA : Nat → ClassId} {b base : Nat} {h : eH} {H : Heap} (hw : WH D dA b base h H) {a : Nat} {e : va_E} (he : h.1 a = e) (hne : e ≠ qbad) : a < h.2.1 := by
  by_cases hlt : a < h.2.1
  · exact hlt
  · exact absurd (he.symm.trans (hw.2.2 a (by omega))) hne
theorem WH.up {D : va_G} {dA : Nat → ClassId} {b base : Nat} {h : eH} {H H1 : Heap} (hw : WH D dA b base h H) {a : Nat} {e : va_E} (ha : a < h.2.1) (hz : H1.size = H.size) (hP : va_P D qcls ((wl dA b base h).set a (base + a, lfE dA b base e)) H1) : WH D dA b base (eUp h a e) H1 := by
  refine ⟨by rw [hz]; exact hw.1, by rw [← wl_set ha]; exact hP, fun i hi => ?_⟩
  show va_up h.1 a e i = qbad
  rw [show va_up h.1 a e i = h.1 i from if_neg (by have : h.2.1 ≤ i := hi; omega)]
  exact hw.2.2 i hi
/-- the locals -/
def eEnt (b base : Nat) (ls : eL) : List (Nat × Value) := (List.range ls.length).filterMap (fun i => (ls.getD i none).map (fun v => (i, lf b base v)))
theorem eEnt_mem {b base : Nat} {ls : eL} {q : Nat × Value} : q ∈ eEnt b base ls ↔ ∃ v, ls.getD q.1 none = some v ∧ q.2 = lf b base v := by
  unfold eEnt
  rw [List.mem_filterMap]
  constructor
  · rintro ⟨i, -, hi⟩
    cases hv : ls.getD i none with
    | none => rw [hv] at hi; cases hi
    | some v =>
      rw [hv] at hi
      cases hi
      exact ⟨v, hv, rfl⟩
  · rintro ⟨v, hv, he⟩
    have hlt : q.1 < ls.length := by
      by_cases h : q.1 < ls.length
      · exact h
      · rw [List.getD_eq_getElem?_getD, List.getElem?_eq_none (by omega)] at hv
        cases hv
    refine ⟨q.1, List.mem_range.mpr hlt, ?_⟩
    rw [hv]
    show some (q.1, lf b base v) = some q
    rw [← he]
theorem lv_incl {arr : Array Slot} {nL : Nat} {l l' : List (Nat × Value)} (h : lv_has arr nL l) (hi : ∀ q ∈ l', q ∈ l) : lv_has arr nL l' := ⟨h.1, h.2.1, fun q hq => h.2.2 q (hi q hq)⟩
theorem ent_at {b base : Nat} {ls : eL} {arr : Array Slot} {nL i : Nat} {v : Value} (h : lv_has arr nL (eEnt b base ls)) (hv : ls.getD i none = some v) : arr[i]? = some (.val (lf b base v)) := h.2.2 (i, lf b base v) (eEnt_mem.mpr ⟨v, hv, rfl⟩)
theorem lf_cat (b base : Nat) (v : Value) : (lf b base v).category = v.category := by cases v <;> rfl
theorem getD_set_self {α : Type} {l : List α} {i : Nat} {v d u : α} (h : (l.set i v).getD i d = u) (hne : u ≠ d) : u = v := by
  rw [List.getD_eq_getElem?_getD] at h
  by_cases hi : i < l.length
  · rw [List.getElem?_set_self hi] at h
    exact h.symm
  · rw [List.getElem?_eq_none (by rw [List.length_set]; omega)] at h
    exact absurd h.symm hne
theorem getD_set_ne {α : Type} {l : List α} {i j : Nat} {v d : α} (h : j ≠ i) : (l.set i v).getD j d = l.getD j d := by
  rw [List.getD_eq_getElem?_getD, List.getD_eq_getElem?_getD, List.getElem?_set_ne (Ne.symm h)]
theorem eKl_some {o : Option Value} {v : Value} (h : eKl o = some v) : o = some v ∧ v.category = 1 := by
  unfold eKl at h
  split at h
  · cases h
  · cases h
  · next h1 h2 =>
    subst h
    refine ⟨rfl, ?_⟩
    cases v <;> first | rfl | exact absurd rfl (h1 _) | exact absurd rfl (h2 _)
theorem eKill_get {ls : eL} {i j : Nat} {v : Value} (hj : j ≠ i) (h : (eKill ls i).getD j none = some v) : ls.getD j none = some v ∧ ¬ (j + 1 = i ∧ v.category = 2) := by
  cases i with
  | zero => exact ⟨h, fun q => by omega⟩
  | succ i =>
    unfold eKill at h
    by_cases hji : j = i
    · subst hji
      have h2 := getD_set_self h (by simp)
      have h3 := eKl_some h2.symm
      exact ⟨h3.1, fun q => by rw [h3.2] at q; exact absurd q.2 (by decide)⟩
    · rw [getD_set_ne hji] at h
      exact ⟨h, fun q => by omega⟩
theorem eKill_len (ls : eL) (i : Nat) : (eKill ls i).length = ls.length := by
  cases i with
  | zero => rfl
  | succ i => exact List.length_set ..
theorem eSet1_len (ls : eL) (i : Nat) (v : Value) : (eSet1 ls i v).length = ls.length := by
  unfold eSet1
  rw [List.length_set, eKill_len]
theorem eSet2_len (ls : eL) (i : Nat) (v : Value) : (eSet2 ls i v).length = ls.length := by
  unfold eSet2
  rw [List.length_set, List.length_set, eKill_len]
theorem eSet1_in {b base : Nat} {ls : eL} {i : Nat} {v : Value} : ∀ q ∈ eEnt b base (eSet1 ls i v), q ∈ (i, lf b base v) :: (eEnt b base ls).filter (fun q => !(q.1 == i) && !(q.1 + 1 == i && q.2.category == 2)) := by
  intro q hq
  obtain ⟨u, hu, he⟩ := eEnt_mem.mp hq
  unfold eSet1 at hu
  by_cases hi : q.1 = i
  · rw [hi] at hu
    have := Option.some.inj (getD_set_self hu (by simp))
    subst this
    refine List.mem_cons.mpr (Or.inl ?_)
    rw [← hi, ← he]
  · rw [getD_set_ne hi] at hu
    obtain ⟨h1, h2⟩ := eKill_get hi hu
    refine List.mem_cons.mpr (Or.inr (List.mem_filter.mpr ⟨eEnt_mem.mpr ⟨u, h1, he⟩, ?_⟩))
    rw [he, lf_cat]
    simp only [Bool.and_eq_true, Bool.not_eq_true', beq_eq_false_iff_ne, ne_eq, Bool.and_eq_false_iff]
    refine ⟨hi, ?_⟩
    by_cases h3 : q.1 + 1 = i
    · exact Or.inr (fun h4 => h2 ⟨h3, h4⟩)
    · exact Or.inl h3
theorem eSet2_in {b base : Nat} {ls : eL} {i : Nat} {v : Value} : ∀ q ∈ eEnt b base (eSet2 ls i v), q ∈ (i, lf b base v) :: (eEnt b base ls).filter (fun q => !(q.1 == i) && (!(q.1 == i + 1) && !(q.1 + 1 == i && q.2.category == 2))) := by
  intro q hq
  obtain ⟨u, hu, he⟩ := eEnt_mem.mp hq
  unfold eSet2 at hu
  have h9 : q.1 ≠ i + 1 := by
    intro h
    rw [h] at hu
    have := getD_set_self hu (by simp)
    cases this
  rw [getD_set_ne h9] at hu
  by_cases hi : q.1 = i
  · rw [hi] at hu
    have := Option.some.inj (getD_set_self hu (by simp))
    subst this
    refine List.mem_cons.mpr (Or.inl ?_)
    rw [← hi, ← he]
  · rw [getD_set_ne hi] at hu
    obtain ⟨h1, h2⟩ := eKill_get hi hu
    refine List.mem_cons.mpr (Or.inr (List.mem_filter.mpr ⟨eEnt_mem.mpr ⟨u, h1, he⟩, ?_⟩))
    rw [he, lf_cat]
    simp only [Bool.and_eq_true, Bool.not_eq_true', beq_eq_false_iff_ne, ne_eq, Bool.and_eq_false_iff]
    refine ⟨hi, h9, ?_⟩
    by_cases h3 : q.1 + 1 = i
    · exact Or.inr (fun h4 => h2 ⟨h3, h4⟩)
    · exact Or.inl h3
/-- the locals at the entry -/
def entL (n : Nat) (as : List Value) : eL := as.flatMap (fun v => if v.category = 2 then [some v, none] else [some v]) ++ List.replicate (n - (as.flatMap (fun v => if v.category = 2 then [some v, none] else [some v])).length) none
theorem ent_args {b base : Nat} : ∀ (as : List Value) (i j : Nat) (v : Value) (t : eL), (∀ k, t.getD k none = none) → ((as.flatMap (fun v => if v.category = 2 then [some v, none] else [some v])) ++ t).getD j none = some v → (i + j, lf b base v) ∈ lv_args i (as.map (lf b base)) := by
  intro as
  induction as with
  | nil =>
    intro i j v t ht h
    rw [List.flatMap_nil, List.nil_append, ht] at h
    cases h
  | cons a as ih =>
    intro i j v t ht h
    show (i + j, lf b base v) ∈ (i, lf b base a) :: lv_args (if (lf b base a).category = 2 then i + 2 else i + 1) (as.map (lf b base))
    rw [lf_cat, List.flatMap_cons] at *
    by_cases hc : a.category = 2
    · rw [if_pos hc] at h ⊢
      match j, h with
      | 0, h => cases h; exact List.mem_cons_self
      | 1, h => cases h
      | j + 2, h =>
        have := ih (i + 2) j v t ht h
        rw [show i + (j + 2) = i + 2 + j by omega]
        exact List.mem_cons_of_mem _ this
    · rw [if_neg hc] at h ⊢
      match j, h with
      | 0, h => cases h; exact List.mem_cons_self
      | j + 1, h =>
        have := ih (i + 1) j v t ht h
        rw [show i + (j + 1) = i + 1 + j by omega]
        exact List.mem_cons_of_mem _ this
theorem entL_in {b base n : Nat} {as : List Value} : ∀ q ∈ eEnt b base (entL n as), q ∈ lv_args 0 (as.map (lf b base)) := by
  intro q hq
  obtain ⟨u, hu, he⟩ := eEnt_mem.mp hq
  have := ent_args (b := b) (base := base) as 0 q.1 u (List.replicate _ none) (fun k => by
    rw [List.getD_eq_getElem?_getD, List.getElem?_replicate]
    split <;> rfl) hu
  rw [Nat.zero_add, ← he] at this
  exact this
theorem entL_sl {b base : Nat} (as : List Value) : (lg_sl (as.map (lf b base))).length = (as.flatMap (fun v => if v.category = 2 then [some v, (none : Option Value)] else [some v])).length := by
  induction as with
  | nil => rfl
  | cons a as ih =>
    show (lg_sl (lf b base a :: as.map (lf b base))).length = _
    unfold lg_sl at ih ⊢
    rw [List.flatMap_cons, List.flatMap_cons, List.length_append, List.length_append, ih, lf_cat]
    by_cases hc : a.category = 2
    · rw [if_pos hc, if_pos hc]; rfl
    · rw [if_neg hc, if_neg hc]; rfl
theorem eSum_map {b base : Nat} (t : List Value) : ((t.map (lf b base)).map fun v => v.category).sum = eSum t := by
  induction t with
  | nil => rfl
  | cons v t ih =>
    simp only [List.map_cons, List.sum_cons, eSum, ih, lf_cat]
/-! what it takes that a step is one -/
section IV
variable {α : Type} {z : α}
theorem iv_oA {o : Option Value} {f : Value → Option α} (h : oA o f = some z) : ∃ v, o = some v ∧ ((∃ a, v = .ref a) ∨ ∃ a, v = .float a) ∧ f v = some z := by
  unfold oA at h
  split at h
  · exact ⟨_, rfl, Or.inl ⟨_, rfl⟩, h⟩
  · exact ⟨_, rfl, Or.inr ⟨_, rfl⟩, h⟩
  · cases h
theorem iv_oI {o : Option Value} {f : Int32 → Option α} (h : oI o f = some z) : ∃ x, o = some (.int x) ∧ f x = some z := by
  unfold oI at h
  split at h
  · exact ⟨_, rfl, h⟩
  · cases h
theorem iv_oL {o : Option Value} {f : Int64 → Option α} (h : oL o f = some z) : ∃ x, o = some (.long x) ∧ f x = some z := by
  unfold oL at h
  split at h
  · exact ⟨_, rfl, h⟩
  · cases h
theorem iv_sI {st : List Value} {f : Int32 → List Value → Option α} (h : sI st f = some z) : ∃ x t, st = .int x :: t ∧ f x t = some z := by
  unfold sI at h
  split at h
  · exact ⟨_, _, rfl, h⟩
  · cases h
theorem iv_sL {st : List Value} {f : Int64 → List Value → Option α} (h : sL st f = some z) : ∃ x t, st = .long x :: t ∧ f x t = some z := by
  unfold sL at h
  split at h
  · exact ⟨_, _, rfl, h⟩
  · cases h
theorem iv_sR {st : List Value} {f : Nat → List Value → Option α} (h : sR st f = some z) : ∃ x t, st = .ref x :: t ∧ f x t = some z := by
  unfold sR at h
  split at h
  · exact ⟨_, _, rfl, h⟩
  · cases h
theorem iv_sII {st : List Value} {f : Int32 → Int32 → List Value → Option α} (h : sII st f = some z) : ∃ x y t, st = .int y :: .int x :: t ∧ f x y t = some z := by
  unfold sII at h
  split at h
  · exact ⟨_, _, _, rfl, h⟩
  · cases h
theorem iv_sLL {st : List Value} {f : Int64 → Int64 → List Value → Option α} (h : sLL st f = some z) : ∃ x y t, st = .long y :: .long x :: t ∧ f x y t = some z := by
  unfold sLL at h
  split at h
  · exact ⟨_, _, _, rfl, h⟩
  · cases h
theorem iv_sLI {st : List Value} {f : Int64 → Int32 → List Value → Option α} (h : sLI st f = some z) : ∃ x y t, st = .int y :: .long x :: t ∧ f x y t = some z := by
  unfold sLI at h
  split at h
  · exact ⟨_, _, _, rfl, h⟩
  · cases h
theorem iv_sIR {st : List Value} {f : Int32 → Nat → List Value → Option α} (h : sIR st f = some z) : ∃ i a t, st = .int i :: .ref a :: t ∧ f i a t = some z := by
  unfold sIR at h
  split at h
  · exact ⟨_, _, _, rfl, h⟩
  · cases h
theorem iv_sIIR {st : List Value} {f : Int32 → Int32 → Nat → List Value → Option α} (h : sIIR st f = some z) : ∃ x i a t, st = .int x :: .int i :: .ref a :: t ∧ f x i a t = some z := by
  unfold sIIR at h
  split at h
  · exact ⟨_, _, _, _, rfl, h⟩
  · cases h
theorem iv_sLIR {st : List Value} {f : Int64 → Int32 → Nat → List Value → Option α} (h : sLIR st f = some z) : ∃ x i a t, st = .long x :: .int i :: .ref a :: t ∧ f x i a t = some z := by
  unfold sLIR at h
  split at h
  · exact ⟨_, _, _, _, rfl, h⟩
  · cases h
theorem iv_sRIR {st : List Value} {f : Nat → Int32 → Nat → List Value → Option α} (h : sRIR st f = some z) : ∃ x i a t, st = .ref x :: .int i :: .ref a :: t ∧ f x i a t = some z := by
  unfold sRIR at h
  split at h
  · exact ⟨_, _, _, _, rfl, h⟩
  · cases h
theorem iv_sVR {st : List Value} {f : Value → Nat → List Value → Option α} (h : sVR st f = some z) : ∃ v a t, st = v :: .ref a :: t ∧ f v a t = some z := by
  unfold sVR at h
  split at h
  · exact ⟨_, _, _, rfl, h⟩
  · cases h
theorem iv_sV {st : List Value} {f : Value → List Value → Option α} (h : sV st f = some z) : ∃ v t, st = v :: t ∧ f v t = some z := by
  unfold sV at h
  split at h
  · exact ⟨_, _, rfl, h⟩
  · cases h
theorem iv_sCpy {st : List Value} {f : Nat → Int32 → Nat → Int32 → Int32 → List Value → Option α} (h : sCpy st f = some z) : ∃ a0 sp a1 dp n t, st = .int n :: .int dp :: .ref a1 :: .int sp :: .ref a0 :: t ∧ f a0 sp a1 dp n t = some z := by
  unfold sCpy at h
  split at h
  · exact ⟨_, _, _, _, _, _, rfl, h⟩
  · cases h
theorem iv_sIF {st : List Value} {f : Int32 → Nat → List Value → Option α} {g : Int32 → List Value → Option α} (h : sIF st f g = some z) : (∃ i a t, st = .int i :: .ref a :: t ∧ f i a t = some z) ∨ ∃ i x t, st = .int i :: .float x :: t ∧ g i t = some z := by
  unfold sIF at h
  split at h
  · exact Or.inl ⟨_, _, _, rfl, h⟩
  · exact Or.inr ⟨_, _, _, rfl, h⟩
  · cases h
theorem iv_sRF {st : List Value} {f : Nat → List Value → Option α} {g : List Value → Option α} (h : sRF st f g = some z) : (∃ a t, st = .ref a :: t ∧ f a t = some z) ∨ ∃ x t, st = .float x :: t ∧ g t = some z := by
  unfold sRF at h
  split at h
  · exact Or.inl ⟨_, _, rfl, h⟩
  · exact Or.inr ⟨_, _, rfl, h⟩
  · cases h
theorem iv_oSc {sc : Option (Nat × (Nat → Int32))} {f : Nat → (Nat → Int32) → Option α} (h : oSc sc f = some z) : ∃ n g, sc = some (n, g) ∧ f n g = some z := by
  unfold oSc at h
  split at h
  · exact ⟨_, _, rfl, h⟩
  · cases h
theorem iv_bo {b : Bool} {o : Option α} (h : bo b o = some z) : b = true ∧ o = some z := by
  cases b with
  | false => cases h
  | true => exact ⟨rfl, h⟩
theorem iv_hO {h0 : eH} {a : Nat} {f : Nat → List Value → Option α} (h : hO h0 a f = some z) : ∃ ci fs, h0.1 a = .inr (ci, fs) ∧ f ci fs = some z := by
  unfold hO at h
  split at h
  · next e => exact ⟨_, _, e, h⟩
  · cases h
theorem iv_hI {h0 : eH} {a tg : Nat} {f : Nat → (Nat → Int32) → Option α} (h : hI h0 a tg f = some z) : ∃ n g, h0.1 a = .inl (tg, n, .inl g) ∧ f n g = some z := by
  unfold hI at h
  split at h
  · next t n g e =>
    obtain ⟨h1, h2⟩ := iv_bo h
    rw [Nat.eq_of_beq_eq_true h1] at e
    exact ⟨_, _, e, h2⟩
  · cases h
theorem iv_hL {h0 : eH} {a : Nat} {f : Nat → (Nat → Int64) → Option α} (h : hL h0 a f = some z) : ∃ n g, h0.1 a = .inl (1, n, .inr (.inl g)) ∧ f n g = some z := by
  unfold hL at h
  split at h
  · next t n g e =>
    obtain ⟨h1, h2⟩ := iv_bo h
    rw [Nat.eq_of_beq_eq_true h1] at e
    exact ⟨_, _, e, h2⟩
  · cases h
theorem iv_hQ {h0 : eH} {a : Nat} {f : Nat → Nat → (Nat → Option Nat) → Option α} (h : hQ h0 a f = some z) : ∃ t n g, h0.1 a = .inl (t, n, .inr (.inr (.inr (.inr g)))) ∧ 3 ≤ t ∧ t ≤ 6 ∧ f t n g = some z := by
  unfold hQ at h
  split at h
  · next t n g e =>
    obtain ⟨h1, h2⟩ := iv_bo h
    rw [Bool.and_eq_true] at h1
    exact ⟨_, _, _, e, Nat.le_of_ble_eq_true h1.1, Nat.le_of_ble_eq_true h1.2, h2⟩
  · cases h
theorem iv_hN {h0 : eH} {a : Nat} {f : Nat → Option α} (h : hN h0 a f = some z) : ∃ t x, h0.1 a = .inl (t, x) ∧ t ≤ 6 ∧ f x.1 = some z := by
  unfold hN at h
  split at h
  · next t n g e =>
    obtain ⟨h1, h2⟩ := iv_bo h
    exact ⟨_, _, e, Nat.le_of_ble_eq_true h1, h2⟩
  · cases h
theorem iv_in {i : Int32} {n : Nat} {o : Option α} (h : inR i n o = some z) : vp_in i n ∧ o = some z := by
  unfold inR at h
  by_cases hc : i < 0 ∨ n ≤ i.toNatClampNeg
  · rw [if_pos hc] at h; cases h
  · rw [if_neg hc] at h; exact ⟨hc, h⟩
end IV
end
section
/-! what is checked of the rows of code, and of the methods, by the kernel -/
abbrev eMI : Type := MethodName × ByteArray × Nat × Option FieldType × Bool × (Nat × Nat × Nat × Nat) × Nat × Nat × Nat
def wAt (i : Nat) (w : Cond) : Bool := lw_tbl[i]? == some w && goodWord w
theorem wAt_ok {i : Nat} {w : Cond} (h : wAt i w = true) : w ∈ gT := by
  simp only [wAt, Bool.and_eq_true, beq_iff_eq] at h
  exact gT_in i h.1 h.2
def mB (i : eMI) : Bool :=
  plainFor i.1 && (bif i.2.2.2.2.1 then wAt i.2.2.2.2.2.1.2.1 (.static i.1) else wAt i.2.2.2.2.2.1.2.1 (.instanceMethod i.1)) &&
  (i.2.2.2.2.1 || i.1.name == "<init>" || wAt i.2.2.2.2.2.1.2.2.1 (.selects i.1.cls i.1 i.1)) && wAt i.2.2.2.2.2.1.2.2.2 (.initialized i.1.cls) && (i.1.cls != "java/lang/invoke/MethodHandle" && i.1.cls != "java/lang/invoke/VarHandle") &&
  (i.2.2.2.2.1 || (match qcls[i.2.2.2.2.2.2.1]? with | some q => q.1 == i.1.cls | none => false))
def mOK (i : eMI) : Prop := plainFor i.1 = true ∧ Cond.code i.1 i.2.1 i.2.2.1 i.2.2.2.1 ∈ gT ∧ (i.2.2.2.2.1 = true → Cond.static i.1 ∈ gT) ∧ (i.2.2.2.2.1 = false → Cond.instanceMethod i.1 ∈ gT) ∧ (i.2.2.2.2.1 = false → i.1.name ≠ "<init>" → Cond.selects i.1.cls i.1 i.1 ∈ gT) ∧ Cond.initialized i.1.cls ∈ gT ∧ (i.1.cls ≠ "java/lang/invoke/MethodHandle" ∧ i.1.cls ≠ "java/lang/invoke/VarHandle") ∧ (i.2.2.2.2.1 = false → ∃ q, qcls[i.2.2.2.2.2.2.1]? = some q ∧ q.1 = i.1.cls)
theorem mB_ok {i : eMI} (hc : lw_tbl[i.2.2.2.2.2.1.1]? = some (.code i.1 i.2.1 i.2.2.1 i.2.2.2.1)) (h : mB i = true) : mOK i := by
  simp only [mB, Bool.and_eq_true, Bool.or_eq_true, beq_iff_eq, bne_iff_ne, ne_eq] at h
  obtain ⟨⟨⟨⟨⟨h1, h3⟩, h4⟩, h5⟩, h6⟩, h7⟩ := h
  refine ⟨h1, gT_in _ hc rfl, fun hs => ?_, fun hs => ?_, fun hs hn => ?_, wAt_ok h5, h6, fun hs => ?_⟩
  · rw [hs] at h3; exact wAt_ok h3
  · rw [hs] at h3; exact wAt_ok h3
  · rcases h4 with (h4 | h4) | h4
    · rw [hs] at h4; cases h4
    · exact absurd h4 hn
    · exact wAt_ok h4
  · rcases h7 with h7 | h7
    · rw [hs] at h7; cases h7
    · split at h7
      · next q hq => exact ⟨q, hq, by simpa using h7⟩
      · cases h7
section CHK
variable (qm : Nat → eMI) (k : Nat)
/-- a call's own: the callee is an earlier method, its room fits, so many arguments -/
def cB (r : eRow) : Bool :=
  Nat.blt r.2.2.2.1 k && Nat.ble ((qm r.2.2.2.1).2.2.2.2.2.2.2.1 + 1) (qm k).2.2.2.2.2.2.2.1 && Nat.ble (8 + ((qm r.2.2.2.1).2.2.1 + 11) + (qm r.2.2.2.1).2.2.2.2.2.2.2.2) (qm k).2.2.2.2.2.2.2.2 && ((parseMethodDescriptor (qm r.2.2.2.1).1.desc).map (fun d => d.parameters.length) == some r.2.2.2.2.1)
def fB (r : eRow) (idx : Nat) : Bool := match qcls[r.2.2.2.1]? with
  | some q => Nat.blt r.2.2.2.2.1 q.2.2 && wAt r.2.2.2.2.2 (.fieldLink (qm k).1.cls idx q.1 (q.2.1 r.2.2.2.2.1).2.1 (q.2.1 r.2.2.2.2.1).2.2.1)
  | none => false
def pB (r : eRow) : Bool := match qcls[r.2.2.2.1]? with
  | some q => (q.2.1 r.2.2.2.2.1).2.2.2 == false || ((qm k).1.name == "<init>" && (qm k).1.cls == q.1)
  | none => false
def jB (r : eRow) (off : Int) : Bool := decide ((r.1 : Int) + off = (r.2.2.2.1 : Int)) && Nat.beq r.2.2.1 3
def iB (r : eRow) : Bool := match r.2.1 with
  | .aload_n _ => Nat.beq r.2.2.1 1
  | .aload _ => Nat.beq r.2.2.1 2
  | .iload_n _ => Nat.beq r.2.2.1 1
  | .iload _ => Nat.beq r.2.2.1 2
  | .lload_n _ => Nat.beq r.2.2.1 1
  | .lload _ => Nat.beq r.2.2.1 2
  | .istore_n n => Nat.beq r.2.2.1 1 && Nat.blt n.val (qm k).2.2.1
  | .istore n => Nat.beq r.2.2.1 2 && Nat.blt n (qm k).2.2.1
  | .astore_n n => Nat.beq r.2.2.1 1 && Nat.blt n.val (qm k).2.2.1
  | .astore n => Nat.beq r.2.2.1 2 && Nat.blt n (qm k).2.2.1
  | .lstore_n n => Nat.beq r.2.2.1 1 && Nat.blt (n.val + 1) (qm k).2.2.1
  | .lstore n => Nat.beq r.2.2.1 2 && Nat.blt (n + 1) (qm k).2.2.1
  | .iinc i _ => Nat.beq r.2.2.1 3 && Nat.blt i (qm k).2.2.1
  | .iconst _ => Nat.beq r.2.2.1 1
  | .bipush _ => Nat.beq r.2.2.1 2
  | .sipush _ => Nat.beq r.2.2.1 3
  | .lconst _ => Nat.beq r.2.2.1 1
  | .ldc i => Nat.beq r.2.2.1 2 && wAt r.2.2.2.2.2 (.constant (qm k).1.cls i (Int32.ofNat r.2.2.2.1))
  | .ldc2_w i => Nat.beq r.2.2.1 3 && wAt r.2.2.2.2.2 (.constantLong (qm k).1.cls i (bif Nat.beq r.2.2.2.2.1 0 then Int64.ofNat r.2.2.2.1 else -Int64.ofNat r.2.2.2.1))
  | .iadd => Nat.beq r.2.2.1 1
  | .isub => Nat.beq r.2.2.1 1
  | .imul => Nat.beq r.2.2.1 1
  | .iand => Nat.beq r.2.2.1 1
  | .ior => Nat.beq r.2.2.1 1
  | .ishr => Nat.beq r.2.2.1 1
  | .iushr => Nat.beq r.2.2.1 1
  | .idiv => Nat.beq r.2.2.1 1
  | .irem => Nat.beq r.2.2.1 1
  | .ineg => Nat.beq r.2.2.1 1
  | .ladd => Nat.beq r.2.2.1 1
  | .lsub => Nat.beq r.2.2.1 1
  | .lmul => Nat.beq r.2.2.1 1
  | .land => Nat.beq r.2.2.1 1
  | .lor => Nat.beq r.2.2.1 1
  | .lxor => Nat.beq r.2.2.1 1
  | .ldiv => Nat.beq r.2.2.1 1
  | .lrem => Nat.beq r.2.2.1 1
  | .lneg => Nat.beq r.2.2.1 1
  | .lshl => Nat.beq r.2.2.1 1
  | .lcmp => Nat.beq r.2.2.1 1
  | .i2l => Nat.beq r.2.2.1 1
  | .l2i => Nat.beq r.2.2.1 1
  | .i2b => Nat.beq r.2.2.1 1
  | .i2s => Nat.beq r.2.2.1 1
  | .dup => Nat.beq r.2.2.1 1
  | .pop => Nat.beq r.2.2.1 1
  | .dup2 => Nat.beq r.2.2.1 1
  | .goto off => jB r off
  | .ifCond _ off => jB r off
  | .if_icmp _ off => jB r off
  | .tableswitch _ _ _ _ => true
  | .getfield i => Nat.beq r.2.2.1 3 && fB qm k r i
  | .putfield i => Nat.beq r.2.2.1 3 && fB qm k r i && pB qm k r
  | .iaload => Nat.beq r.2.2.1 1
  | .baload => Nat.beq r.2.2.1 1
  | .laload => Nat.beq r.2.2.1 1
  | .aaload => Nat.beq r.2.2.1 1
  | .iastore => Nat.beq r.2.2.1 1
  | .bastore => Nat.beq r.2.2.1 1
  | .lastore => Nat.beq r.2.2.1 1
  | .aastore => Nat.beq r.2.2.1 1
  | .arraylength => Nat.beq r.2.2.1 1
  | .new i => Nat.beq r.2.2.1 3 && (match qcls[r.2.2.2.1]? with | some q => wAt r.2.2.2.2.2 (.classLink (qm k).1.cls i q.1) | none => false)
  | .newarray a => Nat.beq r.2.2.1 2 && wAt r.2.2.2.2.2 (.arrayClass (newarray.typeOf a))
  | .anewarray i => Nat.beq r.2.2.1 3 && ((Nat.beq r.2.2.2.1 3 && wAt r.2.2.2.2.2 (.classLink (qm k).1.cls i "TensionNet$Whole")) || (Nat.beq r.2.2.2.1 4 && wAt r.2.2.2.2.2 (.classLink (qm k).1.cls i "TensionNet$Triple")))
  | .multianewarray i d => Nat.beq r.2.2.1 4 && Nat.beq d 2 && ((Nat.beq r.2.2.2.1 5 && Nat.beq r.2.2.2.2.1 0 && wAt r.2.2.2.2.2 (.classLink (qm k).1.cls i ("[" ++ (FieldType.array .int).toString))) || (Nat.beq r.2.2.2.1 6 && Nat.beq r.2.2.2.2.1 1 && wAt r.2.2.2.2.2 (.classLink (qm k).1.cls i ("[" ++ (FieldType.array .long).toString))))
  | .invokevirtual i => Nat.beq r.2.2.1 3 && cB qm k r && !(qm r.2.2.2.1).2.2.2.2.1 && (qm r.2.2.2.1).1.name != "<init>" && wAt r.2.2.2.2.2 (.methodLink (qm k).1.cls i (qm r.2.2.2.1).1)
  | .invokespecial i => Nat.beq r.2.2.1 3 && (bif Nat.beq r.2.2.2.1 9999 then wAt r.2.2.2.2.2 (.methodLink (qm k).1.cls i objectInit) && Nat.ble 1 (qm k).2.2.2.2.2.2.2.1 && Nat.ble 20 (qm k).2.2.2.2.2.2.2.2 else
      (cB qm k r && !(qm r.2.2.2.1).2.2.2.2.1 && (qm r.2.2.2.1).1.name == "<init>" && (qm r.2.2.2.1).2.2.2.1 == none && (wAt r.2.2.2.2.2 (.methodLink (qm k).1.cls i (qm r.2.2.2.1).1) || decide (((qm k).1.cls, i, (qm r.2.2.2.1).1) ∈ qNe))))
  | .invokestatic i => Nat.beq r.2.2.1 3 && (bif Nat.beq r.2.2.2.1 9998 then wAt r.2.2.2.2.2 (.methodLink (qm k).1.cls i arraycopyName) && Nat.ble 1 (qm k).2.2.2.2.2.2.2.1 && Nat.ble 40 (qm k).2.2.2.2.2.2.2.2 else
      (cB qm k r && (qm r.2.2.2.1).2.2.2.2.1 && wAt r.2.2.2.2.2 (.methodLink (qm k).1.cls i (qm r.2.2.2.1).1)))
  | .ireturn => Nat.beq r.2.2.1 1 && ((Nat.beq r.2.2.2.1 0 && (qm k).2.2.2.1 == some .int) || (Nat.beq r.2.2.2.1 1 && (qm k).2.2.2.1 == some .boolean))
  | .lreturn => Nat.beq r.2.2.1 1 && (qm k).2.2.2.1 == some .long
  | .areturn => Nat.beq r.2.2.1 1 && (qm k).2.2.2.1 == some (.object "TensionNet$Whole")
  | .return_ => Nat.beq r.2.2.1 1 && (qm k).2.2.2.1 == none
  | _ => false
def rB (r : eRow) : Bool := decide (decode (qm k).2.1 r.1 = .ok (r.2.1, r.2.2.1)) && iB qm k r
end CHK
theorem qObjI : Cond.instanceMethod objectInit ∈ gT ∧ Cond.code objectInit ⟨#[0xb1]⟩ 1 none ∈ gT := ⟨wAt_ok (i := 91) (by decide +kernel), wAt_ok (i := 92) (by decide +kernel)⟩
theorem qCpyW : Cond.native arraycopyName ∈ gT ∧ Cond.static arraycopyName ∈ gT ∧ Cond.initialized "java/lang/System" ∈ gT := ⟨wAt_ok (i := 628) (by decide +kernel), wAt_ok (i := 627) (by decide +kernel), wAt_ok (i := 84) (by decide +kernel)⟩
theorem qArrW : Cond.arrayClass .int ∈ gT ∧ Cond.arrayClass .long ∈ gT ∧ Cond.arrayClass .boolean ∈ gT := ⟨wAt_ok (i := 125) (by decide +kernel), wAt_ok (i := 124) (by decide +kernel), wAt_ok (i := 340) (by decide +kernel)⟩
end
section
/-! A STEP OF THE EVALUATOR IS A STEP OF THE MACHINE -/
def eQ (D : va_G) (dA : Nat → ClassId) (b base : Nat) (x : eR) : Array Value → State → Outcome → State → Prop := fun _ st oc t => oc = .returned (x.1.map (lf b base)) ∧ WH D dA b base x.2 t.heap ∧ KK D dA t ∧ va_F (fun q => base ≤ q) st t
def ePc (D : va_G) (dA : Nat → ClassId) (b base : Nat) (as : List Value) (h : eH) : Array Value → State → Prop := va_Pc (as.map (lf b base)) (fun U => WH D dA b base h U.heap ∧ KK D dA U)
abbrev eRm (i : eMI) (h : eH) (x : eR) : Room := { frames := i.2.2.2.2.2.2.2.1, cells := x.2.2.1 - h.2.1, slots := x.2.2.2 - h.2.2, locals := i.2.2.2.2.2.2.2.2 }
def eMet (l : Launch) (D : va_G) (dA : Nat → ClassId) (b base : Nat) (i : eMI) (as : List Value) (h : eH) (x : eR) : Prop := Met l i.1 (Cond.code i.1 i.2.1 i.2.2.1 i.2.2.2.1 :: gT) (eRm i h x) (ePc D dA b base as h) (eQ D dA b base x) (x.2.2.1 - h.2.1) (x.2.2.2 - h.2.2) (fun q => base ≤ q)
def eMOK (qm : Nat → eMI) (l : Launch) (D : va_G) (dA : Nat → ClassId) (b base k : Nat) (M : eM) : Prop := ∀ (j : Nat) (as : List Value) (h : eH) (x : eR), j < k → M j as h = some x → mOK (qm j) ∧ eMet l D dA b base (qm j) as h x ∧ h.2.1 ≤ x.2.2.1 ∧ h.2.2 ≤ x.2.2.2 ∧ ((qm j).2.2.2.2.1 = false → ∀ a t, as = .ref a :: t → ∃ fs, h.1 a = .inr ((qm j).2.2.2.2.2.2.1, fs))
def eCx (p : Program) (s : State) (m : MethodId) (args : Array Value) (meth : Method) (c : Code) (D : va_G) (dA : Nat → ClassId) (b base : Nat) (sc : eSc) (i : eMI) (Ts : List Cond) : Prop :=
  p.tables.exec = Jvm.exec ∧ c.code = i.2.1 ∧ c.maxLocals = i.2.2.1 ∧ s.vm.findClass i.1.cls = some m.cls ∧ (∀ w ∈ Ts, w.before args s = true) ∧ (∀ w ∈ gT, w ∈ Ts) ∧ KK D dA s ∧ base ≤ s.heap.size ∧ (i.1.name = "<init>" → meth.name = "<init>") ∧ (∀ L xs, sc = some (L, xs) → va_X b L xs s s.heap ∧ b < s.heap.size ∧ b < base)
section SND
variable {p : Program} {l : Launch} {e : Env} {R : Room} {s : State} {m : MethodId} {args : Array Value} {below : List Frame} {meth : Method} {c : Code} {D : va_G} {dA : Nat → ClassId} {b base : Nat}
def eGo (p : Program) (l : Launch) (e : Env) (R : Room) (s : State) (m : MethodId) (args : Array Value) (below : List Frame) (meth : Method) (c : Code) (D : va_G) (dA : Nat → ClassId) (b base nL : Nat) (pc : Nat) (ls : eL) (st : List Value) (h : eH) (q' : eS) : Prop :=
  h.2.1 ≤ q'.2.2.2.2.1 ∧ h.2.2 ≤ q'.2.2.2.2.2 ∧ q'.2.1.length = ls.length ∧ ∀ {H : Heap} {locs : List Loc} {cells slots : Nat} {arr : Array Slot} {Q : State → Prop}, lv_has arr nL (eEnt b base ls) → WH D dA b base h H → va_S (fun q => base ≤ q) s.heap H locs → cells + (q'.2.2.2.2.1 - h.2.1) ≤ R.cells → slots + (q'.2.2.2.2.2 - h.2.2) ≤ R.slots →
    (∀ (H' : Heap) (locs' : List Loc) (arr' : Array Slot), lv_has arr' nL (eEnt b base q'.2.1) → WH D dA b base q'.2.2.2 H' → va_S (fun q => base ≤ q) s.heap H' locs' → W p l e R s m args below meth c H' locs' (cells + (q'.2.2.2.2.1 - h.2.1)) (slots + (q'.2.2.2.2.2 - h.2.2)) Q (F0 m q'.1 arr' (q'.2.2.1.map (lf b base)))) →
    W p l e R s m args below meth c H locs cells slots Q (F0 m pc arr (st.map (lf b base)))
/-- the heap stays -/
theorem eGo.pure {nL pc pc' : Nat} {ls ls' : eL} {st st' : List Value} {h : eH} (hl : ls'.length = ls.length)
    (k : ∀ {H : Heap} {locs : List Loc} {cells slots : Nat} {arr : Array Slot} {Q : State → Prop}, lv_has arr nL (eEnt b base ls) → WH D dA b base h H → va_S (fun q => base ≤ q) s.heap H locs → (∀ arr' : Array Slot, lv_has arr' nL (eEnt b base ls') → W p l e R s m args below meth c H locs cells slots Q (F0 m pc' arr' (st'.map (lf b base)))) → W p l e R s m args below meth c H locs cells slots Q (F0 m pc arr (st.map (lf b base)))) :
    eGo p l e R s m args below meth c D dA b base nL pc ls st h (pc', ls', st', h) := by
  refine ⟨Nat.le_refl _, Nat.le_refl _, hl, fun {H locs cells slots arr Q} hl hw hS h1 h2 kk => k hl hw hS fun arr' hl' => ?_⟩
  have := kk H locs arr' hl' hw hS
  simpa using this
/-- the locals stay too -/
theorem eGo.pure1 {nL pc pc' : Nat} {ls : eL} {st st' : List Value} {h : eH}
    (k : ∀ {H : Heap} {locs : List Loc} {cells slots : Nat} {arr : Array Slot} {Q : State → Prop}, lv_has arr nL (eEnt b base ls) → WH D dA b base h H → va_S (fun q => base ≤ q) s.heap H locs → W p l e R s m args below meth c H locs cells slots Q (F0 m pc' arr (st'.map (lf b base))) → W p l e R s m args below meth c H locs cells slots Q (F0 m pc arr (st.map (lf b base)))) :
    eGo p l e R s m args below meth c D dA b base nL pc ls st h (pc', ls, st', h) := eGo.pure rfl fun hl hw hS kk => k hl hw hS (kk _ hl)
/-- one cell changes -/
theorem eGo.put {nL pc pc' : Nat} {ls : eL} {st st' : List Value} {h : eH} {a : Nat} {x : va_E} (ha : h.1 a ≠ qbad)
    (k : ∀ {H : Heap} {locs : List Loc} {cells slots : Nat} {arr : Array Slot} {Q : State → Prop}, lv_has arr nL (eEnt b base ls) → WH D dA b base h H → a < h.2.1 → va_S (fun q => base ≤ q) s.heap H locs → (∀ (H' : Heap) (locs' : List Loc), va_P D qcls ((wl dA b base h).set a (base + a, lfE dA b base x)) H' → H'.size = H.size → va_S (fun q => base ≤ q) s.heap H' locs' → W p l e R s m args below meth c H' locs' cells slots Q (F0 m pc' arr (st'.map (lf b base)))) → W p l e R s m args below meth c H locs cells slots Q (F0 m pc arr (st.map (lf b base)))) :
    eGo p l e R s m args below meth c D dA b base nL pc ls st h (pc', ls, st', eUp h a x) := by
  refine ⟨Nat.le_refl _, Nat.le_refl _, rfl, fun {H locs cells slots arr Q} hl hw hS h1 h2 kk => ?_⟩
  have hlt := hw.lt rfl ha
  refine k hl hw hlt hS fun H' locs' hP hz hS' => ?_
  have := kk H' locs' arr hl (hw.up hlt hz hP) hS'
  simpa [eUp] using this
theorem lf_int (x : Int32) : lf b base (.int x) = .int x := rfl
theorem W_size {H H' : Heap} {locs' : List Loc} {P : Prop} (h : P) : P := h
theorem okv_ok {ty : FieldType} {v : Value} (h : okv ty v = true) : narrow ty (lf b base v) = lf b base v ∧ fits ty (lf b base v) = true := by
  unfold okv at h
  split at h
  · exact ⟨rfl, rfl⟩
  · exact ⟨rfl, rfl⟩
  · next x =>
    simp only [Bool.or_eq_true, beq_iff_eq] at h
    rcases h with rfl | rfl
    · exact ⟨show narrow .boolean (.int 0) = .int 0 by decide, show fits .boolean (.int 0) = true by decide⟩
    · exact ⟨show narrow .boolean (.int 1) = .int 1 by decide, show fits .boolean (.int 1) = true by decide⟩
  · exact ⟨rfl, rfl⟩
  · exact ⟨rfl, rfl⟩
  · cases h
theorem nb {x y : Nat} (h : Nat.beq x y = true) : x = y := Nat.eq_of_beq_eq_true h
-- CASES
theorem bal {α : Type} {c : Prop} [Decidable c] {x y z : α} (h : (if c then x else y) = z) : (c ∧ x = z) ∨ (¬ c ∧ y = z) := by
  by_cases hc : c
  · rw [if_pos hc] at h; exact Or.inl ⟨hc, h⟩
  · rw [if_neg hc] at h; exact Or.inr ⟨hc, h⟩
theorem jB_ok {r : eRow} {off : Int} (h : jB r off = true) : (r.1 : Int) + off = (r.2.2.2.1 : Int) ∧ r.2.2.1 = 3 := by
  simp only [jB, Bool.and_eq_true, decide_eq_true_eq] at h
  exact ⟨h.1, nb h.2⟩
theorem fB_ok {qm : Nat → eMI} {k : Nat} {r : eRow} {idx : Nat} (h : fB qm k r idx = true) : ∃ q, qcls[r.2.2.2.1]? = some q ∧ r.2.2.2.2.1 < q.2.2 ∧ Cond.fieldLink (qm k).1.cls idx q.1 (q.2.1 r.2.2.2.2.1).2.1 (q.2.1 r.2.2.2.2.1).2.2.1 ∈ gT := by
  unfold fB at h
  split at h
  · next q hq =>
    rw [Bool.and_eq_true] at h
    exact ⟨q, hq, Nat.le_of_ble_eq_true h.1, wAt_ok h.2⟩
  · cases h
theorem cB_ok {qm : Nat → eMI} {k : Nat} {r : eRow} (h : cB qm k r = true) : r.2.2.2.1 < k ∧ (qm r.2.2.2.1).2.2.2.2.2.2.2.1 + 1 ≤ (qm k).2.2.2.2.2.2.2.1 ∧ 8 + ((qm r.2.2.2.1).2.2.1 + 11) + (qm r.2.2.2.1).2.2.2.2.2.2.2.2 ≤ (qm k).2.2.2.2.2.2.2.2 ∧ (parseMethodDescriptor (qm r.2.2.2.1).1.desc).map (fun d => d.parameters.length) = some r.2.2.2.2.1 := by
  simp only [cB, Bool.and_eq_true, beq_iff_eq] at h
  obtain ⟨⟨⟨h1, h3⟩, h4⟩, h5⟩ := h
  exact ⟨Nat.le_of_ble_eq_true h1, Nat.le_of_ble_eq_true h3, Nat.le_of_ble_eq_true h4, h5⟩
theorem tysL_at {t : Nat} {ty : FieldType} (h : (tysL dA)[t]? = some (dA t, ty)) : (tysL dA)[t]? = some (dA t, ty) := h
/-- the rows of code speak of the words that all methods share -/
theorem goodG {Ts : List Cond} {i : eMI} (hT : ∀ w ∈ gT, w ∈ Ts) (hm : mOK i) : GoodIn Ts (Cond.code i.1 i.2.1 i.2.2.1 i.2.2.2.1 :: gT) := by
  intro w hw
  have hg : w ∈ gT := by
    rcases List.mem_cons.mp hw with rfl | h
    · exact hm.2.1
    · exact h
  exact ⟨hT w hg, good_of_word (gT_good hg).2⟩
theorem ePc_blind {as : List Value} {h : eH} : FrameBlind (ePc D dA b base as h) := fun a U g mk q => ⟨q.1, q.2.1, KK.same (s := U) (U := U.calling g mk a) rfl q.2.2⟩
/-- behind a call -/
theorem e_call {H : Heap} {locs : List Loc} {cells slots pc : Nat} {arr : Array Slot} {Q : State → Prop} {x : eR} {h : eH} {st0 t : List Value} {a : Array Value} (hr : va_Run p l e R s m args below meth c H locs cells slots (x.2.2.1 - h.2.1) (x.2.2.2 - h.2.2) (F0 m pc arr st0) (t.map (lf b base)) (eQ D dA b base x a) (fun q => base ≤ q)) (hS : va_S (fun q => base ≤ q) s.heap H locs)
    (kk : ∀ (H' : Heap) (locs' : List Loc), WH D dA b base x.2 H' → va_S (fun q => base ≤ q) s.heap H' locs' → W p l e R s m args below meth c H' locs' (cells + (x.2.2.1 - h.2.1)) (slots + (x.2.2.2 - h.2.2)) Q (F0 m (pc + 3) arr ((x.1.toList ++ t).map (lf b base)))) : W p l e R s m args below meth c H locs cells slots Q (F0 m pc arr st0) := by
  intro T hT X
  obtain ⟨v, st₀, u, T', L, h0, X', hL, e1, e2, ⟨hv, hw, -, hz, hk⟩, go⟩ := hr T hT X
  have hv' : v = x.1.map (lf b base) := by injection hv
  rw [h0] at hz hk
  have hSt : v.toList ++ t.map (lf b base) = (x.1.toList ++ t).map (lf b base) := by
    rw [hv', List.map_append]
    congr 1
    cases x.1 <;> rfl
  obtain ⟨t2, a1, b1⟩ := kk T'.heap (locs ++ L) (by rw [e1]; exact hw) ⟨Nat.le_trans hS.1 (by rw [e1]; exact hz), fun q g1 g2 => by
      rw [e1, hk q (Nat.lt_of_lt_of_le g1 hS.1) g2]
      exact hS.2.1 q g1 g2, fun q hq => by
      rcases List.mem_append.mp hq with h | h
      · exact hS.2.2 q h
      · exact hL q h⟩ T' rfl X'
  rw [← hSt] at a1
  exact ⟨t2, go t2 a1, b1⟩
section CASES
variable {qm : Nat → eMI} {k : Nat} {sc : eSc} {M : eM} {Ts : List Cond}

theorem sd_aload_n (C : eCx p s m args meth c D dA b base sc (qm k) Ts) (hM : eMOK qm l D dA b base k M) (hRf : R.frames = (qm k).2.2.2.2.2.2.2.1) (hRl : R.locals = (qm k).2.2.2.2.2.2.2.2) {pc len ra rb wi : Nat} {n : Fin 4} {ls : eL} {st : List Value} {h : eH} {q' : eS} (hd : decode (qm k).2.1 pc = .ok (.aload_n n, len)) (hi : iB qm k (pc, .aload_n n, len, ra, rb, wi) = true) (hs : estep sc M (pc, .aload_n n, len, ra, rb, wi) ls st h = some (.inl q')) : eGo p l e R s m args below meth c D dA b base (qm k).2.2.1 pc ls st h q' := by
  obtain ⟨hx, hb, hml, hown, hts0, hT, hK, hbs, hin, hsc⟩ := C
  have hts : ∀ w ∈ gT, w.before args s = true := fun w h => hts0 w (hT w h)
  have hlen : len = 1 := nb hi
  subst hlen
  have hs : oA (ls.getD n.val none) (fun v => some (.inl (pc + 1, ls, v :: st, h))) = some (Sum.inl q' : eS ⊕ eR) := hs
  obtain ⟨v, hv, hk, hs⟩ := iv_oA hs
  cases hs
  refine eGo.pure1 fun hl hw hS kk => ?_
  have ha := ent_at hl hv
  rcases hk with ⟨a, rfl⟩ | ⟨a, rfl⟩
  · exact lv_aload_n hx hb hd rfl ha kk
  · exact lv_aload_n hx hb hd rfl ha kk
theorem sd_aload (C : eCx p s m args meth c D dA b base sc (qm k) Ts) (hM : eMOK qm l D dA b base k M) (hRf : R.frames = (qm k).2.2.2.2.2.2.2.1) (hRl : R.locals = (qm k).2.2.2.2.2.2.2.2) {pc len ra rb wi : Nat} {n : Nat} {ls : eL} {st : List Value} {h : eH} {q' : eS} (hd : decode (qm k).2.1 pc = .ok (.aload n, len)) (hi : iB qm k (pc, .aload n, len, ra, rb, wi) = true) (hs : estep sc M (pc, .aload n, len, ra, rb, wi) ls st h = some (.inl q')) : eGo p l e R s m args below meth c D dA b base (qm k).2.2.1 pc ls st h q' := by
  obtain ⟨hx, hb, hml, hown, hts0, hT, hK, hbs, hin, hsc⟩ := C
  have hts : ∀ w ∈ gT, w.before args s = true := fun w h => hts0 w (hT w h)
  have hlen : len = 2 := nb hi
  subst hlen
  have hs : oA (ls.getD n none) (fun v => some (.inl (pc + 2, ls, v :: st, h))) = some (Sum.inl q' : eS ⊕ eR) := hs
  obtain ⟨v, hv, hk, hs⟩ := iv_oA hs
  cases hs
  refine eGo.pure1 fun hl hw hS kk => ?_
  have ha := ent_at hl hv
  rcases hk with ⟨a, rfl⟩ | ⟨a, rfl⟩
  · exact lv_aload hx hb hd ha kk
  · exact lv_aload hx hb hd ha kk
theorem sd_iload_n (C : eCx p s m args meth c D dA b base sc (qm k) Ts) (hM : eMOK qm l D dA b base k M) (hRf : R.frames = (qm k).2.2.2.2.2.2.2.1) (hRl : R.locals = (qm k).2.2.2.2.2.2.2.2) {pc len ra rb wi : Nat} {n : Fin 4} {ls : eL} {st : List Value} {h : eH} {q' : eS} (hd : decode (qm k).2.1 pc = .ok (.iload_n n, len)) (hi : iB qm k (pc, .iload_n n, len, ra, rb, wi) = true) (hs : estep sc M (pc, .iload_n n, len, ra, rb, wi) ls st h = some (.inl q')) : eGo p l e R s m args below meth c D dA b base (qm k).2.2.1 pc ls st h q' := by
  obtain ⟨hx, hb, hml, hown, hts0, hT, hK, hbs, hin, hsc⟩ := C
  have hts : ∀ w ∈ gT, w.before args s = true := fun w h => hts0 w (hT w h)
  have hlen : len = 1 := nb hi
  subst hlen
  obtain ⟨v, hv, hs⟩ := iv_oI hs
  cases hs
  exact eGo.pure1 fun hl hw hS kk => lv_iload_n hx hb hd rfl (ent_at hl hv) kk
theorem sd_iload (C : eCx p s m args meth c D dA b base sc (qm k) Ts) (hM : eMOK qm l D dA b base k M) (hRf : R.frames = (qm k).2.2.2.2.2.2.2.1) (hRl : R.locals = (qm k).2.2.2.2.2.2.2.2) {pc len ra rb wi : Nat} {n : Nat} {ls : eL} {st : List Value} {h : eH} {q' : eS} (hd : decode (qm k).2.1 pc = .ok (.iload n, len)) (hi : iB qm k (pc, .iload n, len, ra, rb, wi) = true) (hs : estep sc M (pc, .iload n, len, ra, rb, wi) ls st h = some (.inl q')) : eGo p l e R s m args below meth c D dA b base (qm k).2.2.1 pc ls st h q' := by
  obtain ⟨hx, hb, hml, hown, hts0, hT, hK, hbs, hin, hsc⟩ := C
  have hts : ∀ w ∈ gT, w.before args s = true := fun w h => hts0 w (hT w h)
  have hlen : len = 2 := nb hi
  subst hlen
  obtain ⟨v, hv, hs⟩ := iv_oI hs
  cases hs
  exact eGo.pure1 fun hl hw hS kk => lv_iload hx hb hd (ent_at hl hv) kk
theorem sd_lload_n (C : eCx p s m args meth c D dA b base sc (qm k) Ts) (hM : eMOK qm l D dA b base k M) (hRf : R.frames = (qm k).2.2.2.2.2.2.2.1) (hRl : R.locals = (qm k).2.2.2.2.2.2.2.2) {pc len ra rb wi : Nat} {n : Fin 4} {ls : eL} {st : List Value} {h : eH} {q' : eS} (hd : decode (qm k).2.1 pc = .ok (.lload_n n, len)) (hi : iB qm k (pc, .lload_n n, len, ra, rb, wi) = true) (hs : estep sc M (pc, .lload_n n, len, ra, rb, wi) ls st h = some (.inl q')) : eGo p l e R s m args below meth c D dA b base (qm k).2.2.1 pc ls st h q' := by
  obtain ⟨hx, hb, hml, hown, hts0, hT, hK, hbs, hin, hsc⟩ := C
  have hts : ∀ w ∈ gT, w.before args s = true := fun w h => hts0 w (hT w h)
  have hlen : len = 1 := nb hi
  subst hlen
  obtain ⟨v, hv, hs⟩ := iv_oL hs
  cases hs
  exact eGo.pure1 fun hl hw hS kk => lv_lload_n hx hb hd rfl (ent_at hl hv) kk
theorem sd_lload (C : eCx p s m args meth c D dA b base sc (qm k) Ts) (hM : eMOK qm l D dA b base k M) (hRf : R.frames = (qm k).2.2.2.2.2.2.2.1) (hRl : R.locals = (qm k).2.2.2.2.2.2.2.2) {pc len ra rb wi : Nat} {n : Nat} {ls : eL} {st : List Value} {h : eH} {q' : eS} (hd : decode (qm k).2.1 pc = .ok (.lload n, len)) (hi : iB qm k (pc, .lload n, len, ra, rb, wi) = true) (hs : estep sc M (pc, .lload n, len, ra, rb, wi) ls st h = some (.inl q')) : eGo p l e R s m args below meth c D dA b base (qm k).2.2.1 pc ls st h q' := by
  obtain ⟨hx, hb, hml, hown, hts0, hT, hK, hbs, hin, hsc⟩ := C
  have hts : ∀ w ∈ gT, w.before args s = true := fun w h => hts0 w (hT w h)
  have hlen : len = 2 := nb hi
  subst hlen
  obtain ⟨v, hv, hs⟩ := iv_oL hs
  cases hs
  exact eGo.pure1 fun hl hw hS kk => lv_lload hx hb hd (ent_at hl hv) kk
theorem sd_istore_n (C : eCx p s m args meth c D dA b base sc (qm k) Ts) (hM : eMOK qm l D dA b base k M) (hRf : R.frames = (qm k).2.2.2.2.2.2.2.1) (hRl : R.locals = (qm k).2.2.2.2.2.2.2.2) {pc len ra rb wi : Nat} {n : Fin 4} {ls : eL} {st : List Value} {h : eH} {q' : eS} (hd : decode (qm k).2.1 pc = .ok (.istore_n n, len)) (hi : iB qm k (pc, .istore_n n, len, ra, rb, wi) = true) (hs : estep sc M (pc, .istore_n n, len, ra, rb, wi) ls st h = some (.inl q')) : eGo p l e R s m args below meth c D dA b base (qm k).2.2.1 pc ls st h q' := by
  obtain ⟨hx, hb, hml, hown, hts0, hT, hK, hbs, hin, hsc⟩ := C
  have hts : ∀ w ∈ gT, w.before args s = true := fun w h => hts0 w (hT w h)
  have hi : (Nat.beq len 1 && _) = true := hi
  rw [Bool.and_eq_true] at hi
  have hlen : len = 1 := nb hi.1
  subst hlen
  obtain ⟨x, t, rfl, hs⟩ := iv_sI hs
  cases hs
  exact eGo.pure (eSet1_len ..) fun hl hw hS kk => lv_istore_n hx hb hd rfl hl (Nat.le_of_ble_eq_true hi.2) rfl (fun arr' hl' => kk arr' (lv_incl hl' eSet1_in))
theorem sd_istore (C : eCx p s m args meth c D dA b base sc (qm k) Ts) (hM : eMOK qm l D dA b base k M) (hRf : R.frames = (qm k).2.2.2.2.2.2.2.1) (hRl : R.locals = (qm k).2.2.2.2.2.2.2.2) {pc len ra rb wi : Nat} {n : Nat} {ls : eL} {st : List Value} {h : eH} {q' : eS} (hd : decode (qm k).2.1 pc = .ok (.istore n, len)) (hi : iB qm k (pc, .istore n, len, ra, rb, wi) = true) (hs : estep sc M (pc, .istore n, len, ra, rb, wi) ls st h = some (.inl q')) : eGo p l e R s m args below meth c D dA b base (qm k).2.2.1 pc ls st h q' := by
  obtain ⟨hx, hb, hml, hown, hts0, hT, hK, hbs, hin, hsc⟩ := C
  have hts : ∀ w ∈ gT, w.before args s = true := fun w h => hts0 w (hT w h)
  have hi : (Nat.beq len 2 && _) = true := hi
  rw [Bool.and_eq_true] at hi
  have hlen : len = 2 := nb hi.1
  subst hlen
  obtain ⟨x, t, rfl, hs⟩ := iv_sI hs
  cases hs
  exact eGo.pure (eSet1_len ..) fun hl hw hS kk => lv_istore hx hb hd hl (Nat.le_of_ble_eq_true hi.2) rfl (fun arr' hl' => kk arr' (lv_incl hl' eSet1_in))
theorem sd_astore_n (C : eCx p s m args meth c D dA b base sc (qm k) Ts) (hM : eMOK qm l D dA b base k M) (hRf : R.frames = (qm k).2.2.2.2.2.2.2.1) (hRl : R.locals = (qm k).2.2.2.2.2.2.2.2) {pc len ra rb wi : Nat} {n : Fin 4} {ls : eL} {st : List Value} {h : eH} {q' : eS} (hd : decode (qm k).2.1 pc = .ok (.astore_n n, len)) (hi : iB qm k (pc, .astore_n n, len, ra, rb, wi) = true) (hs : estep sc M (pc, .astore_n n, len, ra, rb, wi) ls st h = some (.inl q')) : eGo p l e R s m args below meth c D dA b base (qm k).2.2.1 pc ls st h q' := by
  obtain ⟨hx, hb, hml, hown, hts0, hT, hK, hbs, hin, hsc⟩ := C
  have hts : ∀ w ∈ gT, w.before args s = true := fun w h => hts0 w (hT w h)
  have hi : (Nat.beq len 1 && _) = true := hi
  rw [Bool.and_eq_true] at hi
  have hlen : len = 1 := nb hi.1
  subst hlen
  obtain ⟨x, t, rfl, hs⟩ := iv_sR hs
  cases hs
  exact eGo.pure (eSet1_len ..) fun hl hw hS kk => lv_astore_n hx hb hd rfl hl (Nat.le_of_ble_eq_true hi.2) rfl (fun arr' hl' => kk arr' (lv_incl hl' eSet1_in))
theorem sd_astore (C : eCx p s m args meth c D dA b base sc (qm k) Ts) (hM : eMOK qm l D dA b base k M) (hRf : R.frames = (qm k).2.2.2.2.2.2.2.1) (hRl : R.locals = (qm k).2.2.2.2.2.2.2.2) {pc len ra rb wi : Nat} {n : Nat} {ls : eL} {st : List Value} {h : eH} {q' : eS} (hd : decode (qm k).2.1 pc = .ok (.astore n, len)) (hi : iB qm k (pc, .astore n, len, ra, rb, wi) = true) (hs : estep sc M (pc, .astore n, len, ra, rb, wi) ls st h = some (.inl q')) : eGo p l e R s m args below meth c D dA b base (qm k).2.2.1 pc ls st h q' := by
  obtain ⟨hx, hb, hml, hown, hts0, hT, hK, hbs, hin, hsc⟩ := C
  have hts : ∀ w ∈ gT, w.before args s = true := fun w h => hts0 w (hT w h)
  have hi : (Nat.beq len 2 && _) = true := hi
  rw [Bool.and_eq_true] at hi
  have hlen : len = 2 := nb hi.1
  subst hlen
  obtain ⟨x, t, rfl, hs⟩ := iv_sR hs
  cases hs
  exact eGo.pure (eSet1_len ..) fun hl hw hS kk => lv_astore hx hb hd hl (Nat.le_of_ble_eq_true hi.2) rfl (fun arr' hl' => kk arr' (lv_incl hl' eSet1_in))
theorem sd_lstore_n (C : eCx p s m args meth c D dA b base sc (qm k) Ts) (hM : eMOK qm l D dA b base k M) (hRf : R.frames = (qm k).2.2.2.2.2.2.2.1) (hRl : R.locals = (qm k).2.2.2.2.2.2.2.2) {pc len ra rb wi : Nat} {n : Fin 4} {ls : eL} {st : List Value} {h : eH} {q' : eS} (hd : decode (qm k).2.1 pc = .ok (.lstore_n n, len)) (hi : iB qm k (pc, .lstore_n n, len, ra, rb, wi) = true) (hs : estep sc M (pc, .lstore_n n, len, ra, rb, wi) ls st h = some (.inl q')) : eGo p l e R s m args below meth c D dA b base (qm k).2.2.1 pc ls st h q' := by
  obtain ⟨hx, hb, hml, hown, hts0, hT, hK, hbs, hin, hsc⟩ := C
  have hts : ∀ w ∈ gT, w.before args s = true := fun w h => hts0 w (hT w h)
  have hi : (Nat.beq len 1 && _) = true := hi
  rw [Bool.and_eq_true] at hi
  have hlen : len = 1 := nb hi.1
  subst hlen
  obtain ⟨x, t, rfl, hs⟩ := iv_sL hs
  cases hs
  exact eGo.pure (eSet2_len ..) fun hl hw hS kk => lv_lstore_n hx hb hd rfl hl (Nat.le_of_ble_eq_true hi.2) rfl (fun arr' hl' => kk arr' (lv_incl hl' eSet2_in))
theorem sd_lstore (C : eCx p s m args meth c D dA b base sc (qm k) Ts) (hM : eMOK qm l D dA b base k M) (hRf : R.frames = (qm k).2.2.2.2.2.2.2.1) (hRl : R.locals = (qm k).2.2.2.2.2.2.2.2) {pc len ra rb wi : Nat} {n : Nat} {ls : eL} {st : List Value} {h : eH} {q' : eS} (hd : decode (qm k).2.1 pc = .ok (.lstore n, len)) (hi : iB qm k (pc, .lstore n, len, ra, rb, wi) = true) (hs : estep sc M (pc, .lstore n, len, ra, rb, wi) ls st h = some (.inl q')) : eGo p l e R s m args below meth c D dA b base (qm k).2.2.1 pc ls st h q' := by
  obtain ⟨hx, hb, hml, hown, hts0, hT, hK, hbs, hin, hsc⟩ := C
  have hts : ∀ w ∈ gT, w.before args s = true := fun w h => hts0 w (hT w h)
  have hi : (Nat.beq len 2 && _) = true := hi
  rw [Bool.and_eq_true] at hi
  have hlen : len = 2 := nb hi.1
  subst hlen
  obtain ⟨x, t, rfl, hs⟩ := iv_sL hs
  cases hs
  exact eGo.pure (eSet2_len ..) fun hl hw hS kk => lv_lstore hx hb hd hl (Nat.le_of_ble_eq_true hi.2) rfl (fun arr' hl' => kk arr' (lv_incl hl' eSet2_in))
theorem sd_iinc (C : eCx p s m args meth c D dA b base sc (qm k) Ts) (hM : eMOK qm l D dA b base k M) (hRf : R.frames = (qm k).2.2.2.2.2.2.2.1) (hRl : R.locals = (qm k).2.2.2.2.2.2.2.2) {pc len ra rb wi : Nat} {i : Nat} {n : Int} {ls : eL} {st : List Value} {h : eH} {q' : eS} (hd : decode (qm k).2.1 pc = .ok (.iinc i n, len)) (hi : iB qm k (pc, .iinc i n, len, ra, rb, wi) = true) (hs : estep sc M (pc, .iinc i n, len, ra, rb, wi) ls st h = some (.inl q')) : eGo p l e R s m args below meth c D dA b base (qm k).2.2.1 pc ls st h q' := by
  obtain ⟨hx, hb, hml, hown, hts0, hT, hK, hbs, hin, hsc⟩ := C
  have hts : ∀ w ∈ gT, w.before args s = true := fun w h => hts0 w (hT w h)
  have hi : (Nat.beq len 3 && _) = true := hi
  rw [Bool.and_eq_true] at hi
  have hlen : len = 3 := nb hi.1
  subst hlen
  obtain ⟨x, hv, hs⟩ := iv_oI hs
  cases hs
  refine eGo.pure (eSet1_len ..) fun hl hw hS kk => ?_
  obtain ⟨j, hj⟩ := List.getElem?_of_mem (eEnt_mem.mpr ⟨Value.int x, hv, rfl⟩ : (i, Value.int x) ∈ eEnt b base ls)
  exact lv_iinc hx hb hd hl hj rfl (Nat.le_of_ble_eq_true hi.2) rfl (fun arr' hl' => kk arr' (lv_incl hl' eSet1_in))
theorem sd_iconst (C : eCx p s m args meth c D dA b base sc (qm k) Ts) (hM : eMOK qm l D dA b base k M) (hRf : R.frames = (qm k).2.2.2.2.2.2.2.1) (hRl : R.locals = (qm k).2.2.2.2.2.2.2.2) {pc len ra rb wi : Nat} {n : Int} {ls : eL} {st : List Value} {h : eH} {q' : eS} (hd : decode (qm k).2.1 pc = .ok (.iconst n, len)) (hi : iB qm k (pc, .iconst n, len, ra, rb, wi) = true) (hs : estep sc M (pc, .iconst n, len, ra, rb, wi) ls st h = some (.inl q')) : eGo p l e R s m args below meth c D dA b base (qm k).2.2.1 pc ls st h q' := by
  obtain ⟨hx, hb, hml, hown, hts0, hT, hK, hbs, hin, hsc⟩ := C
  have hts : ∀ w ∈ gT, w.before args s = true := fun w h => hts0 w (hT w h)
  have hlen : len = 1 := nb hi
  subst hlen
  cases hs
  exact eGo.pure1 fun hl hw hS kk => lv_iconst hx hb hd rfl kk
theorem sd_bipush (C : eCx p s m args meth c D dA b base sc (qm k) Ts) (hM : eMOK qm l D dA b base k M) (hRf : R.frames = (qm k).2.2.2.2.2.2.2.1) (hRl : R.locals = (qm k).2.2.2.2.2.2.2.2) {pc len ra rb wi : Nat} {n : Int} {ls : eL} {st : List Value} {h : eH} {q' : eS} (hd : decode (qm k).2.1 pc = .ok (.bipush n, len)) (hi : iB qm k (pc, .bipush n, len, ra, rb, wi) = true) (hs : estep sc M (pc, .bipush n, len, ra, rb, wi) ls st h = some (.inl q')) : eGo p l e R s m args below meth c D dA b base (qm k).2.2.1 pc ls st h q' := by
  obtain ⟨hx, hb, hml, hown, hts0, hT, hK, hbs, hin, hsc⟩ := C
  have hts : ∀ w ∈ gT, w.before args s = true := fun w h => hts0 w (hT w h)
  have hlen : len = 2 := nb hi
  subst hlen
  cases hs
  exact eGo.pure1 fun hl hw hS kk => lv_bipush hx hb hd rfl kk
theorem sd_sipush (C : eCx p s m args meth c D dA b base sc (qm k) Ts) (hM : eMOK qm l D dA b base k M) (hRf : R.frames = (qm k).2.2.2.2.2.2.2.1) (hRl : R.locals = (qm k).2.2.2.2.2.2.2.2) {pc len ra rb wi : Nat} {n : Int} {ls : eL} {st : List Value} {h : eH} {q' : eS} (hd : decode (qm k).2.1 pc = .ok (.sipush n, len)) (hi : iB qm k (pc, .sipush n, len, ra, rb, wi) = true) (hs : estep sc M (pc, .sipush n, len, ra, rb, wi) ls st h = some (.inl q')) : eGo p l e R s m args below meth c D dA b base (qm k).2.2.1 pc ls st h q' := by
  obtain ⟨hx, hb, hml, hown, hts0, hT, hK, hbs, hin, hsc⟩ := C
  have hts : ∀ w ∈ gT, w.before args s = true := fun w h => hts0 w (hT w h)
  have hlen : len = 3 := nb hi
  subst hlen
  cases hs
  exact eGo.pure1 fun hl hw hS kk => lv_sipush hx hb hd rfl kk
theorem sd_lconst (C : eCx p s m args meth c D dA b base sc (qm k) Ts) (hM : eMOK qm l D dA b base k M) (hRf : R.frames = (qm k).2.2.2.2.2.2.2.1) (hRl : R.locals = (qm k).2.2.2.2.2.2.2.2) {pc len ra rb wi : Nat} {n : Fin 2} {ls : eL} {st : List Value} {h : eH} {q' : eS} (hd : decode (qm k).2.1 pc = .ok (.lconst n, len)) (hi : iB qm k (pc, .lconst n, len, ra, rb, wi) = true) (hs : estep sc M (pc, .lconst n, len, ra, rb, wi) ls st h = some (.inl q')) : eGo p l e R s m args below meth c D dA b base (qm k).2.2.1 pc ls st h q' := by
  obtain ⟨hx, hb, hml, hown, hts0, hT, hK, hbs, hin, hsc⟩ := C
  have hts : ∀ w ∈ gT, w.before args s = true := fun w h => hts0 w (hT w h)
  have hlen : len = 1 := nb hi
  subst hlen
  cases hs
  exact eGo.pure1 fun hl hw hS kk => lv_lconst hx hb hd rfl kk
theorem sd_ldc (C : eCx p s m args meth c D dA b base sc (qm k) Ts) (hM : eMOK qm l D dA b base k M) (hRf : R.frames = (qm k).2.2.2.2.2.2.2.1) (hRl : R.locals = (qm k).2.2.2.2.2.2.2.2) {pc len ra rb wi : Nat} {n : Nat} {ls : eL} {st : List Value} {h : eH} {q' : eS} (hd : decode (qm k).2.1 pc = .ok (.ldc n, len)) (hi : iB qm k (pc, .ldc n, len, ra, rb, wi) = true) (hs : estep sc M (pc, .ldc n, len, ra, rb, wi) ls st h = some (.inl q')) : eGo p l e R s m args below meth c D dA b base (qm k).2.2.1 pc ls st h q' := by
  obtain ⟨hx, hb, hml, hown, hts0, hT, hK, hbs, hin, hsc⟩ := C
  have hts : ∀ w ∈ gT, w.before args s = true := fun w h => hts0 w (hT w h)
  have hi : (Nat.beq len 2 && _) = true := hi
  rw [Bool.and_eq_true] at hi
  have hlen : len = 2 := nb hi.1
  subst hlen
  cases hs
  exact eGo.pure1 fun hl hw hS kk => lv_ldc hx hb hown (hts _ (wAt_ok hi.2)) hd kk
theorem sd_ldc2_w (C : eCx p s m args meth c D dA b base sc (qm k) Ts) (hM : eMOK qm l D dA b base k M) (hRf : R.frames = (qm k).2.2.2.2.2.2.2.1) (hRl : R.locals = (qm k).2.2.2.2.2.2.2.2) {pc len ra rb wi : Nat} {n : Nat} {ls : eL} {st : List Value} {h : eH} {q' : eS} (hd : decode (qm k).2.1 pc = .ok (.ldc2_w n, len)) (hi : iB qm k (pc, .ldc2_w n, len, ra, rb, wi) = true) (hs : estep sc M (pc, .ldc2_w n, len, ra, rb, wi) ls st h = some (.inl q')) : eGo p l e R s m args below meth c D dA b base (qm k).2.2.1 pc ls st h q' := by
  obtain ⟨hx, hb, hml, hown, hts0, hT, hK, hbs, hin, hsc⟩ := C
  have hts : ∀ w ∈ gT, w.before args s = true := fun w h => hts0 w (hT w h)
  have hi : (Nat.beq len 3 && _) = true := hi
  rw [Bool.and_eq_true] at hi
  have hlen : len = 3 := nb hi.1
  subst hlen
  cases hs
  exact eGo.pure1 fun hl hw hS kk => lv_ldc2 hx hb hown (hts _ (wAt_ok hi.2)) hd kk
theorem sd_iadd (C : eCx p s m args meth c D dA b base sc (qm k) Ts) (hM : eMOK qm l D dA b base k M) (hRf : R.frames = (qm k).2.2.2.2.2.2.2.1) (hRl : R.locals = (qm k).2.2.2.2.2.2.2.2) {pc len ra rb wi : Nat}  {ls : eL} {st : List Value} {h : eH} {q' : eS} (hd : decode (qm k).2.1 pc = .ok (.iadd, len)) (hi : iB qm k (pc, .iadd, len, ra, rb, wi) = true) (hs : estep sc M (pc, .iadd, len, ra, rb, wi) ls st h = some (.inl q')) : eGo p l e R s m args below meth c D dA b base (qm k).2.2.1 pc ls st h q' := by
  obtain ⟨hx, hb, hml, hown, hts0, hT, hK, hbs, hin, hsc⟩ := C
  have hts : ∀ w ∈ gT, w.before args s = true := fun w h => hts0 w (hT w h)
  have hlen : len = 1 := nb hi
  subst hlen
  obtain ⟨x, y, t, rfl, hs⟩ := iv_sII hs
  cases hs
  exact eGo.pure1 fun hl hw hS kk => lv_iadd hx hb hd kk
theorem sd_isub (C : eCx p s m args meth c D dA b base sc (qm k) Ts) (hM : eMOK qm l D dA b base k M) (hRf : R.frames = (qm k).2.2.2.2.2.2.2.1) (hRl : R.locals = (qm k).2.2.2.2.2.2.2.2) {pc len ra rb wi : Nat}  {ls : eL} {st : List Value} {h : eH} {q' : eS} (hd : decode (qm k).2.1 pc = .ok (.isub, len)) (hi : iB qm k (pc, .isub, len, ra, rb, wi) = true) (hs : estep sc M (pc, .isub, len, ra, rb, wi) ls st h = some (.inl q')) : eGo p l e R s m args below meth c D dA b base (qm k).2.2.1 pc ls st h q' := by
  obtain ⟨hx, hb, hml, hown, hts0, hT, hK, hbs, hin, hsc⟩ := C
  have hts : ∀ w ∈ gT, w.before args s = true := fun w h => hts0 w (hT w h)
  have hlen : len = 1 := nb hi
  subst hlen
  obtain ⟨x, y, t, rfl, hs⟩ := iv_sII hs
  cases hs
  exact eGo.pure1 fun hl hw hS kk => lv_isub hx hb hd kk
theorem sd_imul (C : eCx p s m args meth c D dA b base sc (qm k) Ts) (hM : eMOK qm l D dA b base k M) (hRf : R.frames = (qm k).2.2.2.2.2.2.2.1) (hRl : R.locals = (qm k).2.2.2.2.2.2.2.2) {pc len ra rb wi : Nat}  {ls : eL} {st : List Value} {h : eH} {q' : eS} (hd : decode (qm k).2.1 pc = .ok (.imul, len)) (hi : iB qm k (pc, .imul, len, ra, rb, wi) = true) (hs : estep sc M (pc, .imul, len, ra, rb, wi) ls st h = some (.inl q')) : eGo p l e R s m args below meth c D dA b base (qm k).2.2.1 pc ls st h q' := by
  obtain ⟨hx, hb, hml, hown, hts0, hT, hK, hbs, hin, hsc⟩ := C
  have hts : ∀ w ∈ gT, w.before args s = true := fun w h => hts0 w (hT w h)
  have hlen : len = 1 := nb hi
  subst hlen
  obtain ⟨x, y, t, rfl, hs⟩ := iv_sII hs
  cases hs
  exact eGo.pure1 fun hl hw hS kk => lv_imul hx hb hd kk
theorem sd_iand (C : eCx p s m args meth c D dA b base sc (qm k) Ts) (hM : eMOK qm l D dA b base k M) (hRf : R.frames = (qm k).2.2.2.2.2.2.2.1) (hRl : R.locals = (qm k).2.2.2.2.2.2.2.2) {pc len ra rb wi : Nat}  {ls : eL} {st : List Value} {h : eH} {q' : eS} (hd : decode (qm k).2.1 pc = .ok (.iand, len)) (hi : iB qm k (pc, .iand, len, ra, rb, wi) = true) (hs : estep sc M (pc, .iand, len, ra, rb, wi) ls st h = some (.inl q')) : eGo p l e R s m args below meth c D dA b base (qm k).2.2.1 pc ls st h q' := by
  obtain ⟨hx, hb, hml, hown, hts0, hT, hK, hbs, hin, hsc⟩ := C
  have hts : ∀ w ∈ gT, w.before args s = true := fun w h => hts0 w (hT w h)
  have hlen : len = 1 := nb hi
  subst hlen
  obtain ⟨x, y, t, rfl, hs⟩ := iv_sII hs
  cases hs
  exact eGo.pure1 fun hl hw hS kk => lv_iand hx hb hd kk
theorem sd_ior (C : eCx p s m args meth c D dA b base sc (qm k) Ts) (hM : eMOK qm l D dA b base k M) (hRf : R.frames = (qm k).2.2.2.2.2.2.2.1) (hRl : R.locals = (qm k).2.2.2.2.2.2.2.2) {pc len ra rb wi : Nat}  {ls : eL} {st : List Value} {h : eH} {q' : eS} (hd : decode (qm k).2.1 pc = .ok (.ior, len)) (hi : iB qm k (pc, .ior, len, ra, rb, wi) = true) (hs : estep sc M (pc, .ior, len, ra, rb, wi) ls st h = some (.inl q')) : eGo p l e R s m args below meth c D dA b base (qm k).2.2.1 pc ls st h q' := by
  obtain ⟨hx, hb, hml, hown, hts0, hT, hK, hbs, hin, hsc⟩ := C
  have hts : ∀ w ∈ gT, w.before args s = true := fun w h => hts0 w (hT w h)
  have hlen : len = 1 := nb hi
  subst hlen
  obtain ⟨x, y, t, rfl, hs⟩ := iv_sII hs
  cases hs
  exact eGo.pure1 fun hl hw hS kk => lv_ior hx hb hd kk
theorem sd_ishr (C : eCx p s m args meth c D dA b base sc (qm k) Ts) (hM : eMOK qm l D dA b base k M) (hRf : R.frames = (qm k).2.2.2.2.2.2.2.1) (hRl : R.locals = (qm k).2.2.2.2.2.2.2.2) {pc len ra rb wi : Nat}  {ls : eL} {st : List Value} {h : eH} {q' : eS} (hd : decode (qm k).2.1 pc = .ok (.ishr, len)) (hi : iB qm k (pc, .ishr, len, ra, rb, wi) = true) (hs : estep sc M (pc, .ishr, len, ra, rb, wi) ls st h = some (.inl q')) : eGo p l e R s m args below meth c D dA b base (qm k).2.2.1 pc ls st h q' := by
  obtain ⟨hx, hb, hml, hown, hts0, hT, hK, hbs, hin, hsc⟩ := C
  have hts : ∀ w ∈ gT, w.before args s = true := fun w h => hts0 w (hT w h)
  have hlen : len = 1 := nb hi
  subst hlen
  obtain ⟨x, y, t, rfl, hs⟩ := iv_sII hs
  cases hs
  exact eGo.pure1 fun hl hw hS kk => lv_ishr hx hb hd kk
theorem sd_iushr (C : eCx p s m args meth c D dA b base sc (qm k) Ts) (hM : eMOK qm l D dA b base k M) (hRf : R.frames = (qm k).2.2.2.2.2.2.2.1) (hRl : R.locals = (qm k).2.2.2.2.2.2.2.2) {pc len ra rb wi : Nat}  {ls : eL} {st : List Value} {h : eH} {q' : eS} (hd : decode (qm k).2.1 pc = .ok (.iushr, len)) (hi : iB qm k (pc, .iushr, len, ra, rb, wi) = true) (hs : estep sc M (pc, .iushr, len, ra, rb, wi) ls st h = some (.inl q')) : eGo p l e R s m args below meth c D dA b base (qm k).2.2.1 pc ls st h q' := by
  obtain ⟨hx, hb, hml, hown, hts0, hT, hK, hbs, hin, hsc⟩ := C
  have hts : ∀ w ∈ gT, w.before args s = true := fun w h => hts0 w (hT w h)
  have hlen : len = 1 := nb hi
  subst hlen
  obtain ⟨x, y, t, rfl, hs⟩ := iv_sII hs
  cases hs
  exact eGo.pure1 fun hl hw hS kk => lv_iushr hx hb hd rfl kk
theorem sd_ladd (C : eCx p s m args meth c D dA b base sc (qm k) Ts) (hM : eMOK qm l D dA b base k M) (hRf : R.frames = (qm k).2.2.2.2.2.2.2.1) (hRl : R.locals = (qm k).2.2.2.2.2.2.2.2) {pc len ra rb wi : Nat}  {ls : eL} {st : List Value} {h : eH} {q' : eS} (hd : decode (qm k).2.1 pc = .ok (.ladd, len)) (hi : iB qm k (pc, .ladd, len, ra, rb, wi) = true) (hs : estep sc M (pc, .ladd, len, ra, rb, wi) ls st h = some (.inl q')) : eGo p l e R s m args below meth c D dA b base (qm k).2.2.1 pc ls st h q' := by
  obtain ⟨hx, hb, hml, hown, hts0, hT, hK, hbs, hin, hsc⟩ := C
  have hts : ∀ w ∈ gT, w.before args s = true := fun w h => hts0 w (hT w h)
  have hlen : len = 1 := nb hi
  subst hlen
  obtain ⟨x, y, t, rfl, hs⟩ := iv_sLL hs
  cases hs
  exact eGo.pure1 fun hl hw hS kk => lv_ladd hx hb hd kk
theorem sd_lsub (C : eCx p s m args meth c D dA b base sc (qm k) Ts) (hM : eMOK qm l D dA b base k M) (hRf : R.frames = (qm k).2.2.2.2.2.2.2.1) (hRl : R.locals = (qm k).2.2.2.2.2.2.2.2) {pc len ra rb wi : Nat}  {ls : eL} {st : List Value} {h : eH} {q' : eS} (hd : decode (qm k).2.1 pc = .ok (.lsub, len)) (hi : iB qm k (pc, .lsub, len, ra, rb, wi) = true) (hs : estep sc M (pc, .lsub, len, ra, rb, wi) ls st h = some (.inl q')) : eGo p l e R s m args below meth c D dA b base (qm k).2.2.1 pc ls st h q' := by
  obtain ⟨hx, hb, hml, hown, hts0, hT, hK, hbs, hin, hsc⟩ := C
  have hts : ∀ w ∈ gT, w.before args s = true := fun w h => hts0 w (hT w h)
  have hlen : len = 1 := nb hi
  subst hlen
  obtain ⟨x, y, t, rfl, hs⟩ := iv_sLL hs
  cases hs
  exact eGo.pure1 fun hl hw hS kk => lv_lsub hx hb hd kk
theorem sd_lmul (C : eCx p s m args meth c D dA b base sc (qm k) Ts) (hM : eMOK qm l D dA b base k M) (hRf : R.frames = (qm k).2.2.2.2.2.2.2.1) (hRl : R.locals = (qm k).2.2.2.2.2.2.2.2) {pc len ra rb wi : Nat}  {ls : eL} {st : List Value} {h : eH} {q' : eS} (hd : decode (qm k).2.1 pc = .ok (.lmul, len)) (hi : iB qm k (pc, .lmul, len, ra, rb, wi) = true) (hs : estep sc M (pc, .lmul, len, ra, rb, wi) ls st h = some (.inl q')) : eGo p l e R s m args below meth c D dA b base (qm k).2.2.1 pc ls st h q' := by
  obtain ⟨hx, hb, hml, hown, hts0, hT, hK, hbs, hin, hsc⟩ := C
  have hts : ∀ w ∈ gT, w.before args s = true := fun w h => hts0 w (hT w h)
  have hlen : len = 1 := nb hi
  subst hlen
  obtain ⟨x, y, t, rfl, hs⟩ := iv_sLL hs
  cases hs
  exact eGo.pure1 fun hl hw hS kk => lv_lmul hx hb hd kk
theorem sd_land (C : eCx p s m args meth c D dA b base sc (qm k) Ts) (hM : eMOK qm l D dA b base k M) (hRf : R.frames = (qm k).2.2.2.2.2.2.2.1) (hRl : R.locals = (qm k).2.2.2.2.2.2.2.2) {pc len ra rb wi : Nat}  {ls : eL} {st : List Value} {h : eH} {q' : eS} (hd : decode (qm k).2.1 pc = .ok (.land, len)) (hi : iB qm k (pc, .land, len, ra, rb, wi) = true) (hs : estep sc M (pc, .land, len, ra, rb, wi) ls st h = some (.inl q')) : eGo p l e R s m args below meth c D dA b base (qm k).2.2.1 pc ls st h q' := by
  obtain ⟨hx, hb, hml, hown, hts0, hT, hK, hbs, hin, hsc⟩ := C
  have hts : ∀ w ∈ gT, w.before args s = true := fun w h => hts0 w (hT w h)
  have hlen : len = 1 := nb hi
  subst hlen
  obtain ⟨x, y, t, rfl, hs⟩ := iv_sLL hs
  cases hs
  exact eGo.pure1 fun hl hw hS kk => lv_land hx hb hd kk
theorem sd_lor (C : eCx p s m args meth c D dA b base sc (qm k) Ts) (hM : eMOK qm l D dA b base k M) (hRf : R.frames = (qm k).2.2.2.2.2.2.2.1) (hRl : R.locals = (qm k).2.2.2.2.2.2.2.2) {pc len ra rb wi : Nat}  {ls : eL} {st : List Value} {h : eH} {q' : eS} (hd : decode (qm k).2.1 pc = .ok (.lor, len)) (hi : iB qm k (pc, .lor, len, ra, rb, wi) = true) (hs : estep sc M (pc, .lor, len, ra, rb, wi) ls st h = some (.inl q')) : eGo p l e R s m args below meth c D dA b base (qm k).2.2.1 pc ls st h q' := by
  obtain ⟨hx, hb, hml, hown, hts0, hT, hK, hbs, hin, hsc⟩ := C
  have hts : ∀ w ∈ gT, w.before args s = true := fun w h => hts0 w (hT w h)
  have hlen : len = 1 := nb hi
  subst hlen
  obtain ⟨x, y, t, rfl, hs⟩ := iv_sLL hs
  cases hs
  exact eGo.pure1 fun hl hw hS kk => lv_lor hx hb hd kk
theorem sd_lxor (C : eCx p s m args meth c D dA b base sc (qm k) Ts) (hM : eMOK qm l D dA b base k M) (hRf : R.frames = (qm k).2.2.2.2.2.2.2.1) (hRl : R.locals = (qm k).2.2.2.2.2.2.2.2) {pc len ra rb wi : Nat}  {ls : eL} {st : List Value} {h : eH} {q' : eS} (hd : decode (qm k).2.1 pc = .ok (.lxor, len)) (hi : iB qm k (pc, .lxor, len, ra, rb, wi) = true) (hs : estep sc M (pc, .lxor, len, ra, rb, wi) ls st h = some (.inl q')) : eGo p l e R s m args below meth c D dA b base (qm k).2.2.1 pc ls st h q' := by
  obtain ⟨hx, hb, hml, hown, hts0, hT, hK, hbs, hin, hsc⟩ := C
  have hts : ∀ w ∈ gT, w.before args s = true := fun w h => hts0 w (hT w h)
  have hlen : len = 1 := nb hi
  subst hlen
  obtain ⟨x, y, t, rfl, hs⟩ := iv_sLL hs
  cases hs
  exact eGo.pure1 fun hl hw hS kk => lv_lxor hx hb hd kk
theorem sd_lcmp (C : eCx p s m args meth c D dA b base sc (qm k) Ts) (hM : eMOK qm l D dA b base k M) (hRf : R.frames = (qm k).2.2.2.2.2.2.2.1) (hRl : R.locals = (qm k).2.2.2.2.2.2.2.2) {pc len ra rb wi : Nat}  {ls : eL} {st : List Value} {h : eH} {q' : eS} (hd : decode (qm k).2.1 pc = .ok (.lcmp, len)) (hi : iB qm k (pc, .lcmp, len, ra, rb, wi) = true) (hs : estep sc M (pc, .lcmp, len, ra, rb, wi) ls st h = some (.inl q')) : eGo p l e R s m args below meth c D dA b base (qm k).2.2.1 pc ls st h q' := by
  obtain ⟨hx, hb, hml, hown, hts0, hT, hK, hbs, hin, hsc⟩ := C
  have hts : ∀ w ∈ gT, w.before args s = true := fun w h => hts0 w (hT w h)
  have hlen : len = 1 := nb hi
  subst hlen
  obtain ⟨x, y, t, rfl, hs⟩ := iv_sLL hs
  cases hs
  exact eGo.pure1 fun hl hw hS kk => W.lcmp hx hb hd kk
theorem sd_idiv (C : eCx p s m args meth c D dA b base sc (qm k) Ts) (hM : eMOK qm l D dA b base k M) (hRf : R.frames = (qm k).2.2.2.2.2.2.2.1) (hRl : R.locals = (qm k).2.2.2.2.2.2.2.2) {pc len ra rb wi : Nat}  {ls : eL} {st : List Value} {h : eH} {q' : eS} (hd : decode (qm k).2.1 pc = .ok (.idiv, len)) (hi : iB qm k (pc, .idiv, len, ra, rb, wi) = true) (hs : estep sc M (pc, .idiv, len, ra, rb, wi) ls st h = some (.inl q')) : eGo p l e R s m args below meth c D dA b base (qm k).2.2.1 pc ls st h q' := by
  obtain ⟨hx, hb, hml, hown, hts0, hT, hK, hbs, hin, hsc⟩ := C
  have hts : ∀ w ∈ gT, w.before args s = true := fun w h => hts0 w (hT w h)
  have hlen : len = 1 := nb hi
  subst hlen
  obtain ⟨x, y, t, rfl, hs⟩ := iv_sII hs
  rcases bal hs with ⟨-, hs⟩ | ⟨hy, hs⟩
  · cases hs
  · cases hs
    exact eGo.pure1 fun hl hw hS kk => lv_idiv hx hb hd hy kk
theorem sd_irem (C : eCx p s m args meth c D dA b base sc (qm k) Ts) (hM : eMOK qm l D dA b base k M) (hRf : R.frames = (qm k).2.2.2.2.2.2.2.1) (hRl : R.locals = (qm k).2.2.2.2.2.2.2.2) {pc len ra rb wi : Nat}  {ls : eL} {st : List Value} {h : eH} {q' : eS} (hd : decode (qm k).2.1 pc = .ok (.irem, len)) (hi : iB qm k (pc, .irem, len, ra, rb, wi) = true) (hs : estep sc M (pc, .irem, len, ra, rb, wi) ls st h = some (.inl q')) : eGo p l e R s m args below meth c D dA b base (qm k).2.2.1 pc ls st h q' := by
  obtain ⟨hx, hb, hml, hown, hts0, hT, hK, hbs, hin, hsc⟩ := C
  have hts : ∀ w ∈ gT, w.before args s = true := fun w h => hts0 w (hT w h)
  have hlen : len = 1 := nb hi
  subst hlen
  obtain ⟨x, y, t, rfl, hs⟩ := iv_sII hs
  rcases bal hs with ⟨-, hs⟩ | ⟨hy, hs⟩
  · cases hs
  · cases hs
    exact eGo.pure1 fun hl hw hS kk => lv_irem hx hb hd hy kk
theorem sd_ldiv (C : eCx p s m args meth c D dA b base sc (qm k) Ts) (hM : eMOK qm l D dA b base k M) (hRf : R.frames = (qm k).2.2.2.2.2.2.2.1) (hRl : R.locals = (qm k).2.2.2.2.2.2.2.2) {pc len ra rb wi : Nat}  {ls : eL} {st : List Value} {h : eH} {q' : eS} (hd : decode (qm k).2.1 pc = .ok (.ldiv, len)) (hi : iB qm k (pc, .ldiv, len, ra, rb, wi) = true) (hs : estep sc M (pc, .ldiv, len, ra, rb, wi) ls st h = some (.inl q')) : eGo p l e R s m args below meth c D dA b base (qm k).2.2.1 pc ls st h q' := by
  obtain ⟨hx, hb, hml, hown, hts0, hT, hK, hbs, hin, hsc⟩ := C
  have hts : ∀ w ∈ gT, w.before args s = true := fun w h => hts0 w (hT w h)
  have hlen : len = 1 := nb hi
  subst hlen
  obtain ⟨x, y, t, rfl, hs⟩ := iv_sLL hs
  rcases bal hs with ⟨-, hs⟩ | ⟨hy, hs⟩
  · cases hs
  · cases hs
    exact eGo.pure1 fun hl hw hS kk => lv_ldiv hx hb hd hy kk
theorem sd_lrem (C : eCx p s m args meth c D dA b base sc (qm k) Ts) (hM : eMOK qm l D dA b base k M) (hRf : R.frames = (qm k).2.2.2.2.2.2.2.1) (hRl : R.locals = (qm k).2.2.2.2.2.2.2.2) {pc len ra rb wi : Nat}  {ls : eL} {st : List Value} {h : eH} {q' : eS} (hd : decode (qm k).2.1 pc = .ok (.lrem, len)) (hi : iB qm k (pc, .lrem, len, ra, rb, wi) = true) (hs : estep sc M (pc, .lrem, len, ra, rb, wi) ls st h = some (.inl q')) : eGo p l e R s m args below meth c D dA b base (qm k).2.2.1 pc ls st h q' := by
  obtain ⟨hx, hb, hml, hown, hts0, hT, hK, hbs, hin, hsc⟩ := C
  have hts : ∀ w ∈ gT, w.before args s = true := fun w h => hts0 w (hT w h)
  have hlen : len = 1 := nb hi
  subst hlen
  obtain ⟨x, y, t, rfl, hs⟩ := iv_sLL hs
  rcases bal hs with ⟨-, hs⟩ | ⟨hy, hs⟩
  · cases hs
  · cases hs
    exact eGo.pure1 fun hl hw hS kk => lv_lrem hx hb hd hy kk
theorem sd_ineg (C : eCx p s m args meth c D dA b base sc (qm k) Ts) (hM : eMOK qm l D dA b base k M) (hRf : R.frames = (qm k).2.2.2.2.2.2.2.1) (hRl : R.locals = (qm k).2.2.2.2.2.2.2.2) {pc len ra rb wi : Nat}  {ls : eL} {st : List Value} {h : eH} {q' : eS} (hd : decode (qm k).2.1 pc = .ok (.ineg, len)) (hi : iB qm k (pc, .ineg, len, ra, rb, wi) = true) (hs : estep sc M (pc, .ineg, len, ra, rb, wi) ls st h = some (.inl q')) : eGo p l e R s m args below meth c D dA b base (qm k).2.2.1 pc ls st h q' := by
  obtain ⟨hx, hb, hml, hown, hts0, hT, hK, hbs, hin, hsc⟩ := C
  have hts : ∀ w ∈ gT, w.before args s = true := fun w h => hts0 w (hT w h)
  have hlen : len = 1 := nb hi
  subst hlen
  obtain ⟨x, t, rfl, hs⟩ := iv_sI hs
  cases hs
  exact eGo.pure1 fun hl hw hS kk => lv_ineg hx hb hd kk
theorem sd_lneg (C : eCx p s m args meth c D dA b base sc (qm k) Ts) (hM : eMOK qm l D dA b base k M) (hRf : R.frames = (qm k).2.2.2.2.2.2.2.1) (hRl : R.locals = (qm k).2.2.2.2.2.2.2.2) {pc len ra rb wi : Nat}  {ls : eL} {st : List Value} {h : eH} {q' : eS} (hd : decode (qm k).2.1 pc = .ok (.lneg, len)) (hi : iB qm k (pc, .lneg, len, ra, rb, wi) = true) (hs : estep sc M (pc, .lneg, len, ra, rb, wi) ls st h = some (.inl q')) : eGo p l e R s m args below meth c D dA b base (qm k).2.2.1 pc ls st h q' := by
  obtain ⟨hx, hb, hml, hown, hts0, hT, hK, hbs, hin, hsc⟩ := C
  have hts : ∀ w ∈ gT, w.before args s = true := fun w h => hts0 w (hT w h)
  have hlen : len = 1 := nb hi
  subst hlen
  obtain ⟨x, t, rfl, hs⟩ := iv_sL hs
  cases hs
  exact eGo.pure1 fun hl hw hS kk => lv_lneg hx hb hd kk
theorem sd_i2l (C : eCx p s m args meth c D dA b base sc (qm k) Ts) (hM : eMOK qm l D dA b base k M) (hRf : R.frames = (qm k).2.2.2.2.2.2.2.1) (hRl : R.locals = (qm k).2.2.2.2.2.2.2.2) {pc len ra rb wi : Nat}  {ls : eL} {st : List Value} {h : eH} {q' : eS} (hd : decode (qm k).2.1 pc = .ok (.i2l, len)) (hi : iB qm k (pc, .i2l, len, ra, rb, wi) = true) (hs : estep sc M (pc, .i2l, len, ra, rb, wi) ls st h = some (.inl q')) : eGo p l e R s m args below meth c D dA b base (qm k).2.2.1 pc ls st h q' := by
  obtain ⟨hx, hb, hml, hown, hts0, hT, hK, hbs, hin, hsc⟩ := C
  have hts : ∀ w ∈ gT, w.before args s = true := fun w h => hts0 w (hT w h)
  have hlen : len = 1 := nb hi
  subst hlen
  obtain ⟨x, t, rfl, hs⟩ := iv_sI hs
  cases hs
  exact eGo.pure1 fun hl hw hS kk => lv_i2l hx hb hd rfl kk
theorem sd_l2i (C : eCx p s m args meth c D dA b base sc (qm k) Ts) (hM : eMOK qm l D dA b base k M) (hRf : R.frames = (qm k).2.2.2.2.2.2.2.1) (hRl : R.locals = (qm k).2.2.2.2.2.2.2.2) {pc len ra rb wi : Nat}  {ls : eL} {st : List Value} {h : eH} {q' : eS} (hd : decode (qm k).2.1 pc = .ok (.l2i, len)) (hi : iB qm k (pc, .l2i, len, ra, rb, wi) = true) (hs : estep sc M (pc, .l2i, len, ra, rb, wi) ls st h = some (.inl q')) : eGo p l e R s m args below meth c D dA b base (qm k).2.2.1 pc ls st h q' := by
  obtain ⟨hx, hb, hml, hown, hts0, hT, hK, hbs, hin, hsc⟩ := C
  have hts : ∀ w ∈ gT, w.before args s = true := fun w h => hts0 w (hT w h)
  have hlen : len = 1 := nb hi
  subst hlen
  obtain ⟨x, t, rfl, hs⟩ := iv_sL hs
  cases hs
  exact eGo.pure1 fun hl hw hS kk => lv_l2i hx hb hd rfl kk
theorem sd_i2b (C : eCx p s m args meth c D dA b base sc (qm k) Ts) (hM : eMOK qm l D dA b base k M) (hRf : R.frames = (qm k).2.2.2.2.2.2.2.1) (hRl : R.locals = (qm k).2.2.2.2.2.2.2.2) {pc len ra rb wi : Nat}  {ls : eL} {st : List Value} {h : eH} {q' : eS} (hd : decode (qm k).2.1 pc = .ok (.i2b, len)) (hi : iB qm k (pc, .i2b, len, ra, rb, wi) = true) (hs : estep sc M (pc, .i2b, len, ra, rb, wi) ls st h = some (.inl q')) : eGo p l e R s m args below meth c D dA b base (qm k).2.2.1 pc ls st h q' := by
  obtain ⟨hx, hb, hml, hown, hts0, hT, hK, hbs, hin, hsc⟩ := C
  have hts : ∀ w ∈ gT, w.before args s = true := fun w h => hts0 w (hT w h)
  have hlen : len = 1 := nb hi
  subst hlen
  obtain ⟨x, t, rfl, hs⟩ := iv_sI hs
  cases hs
  exact eGo.pure1 fun hl hw hS kk => lv_i2b hx hb hd rfl kk
theorem sd_i2s (C : eCx p s m args meth c D dA b base sc (qm k) Ts) (hM : eMOK qm l D dA b base k M) (hRf : R.frames = (qm k).2.2.2.2.2.2.2.1) (hRl : R.locals = (qm k).2.2.2.2.2.2.2.2) {pc len ra rb wi : Nat}  {ls : eL} {st : List Value} {h : eH} {q' : eS} (hd : decode (qm k).2.1 pc = .ok (.i2s, len)) (hi : iB qm k (pc, .i2s, len, ra, rb, wi) = true) (hs : estep sc M (pc, .i2s, len, ra, rb, wi) ls st h = some (.inl q')) : eGo p l e R s m args below meth c D dA b base (qm k).2.2.1 pc ls st h q' := by
  obtain ⟨hx, hb, hml, hown, hts0, hT, hK, hbs, hin, hsc⟩ := C
  have hts : ∀ w ∈ gT, w.before args s = true := fun w h => hts0 w (hT w h)
  have hlen : len = 1 := nb hi
  subst hlen
  obtain ⟨x, t, rfl, hs⟩ := iv_sI hs
  cases hs
  exact eGo.pure1 fun hl hw hS kk => lv_i2s hx hb hd rfl kk
theorem sd_lshl (C : eCx p s m args meth c D dA b base sc (qm k) Ts) (hM : eMOK qm l D dA b base k M) (hRf : R.frames = (qm k).2.2.2.2.2.2.2.1) (hRl : R.locals = (qm k).2.2.2.2.2.2.2.2) {pc len ra rb wi : Nat}  {ls : eL} {st : List Value} {h : eH} {q' : eS} (hd : decode (qm k).2.1 pc = .ok (.lshl, len)) (hi : iB qm k (pc, .lshl, len, ra, rb, wi) = true) (hs : estep sc M (pc, .lshl, len, ra, rb, wi) ls st h = some (.inl q')) : eGo p l e R s m args below meth c D dA b base (qm k).2.2.1 pc ls st h q' := by
  obtain ⟨hx, hb, hml, hown, hts0, hT, hK, hbs, hin, hsc⟩ := C
  have hts : ∀ w ∈ gT, w.before args s = true := fun w h => hts0 w (hT w h)
  have hlen : len = 1 := nb hi
  subst hlen
  obtain ⟨x, y, t, rfl, hs⟩ := iv_sLI hs
  cases hs
  exact eGo.pure1 fun hl hw hS kk => lv_lshl hx hb hd rfl kk
theorem sd_dup (C : eCx p s m args meth c D dA b base sc (qm k) Ts) (hM : eMOK qm l D dA b base k M) (hRf : R.frames = (qm k).2.2.2.2.2.2.2.1) (hRl : R.locals = (qm k).2.2.2.2.2.2.2.2) {pc len ra rb wi : Nat}  {ls : eL} {st : List Value} {h : eH} {q' : eS} (hd : decode (qm k).2.1 pc = .ok (.dup, len)) (hi : iB qm k (pc, .dup, len, ra, rb, wi) = true) (hs : estep sc M (pc, .dup, len, ra, rb, wi) ls st h = some (.inl q')) : eGo p l e R s m args below meth c D dA b base (qm k).2.2.1 pc ls st h q' := by
  obtain ⟨hx, hb, hml, hown, hts0, hT, hK, hbs, hin, hsc⟩ := C
  have hts : ∀ w ∈ gT, w.before args s = true := fun w h => hts0 w (hT w h)
  have hlen : len = 1 := nb hi
  subst hlen
  obtain ⟨v, t, rfl, hs⟩ := iv_sV hs
  obtain ⟨hc, hs⟩ := iv_bo hs
  cases hs
  exact eGo.pure1 fun hl hw hS kk => lv_dup hx hb hd ((lf_cat b base v).trans (nb hc)) kk
theorem sd_pop (C : eCx p s m args meth c D dA b base sc (qm k) Ts) (hM : eMOK qm l D dA b base k M) (hRf : R.frames = (qm k).2.2.2.2.2.2.2.1) (hRl : R.locals = (qm k).2.2.2.2.2.2.2.2) {pc len ra rb wi : Nat}  {ls : eL} {st : List Value} {h : eH} {q' : eS} (hd : decode (qm k).2.1 pc = .ok (.pop, len)) (hi : iB qm k (pc, .pop, len, ra, rb, wi) = true) (hs : estep sc M (pc, .pop, len, ra, rb, wi) ls st h = some (.inl q')) : eGo p l e R s m args below meth c D dA b base (qm k).2.2.1 pc ls st h q' := by
  obtain ⟨hx, hb, hml, hown, hts0, hT, hK, hbs, hin, hsc⟩ := C
  have hts : ∀ w ∈ gT, w.before args s = true := fun w h => hts0 w (hT w h)
  have hlen : len = 1 := nb hi
  subst hlen
  obtain ⟨v, t, rfl, hs⟩ := iv_sV hs
  obtain ⟨hc, hs⟩ := iv_bo hs
  cases hs
  exact eGo.pure1 fun hl hw hS kk => lv_pop hx hb hd ((lf_cat b base v).trans (nb hc)) kk
theorem sd_dup2 (C : eCx p s m args meth c D dA b base sc (qm k) Ts) (hM : eMOK qm l D dA b base k M) (hRf : R.frames = (qm k).2.2.2.2.2.2.2.1) (hRl : R.locals = (qm k).2.2.2.2.2.2.2.2) {pc len ra rb wi : Nat}  {ls : eL} {st : List Value} {h : eH} {q' : eS} (hd : decode (qm k).2.1 pc = .ok (.dup2, len)) (hi : iB qm k (pc, .dup2, len, ra, rb, wi) = true) (hs : estep sc M (pc, .dup2, len, ra, rb, wi) ls st h = some (.inl q')) : eGo p l e R s m args below meth c D dA b base (qm k).2.2.1 pc ls st h q' := by
  obtain ⟨hx, hb, hml, hown, hts0, hT, hK, hbs, hin, hsc⟩ := C
  have hts : ∀ w ∈ gT, w.before args s = true := fun w h => hts0 w (hT w h)
  have hlen : len = 1 := nb hi
  subst hlen
  obtain ⟨v, t, rfl, hs⟩ := iv_sV hs
  obtain ⟨u, t, rfl, hs⟩ := iv_sV hs
  obtain ⟨hc, hs⟩ := iv_bo hs
  rw [Bool.and_eq_true] at hc
  cases hs
  exact eGo.pure1 fun hl hw hS kk => lv_dup2_11 hx hb hd ((lf_cat b base v).trans (nb hc.1)) ((lf_cat b base u).trans (nb hc.2)) kk
theorem sd_goto (C : eCx p s m args meth c D dA b base sc (qm k) Ts) (hM : eMOK qm l D dA b base k M) (hRf : R.frames = (qm k).2.2.2.2.2.2.2.1) (hRl : R.locals = (qm k).2.2.2.2.2.2.2.2) {pc len ra rb wi : Nat} {off : Int} {ls : eL} {st : List Value} {h : eH} {q' : eS} (hd : decode (qm k).2.1 pc = .ok (.goto off, len)) (hi : iB qm k (pc, .goto off, len, ra, rb, wi) = true) (hs : estep sc M (pc, .goto off, len, ra, rb, wi) ls st h = some (.inl q')) : eGo p l e R s m args below meth c D dA b base (qm k).2.2.1 pc ls st h q' := by
  obtain ⟨hx, hb, hml, hown, hts0, hT, hK, hbs, hin, hsc⟩ := C
  have hts : ∀ w ∈ gT, w.before args s = true := fun w h => hts0 w (hT w h)
  obtain ⟨ht, hlen⟩ := jB_ok hi
  dsimp only at ht hlen
  subst hlen
  cases hs
  exact eGo.pure1 fun hl hw hS kk => lv_goto hx hb hd ht kk
theorem sd_ifCond (C : eCx p s m args meth c D dA b base sc (qm k) Ts) (hM : eMOK qm l D dA b base k M) (hRf : R.frames = (qm k).2.2.2.2.2.2.2.1) (hRl : R.locals = (qm k).2.2.2.2.2.2.2.2) {pc len ra rb wi : Nat} {cd : Jvm.ClassFile.Cond} {off : Int} {ls : eL} {st : List Value} {h : eH} {q' : eS} (hd : decode (qm k).2.1 pc = .ok (.ifCond cd off, len)) (hi : iB qm k (pc, .ifCond cd off, len, ra, rb, wi) = true) (hs : estep sc M (pc, .ifCond cd off, len, ra, rb, wi) ls st h = some (.inl q')) : eGo p l e R s m args below meth c D dA b base (qm k).2.2.1 pc ls st h q' := by
  obtain ⟨hx, hb, hml, hown, hts0, hT, hK, hbs, hin, hsc⟩ := C
  have hts : ∀ w ∈ gT, w.before args s = true := fun w h => hts0 w (hT w h)
  obtain ⟨ht, hlen⟩ := jB_ok hi
  dsimp only at ht hlen
  subst hlen
  obtain ⟨x, t, rfl, hs⟩ := iv_sI hs
  cases cd with
  | eq =>
    rcases bal hs with ⟨hc, hs⟩ | ⟨hc, hs⟩
    · cases hs
      exact eGo.pure1 fun hl hw hS kk => lv_if_eq hx hb hd ht (fun _ => kk) (fun z => absurd hc z)
    · cases hs
      exact eGo.pure1 fun hl hw hS kk => lv_if_eq hx hb hd ht (fun z => absurd z hc) (fun _ => kk)
  | ne =>
    rcases bal hs with ⟨hc, hs⟩ | ⟨hc, hs⟩
    · cases hs
      exact eGo.pure1 fun hl hw hS kk => lv_if_ne hx hb hd ht (fun z => absurd hc z) (fun _ => kk)
    · cases hs
      exact eGo.pure1 fun hl hw hS kk => lv_if_ne hx hb hd ht (fun _ => kk) (fun z => absurd z hc)
  | lt =>
    rcases bal hs with ⟨hc, hs⟩ | ⟨hc, hs⟩
    · cases hs
      exact eGo.pure1 fun hl hw hS kk => lv_if_lt hx hb hd ht (fun _ => kk) (fun z => absurd hc z)
    · cases hs
      exact eGo.pure1 fun hl hw hS kk => lv_if_lt hx hb hd ht (fun z => absurd z hc) (fun _ => kk)
  | ge =>
    rcases bal hs with ⟨hc, hs⟩ | ⟨hc, hs⟩
    · cases hs
      exact eGo.pure1 fun hl hw hS kk => lv_if_ge hx hb hd ht (fun _ => kk) (fun z => absurd hc z)
    · cases hs
      exact eGo.pure1 fun hl hw hS kk => lv_if_ge hx hb hd ht (fun z => absurd z hc) (fun _ => kk)
  | gt =>
    rcases bal hs with ⟨hc, hs⟩ | ⟨hc, hs⟩
    · cases hs
      exact eGo.pure1 fun hl hw hS kk => lv_if_gt hx hb hd ht (fun _ => kk) (fun z => absurd hc z)
    · cases hs
      exact eGo.pure1 fun hl hw hS kk => lv_if_gt hx hb hd ht (fun z => absurd z hc) (fun _ => kk)
  | le =>
    rcases bal hs with ⟨hc, hs⟩ | ⟨hc, hs⟩
    · cases hs
      exact eGo.pure1 fun hl hw hS kk => lv_if_le hx hb hd ht (fun _ => kk) (fun z => absurd hc z)
    · cases hs
      exact eGo.pure1 fun hl hw hS kk => lv_if_le hx hb hd ht (fun z => absurd z hc) (fun _ => kk)
theorem sd_if_icmp (C : eCx p s m args meth c D dA b base sc (qm k) Ts) (hM : eMOK qm l D dA b base k M) (hRf : R.frames = (qm k).2.2.2.2.2.2.2.1) (hRl : R.locals = (qm k).2.2.2.2.2.2.2.2) {pc len ra rb wi : Nat} {cd : Jvm.ClassFile.Cond} {off : Int} {ls : eL} {st : List Value} {h : eH} {q' : eS} (hd : decode (qm k).2.1 pc = .ok (.if_icmp cd off, len)) (hi : iB qm k (pc, .if_icmp cd off, len, ra, rb, wi) = true) (hs : estep sc M (pc, .if_icmp cd off, len, ra, rb, wi) ls st h = some (.inl q')) : eGo p l e R s m args below meth c D dA b base (qm k).2.2.1 pc ls st h q' := by
  obtain ⟨hx, hb, hml, hown, hts0, hT, hK, hbs, hin, hsc⟩ := C
  have hts : ∀ w ∈ gT, w.before args s = true := fun w h => hts0 w (hT w h)
  obtain ⟨ht, hlen⟩ := jB_ok hi
  dsimp only at ht hlen
  subst hlen
  obtain ⟨x, y, t, rfl, hs⟩ := iv_sII hs
  cases cd with
  | eq =>
    rcases bal hs with ⟨hc, hs⟩ | ⟨hc, hs⟩
    · cases hs
      exact eGo.pure1 fun hl hw hS kk => lv_icmp_eq hx hb hd ht (fun _ => kk) (fun z => absurd hc z)
    · cases hs
      exact eGo.pure1 fun hl hw hS kk => lv_icmp_eq hx hb hd ht (fun z => absurd z hc) (fun _ => kk)
  | ne =>
    rcases bal hs with ⟨hc, hs⟩ | ⟨hc, hs⟩
    · cases hs
      exact eGo.pure1 fun hl hw hS kk => lv_icmp_ne hx hb hd ht (fun z => absurd hc z) (fun _ => kk)
    · cases hs
      exact eGo.pure1 fun hl hw hS kk => lv_icmp_ne hx hb hd ht (fun _ => kk) (fun z => absurd z hc)
  | lt =>
    rcases bal hs with ⟨hc, hs⟩ | ⟨hc, hs⟩
    · cases hs
      exact eGo.pure1 fun hl hw hS kk => lv_icmp_lt hx hb hd ht (fun _ => kk) (fun z => absurd hc z)
    · cases hs
      exact eGo.pure1 fun hl hw hS kk => lv_icmp_lt hx hb hd ht (fun z => absurd z hc) (fun _ => kk)
  | ge =>
    rcases bal hs with ⟨hc, hs⟩ | ⟨hc, hs⟩
    · cases hs
      exact eGo.pure1 fun hl hw hS kk => lv_icmp_ge hx hb hd ht (fun _ => kk) (fun z => absurd hc z)
    · cases hs
      exact eGo.pure1 fun hl hw hS kk => lv_icmp_ge hx hb hd ht (fun z => absurd z hc) (fun _ => kk)
  | gt =>
    rcases bal hs with ⟨hc, hs⟩ | ⟨hc, hs⟩
    · cases hs
      exact eGo.pure1 fun hl hw hS kk => lv_icmp_gt hx hb hd ht (fun _ => kk) (fun z => absurd hc z)
    · cases hs
      exact eGo.pure1 fun hl hw hS kk => lv_icmp_gt hx hb hd ht (fun z => absurd z hc) (fun _ => kk)
  | le =>
    rcases bal hs with ⟨hc, hs⟩ | ⟨hc, hs⟩
    · cases hs
      exact eGo.pure1 fun hl hw hS kk => lv_icmp_le hx hb hd ht (fun _ => kk) (fun z => absurd hc z)
    · cases hs
      exact eGo.pure1 fun hl hw hS kk => lv_icmp_le hx hb hd ht (fun z => absurd z hc) (fun _ => kk)
theorem sd_tableswitch (C : eCx p s m args meth c D dA b base sc (qm k) Ts) (hM : eMOK qm l D dA b base k M) (hRf : R.frames = (qm k).2.2.2.2.2.2.2.1) (hRl : R.locals = (qm k).2.2.2.2.2.2.2.2) {pc len ra rb wi : Nat} {dd lo hv : Int} {offs : Array Int} {ls : eL} {st : List Value} {h : eH} {q' : eS} (hd : decode (qm k).2.1 pc = .ok (.tableswitch dd lo hv offs, len)) (hi : iB qm k (pc, .tableswitch dd lo hv offs, len, ra, rb, wi) = true) (hs : estep sc M (pc, .tableswitch dd lo hv offs, len, ra, rb, wi) ls st h = some (.inl q')) : eGo p l e R s m args below meth c D dA b base (qm k).2.2.1 pc ls st h q' := by
  obtain ⟨hx, hb, hml, hown, hts0, hT, hK, hbs, hin, hsc⟩ := C
  have hts : ∀ w ∈ gT, w.before args s = true := fun w h => hts0 w (hT w h)
  obtain ⟨x, t, rfl, hs⟩ := iv_sI hs
  cases hz : eSw pc x dd lo hv offs with
  | none =>
    have hs : (match eSw pc x dd lo hv offs with | some z => if 0 ≤ z then some (.inl (z.toNat, ls, t, h)) else none | none => none) = some (Sum.inl q' : eS ⊕ eR) := hs
    rw [hz] at hs
    cases hs
  | some z =>
    have hs : (match eSw pc x dd lo hv offs with | some z => if 0 ≤ z then some (.inl (z.toNat, ls, t, h)) else none | none => none) = some (Sum.inl q' : eS ⊕ eR) := hs
    rw [hz] at hs
    rcases bal hs with ⟨h0, hs⟩ | ⟨-, hs⟩
    · cases hs
      refine eGo.pure1 fun hl hw hS kk => ?_
      unfold eSw at hz
      rcases bal hz with ⟨hc, hz⟩ | ⟨hc, hz⟩
      · cases hz
        exact lv_tableOut hx hb hd hc (by omega) kk
      · cases ho : offs[(x.toInt - lo).toNat]? with
        | none => rw [ho] at hz; cases hz
        | some o =>
          rw [ho] at hz
          cases hz
          have h0 : (0 : Int) ≤ (pc : Int) + o := h0
          show W _ _ _ _ _ _ _ _ _ _ _ _ _ _ _ _
          exact lv_tableIn hx hb hd (fun q => hc (Or.inl q)) (fun q => hc (Or.inr q)) ho (tgt := ((pc : Int) + o).toNat) (by omega) kk
    · cases hs
theorem sd_getfield (C : eCx p s m args meth c D dA b base sc (qm k) Ts) (hM : eMOK qm l D dA b base k M) (hRf : R.frames = (qm k).2.2.2.2.2.2.2.1) (hRl : R.locals = (qm k).2.2.2.2.2.2.2.2) {pc len ra rb wi : Nat} {n : Nat} {ls : eL} {st : List Value} {h : eH} {q' : eS} (hd : decode (qm k).2.1 pc = .ok (.getfield n, len)) (hi : iB qm k (pc, .getfield n, len, ra, rb, wi) = true) (hs : estep sc M (pc, .getfield n, len, ra, rb, wi) ls st h = some (.inl q')) : eGo p l e R s m args below meth c D dA b base (qm k).2.2.1 pc ls st h q' := by
  obtain ⟨hx, hb, hml, hown, hts0, hT, hK, hbs, hin, hsc⟩ := C
  have hts : ∀ w ∈ gT, w.before args s = true := fun w h => hts0 w (hT w h)
  have hi : (Nat.beq len 3 && _) = true := hi
  rw [Bool.and_eq_true] at hi
  have hlen : len = 3 := nb hi.1
  subst hlen
  obtain ⟨q, hq, hlt, hlk⟩ := fB_ok hi.2
  dsimp only at hq hlt hlk
  obtain ⟨a, t, rfl, hs⟩ := iv_sR hs
  obtain ⟨ci, fs, ha, hs⟩ := iv_hO hs
  obtain ⟨hc, hs⟩ := iv_bo hs
  have hc := nb hc
  dsimp only at hc
  subst hc
  cases hv : fs[rb]? with
  | none =>
    have hs : (match fs[rb]? with | some v => some (.inl (pc + 3, ls, v :: t, h)) | none => none) = some (Sum.inl q' : eS ⊕ eR) := hs
    rw [hv] at hs
    cases hs
  | some v =>
    have hs : (match fs[rb]? with | some v => some (.inl (pc + 3, ls, v :: t, h)) | none => none) = some (Sum.inl q' : eS ⊕ eR) := hs
    rw [hv] at hs
    cases hs
    obtain ⟨k1, k2, k3, k4, k5, k6⟩ := qcls_ok hq
    refine eGo.pure1 fun hl hw hS kk => ?_
    have hlt' : a < h.2.1 := hw.lt rfl (by
      rw [ha]
      intro z
      unfold qbad at z
      have z := Sum.inr.inj z
      have z1 : ci = 99 := congrArg Prod.fst z
      rw [z1] at hq
      simp [qcls] at hq)
    have hat := wl_at (dA := dA) (b := b) (base := base) hlt'
    rw [ha] at hat
    refine va_get (C := q.1) (T := q.2.1) (N := q.2.2) (ref := q.1) hx hb hts k1 hown hK.1 hw.2.1 a hat hq rb hlt (hts _ hlk) (fun x hx => by rw [k6 rb hlt] at hx; exact hx) (v := lf b base v) ?_ hd kk
    rw [List.getElem?_map, hv]
    rfl
theorem sd_putfield (C : eCx p s m args meth c D dA b base sc (qm k) Ts) (hM : eMOK qm l D dA b base k M) (hRf : R.frames = (qm k).2.2.2.2.2.2.2.1) (hRl : R.locals = (qm k).2.2.2.2.2.2.2.2) {pc len ra rb wi : Nat} {n : Nat} {ls : eL} {st : List Value} {h : eH} {q' : eS} (hd : decode (qm k).2.1 pc = .ok (.putfield n, len)) (hi : iB qm k (pc, .putfield n, len, ra, rb, wi) = true) (hs : estep sc M (pc, .putfield n, len, ra, rb, wi) ls st h = some (.inl q')) : eGo p l e R s m args below meth c D dA b base (qm k).2.2.1 pc ls st h q' := by
  obtain ⟨hx, hb, hml, hown, hts0, hT, hK, hbs, hin, hsc⟩ := C
  have hts : ∀ w ∈ gT, w.before args s = true := fun w h => hts0 w (hT w h)
  have hi : (Nat.beq len 3 && fB qm k (pc, .putfield n, len, ra, rb, wi) n && pB qm k (pc, .putfield n, len, ra, rb, wi)) = true := hi
  rw [Bool.and_eq_true, Bool.and_eq_true] at hi
  obtain ⟨⟨hi1, hi2⟩, hi3⟩ := hi
  have hlen : len = 3 := nb hi1
  subst hlen
  obtain ⟨q, hq, hlt, hlk⟩ := fB_ok hi2
  dsimp only at hq hlt hlk
  obtain ⟨v, a, t, rfl, hs⟩ := iv_sVR hs
  obtain ⟨ci, fs, ha, hs⟩ := iv_hO hs
  obtain ⟨hc, hs⟩ := iv_bo hs
  rw [Bool.and_eq_true, Bool.and_eq_true] at hc
  obtain ⟨⟨hc, hov⟩, hfl⟩ := hc
  have hc := nb hc
  dsimp only at hc
  subst hc
  cases hs
  obtain ⟨k1, k2, k3, k4, k5, k6⟩ := qcls_ok hq
  have hfl : rb < fs.length := Nat.le_of_ble_eq_true hfl
  have hov := okv_ok (b := b) (base := base) hov
  dsimp only at hov
  have hnq : h.1 a ≠ qbad := by
    rw [ha]
    intro z
    unfold qbad at z
    have z := Sum.inr.inj z
    have z1 : ci = 99 := congrArg Prod.fst z
    rw [z1] at hq
    simp [qcls] at hq
  refine eGo.put hnq fun {H locs cells slots arr Q} hl hw hlt' hS kk => ?_
  have hat := wl_at (dA := dA) (b := b) (base := base) hlt'
  rw [ha] at hat
  have hE : lfE dA b base (.inr (ci, fs.set rb v)) = .inr (ci, (fs.map (lf b base)).set rb (lf b base v)) := by
    show Sum.inr (ci, (fs.set rb v).map (lf b base)) = _
    rw [List.map_set]
  rw [hE] at kk
  have hap := va_apart (own := (qm k).1.cls) hts k1 (qty ci) k4 k5 hK.1 hq
  obtain ⟨r, h1, cell, q1, q2, q3, q4⟩ := hw.2.1 a _ hat
  have hr : r = (q.1, q.2.1, q.2.2) := Option.some.inj (h1.symm.trans hq)
  subst hr
  obtain ⟨hSl, hfc, kC, hkC, hkind⟩ := hK.1.1 ci _ hq
  obtain ⟨cf, kf, fi, f, hfd, hsl⟩ := hSl rb hlt
  have hfd' : s.fieldFound? q.1 (q.2.1 rb).2.1 (q.2.1 rb).2.2.1 = some (cf, kf, fi, f) := by
    have := hfd
    rw [k6 rb hlt] at this
    exact this
  have hlay := hts _ (k1 _ (u_in_lay hlt))
  have hst := (u_facts hfc hkC (u_lays hts k1 hlt) hfd).1
  have hfin : ∀ (H' : Heap), H'[base + a]? = some (cell.setSlot f.slot (lf b base v)) → H'.size = H.size → (∀ x, x ≠ base + a → H'[x]? = H[x]?) → W p l e R s m args below meth c H' (locs ++ [⟨base + a, f.slot⟩]) cells slots Q (F0 m (pc + 3) arr (t.map (lf b base))) := by
    intro H' e1 e2 e3
    rw [hsl] at e1 ⊢
    refine kk H' _ (hw.2.1.set wl_D hat ⟨_, hq, t_OB.to (V := updV (vp_V (fs.map (lf b base))) rb (lf b base v)) ⟨_, e1, q2, q3, t_set q4 hap hlt _⟩ (fun j _ => vp_updV_set (by rw [List.length_map]; exact hfl) _ j)⟩ e3) e2 (hS.put e2 e3 (Nat.le_add_right _ _))
  cases hfl9 : (q.2.1 rb).2.2.2 with
  | false =>
    unfold u_lay at hlay
    rw [if_neg (by rw [hfl9]; decide)] at hlay
    have h6 := u_store hfc hkC hkind hlay hfd (k4 rb hlt) hov.1 hov.2
    exact W.putK hx hb (f := f) ⟨hown, hts _ hlk, ⟨_, _, _, hfd'⟩, hst⟩ (by rw [q2]; exact h6) q1 q3 (by rw [hsl]; exact k2_hasslot (q4 rb hlt)) rfl rfl hd hfin
  | true =>
    unfold u_lay at hlay
    rw [if_pos hfl9] at hlay
    unfold pB at hi3
    dsimp only at hi3
    rw [hq] at hi3
    simp only [hfl9, Bool.or_eq_true, Bool.and_eq_true, beq_iff_eq, Bool.true_eq_false, false_or] at hi3
    have hcf : m.cls = cf := by
      obtain ⟨_, _, c', _, _, _, -, -, hf', -, -, -, hown2, -⟩ := Cond.laysFinal_spec hlay
      have e1 : c' = cf := by have := hfd.symm.trans hf'; simp at this; exact this.1.symm
      rw [k6 rb hlt, ← hi3.2] at hown2
      rw [← e1]; exact Option.some.inj (hown.symm.trans hown2)
    have h6 := u_fits hfc hkC hkind (Or.inr hlay) hfd (k4 rb hlt) hov.1 hov.2
    exact W.putFinK hx hb hown (hts _ hlk) hfd' hst hcf (hin hi3.1) (by rw [q2]; exact h6) q1 q3 (by rw [hsl]; exact k2_hasslot (q4 rb hlt)) rfl rfl hd hfin
theorem sd_baload (C : eCx p s m args meth c D dA b base sc (qm k) Ts) (hM : eMOK qm l D dA b base k M) (hRf : R.frames = (qm k).2.2.2.2.2.2.2.1) (hRl : R.locals = (qm k).2.2.2.2.2.2.2.2) {pc len ra rb wi : Nat}  {ls : eL} {st : List Value} {h : eH} {q' : eS} (hd : decode (qm k).2.1 pc = .ok (.baload, len)) (hi : iB qm k (pc, .baload, len, ra, rb, wi) = true) (hs : estep sc M (pc, .baload, len, ra, rb, wi) ls st h = some (.inl q')) : eGo p l e R s m args below meth c D dA b base (qm k).2.2.1 pc ls st h q' := by
  obtain ⟨hx, hb, hml, hown, hts0, hT, hK, hbs, hin, hsc⟩ := C
  have hts : ∀ w ∈ gT, w.before args s = true := fun w h => hts0 w (hT w h)
  have hlen : len = 1 := nb hi
  subst hlen
  obtain ⟨i, a, t, rfl, hs⟩ := iv_sIR hs
  obtain ⟨n, f, ha, hs⟩ := iv_hI hs
  obtain ⟨hv, hs⟩ := iv_in hs
  cases hs
  refine eGo.pure1 fun hl hw hS kk => ?_
  have hlt' : a < h.2.1 := hw.lt ha (by intro z; cases z)
  have hat := wl_at (dA := dA) (b := b) (base := base) hlt'
  rw [ha] at hat
  exact va_zald hx hb hK.1 hw.2.1 a 2 hat rfl hv hd kk
theorem sd_laload (C : eCx p s m args meth c D dA b base sc (qm k) Ts) (hM : eMOK qm l D dA b base k M) (hRf : R.frames = (qm k).2.2.2.2.2.2.2.1) (hRl : R.locals = (qm k).2.2.2.2.2.2.2.2) {pc len ra rb wi : Nat}  {ls : eL} {st : List Value} {h : eH} {q' : eS} (hd : decode (qm k).2.1 pc = .ok (.laload, len)) (hi : iB qm k (pc, .laload, len, ra, rb, wi) = true) (hs : estep sc M (pc, .laload, len, ra, rb, wi) ls st h = some (.inl q')) : eGo p l e R s m args below meth c D dA b base (qm k).2.2.1 pc ls st h q' := by
  obtain ⟨hx, hb, hml, hown, hts0, hT, hK, hbs, hin, hsc⟩ := C
  have hts : ∀ w ∈ gT, w.before args s = true := fun w h => hts0 w (hT w h)
  have hlen : len = 1 := nb hi
  subst hlen
  obtain ⟨i, a, t, rfl, hs⟩ := iv_sIR hs
  obtain ⟨n, f, ha, hs⟩ := iv_hL hs
  obtain ⟨hv, hs⟩ := iv_in hs
  cases hs
  refine eGo.pure1 fun hl hw hS kk => ?_
  have hlt' : a < h.2.1 := hw.lt ha (by intro z; cases z)
  have hat := wl_at (dA := dA) (b := b) (base := base) hlt'
  rw [ha] at hat
  exact va_lald hx hb hK.1 hw.2.1 a 1 hat rfl hv hd kk
theorem sd_iaload (C : eCx p s m args meth c D dA b base sc (qm k) Ts) (hM : eMOK qm l D dA b base k M) (hRf : R.frames = (qm k).2.2.2.2.2.2.2.1) (hRl : R.locals = (qm k).2.2.2.2.2.2.2.2) {pc len ra rb wi : Nat}  {ls : eL} {st : List Value} {h : eH} {q' : eS} (hd : decode (qm k).2.1 pc = .ok (.iaload, len)) (hi : iB qm k (pc, .iaload, len, ra, rb, wi) = true) (hs : estep sc M (pc, .iaload, len, ra, rb, wi) ls st h = some (.inl q')) : eGo p l e R s m args below meth c D dA b base (qm k).2.2.1 pc ls st h q' := by
  obtain ⟨hx, hb, hml, hown, hts0, hT, hK, hbs, hin, hsc⟩ := C
  have hts : ∀ w ∈ gT, w.before args s = true := fun w h => hts0 w (hT w h)
  have hlen : len = 1 := nb hi
  subst hlen
  rcases iv_sIF hs with ⟨i, a, t, rfl, hs⟩ | ⟨i, x, t, rfl, hs⟩
  · obtain ⟨n, f, ha, hs⟩ := iv_hI hs
    obtain ⟨hv, hs⟩ := iv_in hs
    cases hs
    refine eGo.pure1 fun hl hw hS kk => ?_
    have hlt' : a < h.2.1 := hw.lt ha (by intro z; cases z)
    have hat := wl_at (dA := dA) (b := b) (base := base) hlt'
    rw [ha] at hat
    exact va_iald hx hb hK.1 hw.2.1 a 0 hat rfl hv hd kk
  · obtain ⟨L, xs, hsc0, hs⟩ := iv_oSc hs
    obtain ⟨hv, hs⟩ := iv_in hs
    cases hs
    obtain ⟨hX, hbl, hbb⟩ := hsc L xs hsc0
    exact eGo.pure1 fun hl hw hS kk => va_sld hx hb hX hbl (Nat.not_le.mpr hbb) hS hv hd kk
theorem sd_arraylength (C : eCx p s m args meth c D dA b base sc (qm k) Ts) (hM : eMOK qm l D dA b base k M) (hRf : R.frames = (qm k).2.2.2.2.2.2.2.1) (hRl : R.locals = (qm k).2.2.2.2.2.2.2.2) {pc len ra rb wi : Nat}  {ls : eL} {st : List Value} {h : eH} {q' : eS} (hd : decode (qm k).2.1 pc = .ok (.arraylength, len)) (hi : iB qm k (pc, .arraylength, len, ra, rb, wi) = true) (hs : estep sc M (pc, .arraylength, len, ra, rb, wi) ls st h = some (.inl q')) : eGo p l e R s m args below meth c D dA b base (qm k).2.2.1 pc ls st h q' := by
  obtain ⟨hx, hb, hml, hown, hts0, hT, hK, hbs, hin, hsc⟩ := C
  have hts : ∀ w ∈ gT, w.before args s = true := fun w h => hts0 w (hT w h)
  have hlen : len = 1 := nb hi
  subst hlen
  rcases iv_sRF hs with ⟨a, t, rfl, hs⟩ | ⟨x, t, rfl, hs⟩
  · obtain ⟨tg, x, ha, htg, hs⟩ := iv_hN hs
    cases hs
    refine eGo.pure1 fun hl hw hS kk => ?_
    have hlt' : a < h.2.1 := hw.lt ha (by intro z; cases z)
    have hat := wl_at (dA := dA) (b := b) (base := base) hlt'
    rw [ha] at hat
    obtain ⟨ty, hty⟩ : ∃ ty, (tysL dA)[tg]? = some (dA tg, ty) := by
      match tg, htg with
      | 0, _ => exact ⟨_, rfl⟩
      | 1, _ => exact ⟨_, rfl⟩
      | 2, _ => exact ⟨_, rfl⟩
      | 3, _ => exact ⟨_, rfl⟩
      | 4, _ => exact ⟨_, rfl⟩
      | 5, _ => exact ⟨_, rfl⟩
      | 6, _ => exact ⟨_, rfl⟩
    obtain ⟨n, y⟩ := x
    rcases y with f | f | f | f | f
    · exact va_alen hx hb hK.1 hw.2.1 a tg hat hty rfl hd kk
    · exact va_alen hx hb hK.1 hw.2.1 a tg hat hty rfl hd kk
    · exact va_alen hx hb hK.1 hw.2.1 a tg hat hty rfl hd kk
    · exact va_alen hx hb hK.1 hw.2.1 a tg hat hty rfl hd kk
    · exact va_alen hx hb hK.1 hw.2.1 a tg hat hty rfl hd kk
  · obtain ⟨L, xs, hsc0, hs⟩ := iv_oSc hs
    cases hs
    obtain ⟨hX, hbl, hbb⟩ := hsc L xs hsc0
    exact eGo.pure1 fun hl hw hS kk => va_slen hx hb hX hbl (Nat.not_le.mpr hbb) hS hd kk
theorem sd_aaload (C : eCx p s m args meth c D dA b base sc (qm k) Ts) (hM : eMOK qm l D dA b base k M) (hRf : R.frames = (qm k).2.2.2.2.2.2.2.1) (hRl : R.locals = (qm k).2.2.2.2.2.2.2.2) {pc len ra rb wi : Nat}  {ls : eL} {st : List Value} {h : eH} {q' : eS} (hd : decode (qm k).2.1 pc = .ok (.aaload, len)) (hi : iB qm k (pc, .aaload, len, ra, rb, wi) = true) (hs : estep sc M (pc, .aaload, len, ra, rb, wi) ls st h = some (.inl q')) : eGo p l e R s m args below meth c D dA b base (qm k).2.2.1 pc ls st h q' := by
  obtain ⟨hx, hb, hml, hown, hts0, hT, hK, hbs, hin, hsc⟩ := C
  have hts : ∀ w ∈ gT, w.before args s = true := fun w h => hts0 w (hT w h)
  have hlen : len = 1 := nb hi
  subst hlen
  obtain ⟨i, a, t, rfl, hs⟩ := iv_sIR hs
  obtain ⟨tg, n, f, ha, h3, h6, hs⟩ := iv_hQ hs
  obtain ⟨hv, hs⟩ := iv_in hs
  cases hq : f i.toNatClampNeg with
  | none =>
    rw [hq] at hs
    cases hs
  | some q =>
    rw [hq] at hs
    cases hs
    refine eGo.pure1 fun hl hw hS kk => ?_
    have hlt' : a < h.2.1 := hw.lt ha (by intro z; cases z)
    have hat := wl_at (dA := dA) (b := b) (base := base) hlt'
    rw [ha] at hat
    obtain ⟨ty, hty, hrf⟩ : ∃ ty, (tysL dA)[tg]? = some (dA tg, ty) ∧ ty.isReference = true := by
      match tg, h3, h6 with
      | 3, _, _ => exact ⟨_, rfl, rfl⟩
      | 4, _, _ => exact ⟨_, rfl, rfl⟩
      | 5, _, _ => exact ⟨_, rfl, rfl⟩
      | 6, _, _ => exact ⟨_, rfl, rfl⟩
    have hlt : i.toNatClampNeg < n := Nat.not_le.mp fun q => hv (Or.inr q)
    have hcell : _ = some (vp_cell (dA tg) (n, .inr (.inr (.inr (.inr (fun j => (f j).map (base + ·))))))) := hw.2.1 a _ hat
    refine W.aald (v := .ref (base + q)) (ty := ty) hx hb hcell ((hK.1.2 tg _ hty).1 n (fun j => va_rf ((f j).map (base + ·)))) hrf (fun q => by cases q) (by show ¬ (i < 0 ∨ (arrV _ _ _).slots.size ≤ _); rw [arrV_size]; exact hv) ?_ rfl rfl hd kk
    show (arrV _ _ _).slots[_]? = _
    rw [arrV_read _ _ hlt]
    dsimp only
    rw [hq]
    rfl
theorem sd_iastore (C : eCx p s m args meth c D dA b base sc (qm k) Ts) (hM : eMOK qm l D dA b base k M) (hRf : R.frames = (qm k).2.2.2.2.2.2.2.1) (hRl : R.locals = (qm k).2.2.2.2.2.2.2.2) {pc len ra rb wi : Nat}  {ls : eL} {st : List Value} {h : eH} {q' : eS} (hd : decode (qm k).2.1 pc = .ok (.iastore, len)) (hi : iB qm k (pc, .iastore, len, ra, rb, wi) = true) (hs : estep sc M (pc, .iastore, len, ra, rb, wi) ls st h = some (.inl q')) : eGo p l e R s m args below meth c D dA b base (qm k).2.2.1 pc ls st h q' := by
  obtain ⟨hx, hb, hml, hown, hts0, hT, hK, hbs, hin, hsc⟩ := C
  have hts : ∀ w ∈ gT, w.before args s = true := fun w h => hts0 w (hT w h)
  have hlen : len = 1 := nb hi
  subst hlen
  obtain ⟨x, i, a, t, rfl, hs⟩ := iv_sIIR hs
  obtain ⟨n, f, ha, hs⟩ := iv_hI hs
  obtain ⟨hv, hs⟩ := iv_in hs
  cases hs
  refine eGo.put (by rw [ha]; intro z; cases z) fun hl hw hlt' hS kk => ?_
  have hat := wl_at (dA := dA) (b := b) (base := base) hlt'
  rw [ha] at hat
  have hcell : _ = some (vp_cell (dA 0) (n, .inl f)) := hw.2.1 a _ hat
  refine W.iast hx hb hcell ((hK.1.2 0 _ rfl).1 n (fun j => .int (f j))) (fun q => by cases q) (by show ¬ (i < 0 ∨ (arrV _ _ _).slots.size ≤ _); rw [arrV_size]; exact hv) rfl rfl hd fun H1 e z oq => ?_
  refine kk H1 _ (hw.2.1.set wl_D hat ?_ oq) z (hS.put z oq (Nat.le_add_right _ _))
  show H1[base + a]? = some (vp_cell (dA 0) (n, .inl (upd f i.toNatClampNeg x)))
  rw [e]
  rw [vp_cell_i, vp_cell_i, arrV_store]
  congr 2
  funext q
  by_cases hq : q = i.toNatClampNeg
  · subst hq
    simp [updV, upd]
  · simp [updV, upd, hq]
theorem sd_lastore (C : eCx p s m args meth c D dA b base sc (qm k) Ts) (hM : eMOK qm l D dA b base k M) (hRf : R.frames = (qm k).2.2.2.2.2.2.2.1) (hRl : R.locals = (qm k).2.2.2.2.2.2.2.2) {pc len ra rb wi : Nat}  {ls : eL} {st : List Value} {h : eH} {q' : eS} (hd : decode (qm k).2.1 pc = .ok (.lastore, len)) (hi : iB qm k (pc, .lastore, len, ra, rb, wi) = true) (hs : estep sc M (pc, .lastore, len, ra, rb, wi) ls st h = some (.inl q')) : eGo p l e R s m args below meth c D dA b base (qm k).2.2.1 pc ls st h q' := by
  obtain ⟨hx, hb, hml, hown, hts0, hT, hK, hbs, hin, hsc⟩ := C
  have hts : ∀ w ∈ gT, w.before args s = true := fun w h => hts0 w (hT w h)
  have hlen : len = 1 := nb hi
  subst hlen
  obtain ⟨x, i, a, t, rfl, hs⟩ := iv_sLIR hs
  obtain ⟨n, f, ha, hs⟩ := iv_hL hs
  obtain ⟨hv, hs⟩ := iv_in hs
  cases hs
  refine eGo.put (by rw [ha]; intro z; cases z) fun hl hw hlt' hS kk => ?_
  have hat := wl_at (dA := dA) (b := b) (base := base) hlt'
  rw [ha] at hat
  have hcell : _ = some (vp_cell (dA 1) (n, .inr (.inl f))) := hw.2.1 a _ hat
  refine W.last hx hb hcell ((hK.1.2 1 _ rfl).1 n (fun j => .long (f j))) (fun q => by cases q) (by show ¬ (i < 0 ∨ (arrV _ _ _).slots.size ≤ _); rw [arrV_size]; exact hv) rfl rfl hd fun H1 e z oq => ?_
  refine kk H1 _ (hw.2.1.set wl_D hat ?_ oq) z (hS.put z oq (Nat.le_add_right _ _))
  show H1[base + a]? = some (vp_cell (dA 1) (n, .inr (.inl (vp_updL f i.toNatClampNeg x))))
  rw [e]
  rw [vp_cell_l, vp_cell_l, arrV_store]
  congr 2
  funext q
  by_cases hq : q = i.toNatClampNeg
  · subst hq
    simp [updV, vp_updL]
  · simp [updV, vp_updL, hq]
theorem sd_bastore (C : eCx p s m args meth c D dA b base sc (qm k) Ts) (hM : eMOK qm l D dA b base k M) (hRf : R.frames = (qm k).2.2.2.2.2.2.2.1) (hRl : R.locals = (qm k).2.2.2.2.2.2.2.2) {pc len ra rb wi : Nat}  {ls : eL} {st : List Value} {h : eH} {q' : eS} (hd : decode (qm k).2.1 pc = .ok (.bastore, len)) (hi : iB qm k (pc, .bastore, len, ra, rb, wi) = true) (hs : estep sc M (pc, .bastore, len, ra, rb, wi) ls st h = some (.inl q')) : eGo p l e R s m args below meth c D dA b base (qm k).2.2.1 pc ls st h q' := by
  obtain ⟨hx, hb, hml, hown, hts0, hT, hK, hbs, hin, hsc⟩ := C
  have hts : ∀ w ∈ gT, w.before args s = true := fun w h => hts0 w (hT w h)
  have hlen : len = 1 := nb hi
  subst hlen
  obtain ⟨x, i, a, t, rfl, hs⟩ := iv_sIIR hs
  obtain ⟨n, f, ha, hs⟩ := iv_hI hs
  obtain ⟨hv, hs⟩ := iv_in hs
  obtain ⟨hc, hs⟩ := iv_bo hs
  have hnar : narrow .boolean (.int x) = .int x := by
    simp only [Bool.or_eq_true, beq_iff_eq] at hc
    rcases hc with rfl | rfl <;> decide
  cases hs
  refine eGo.put (by rw [ha]; intro z; cases z) fun hl hw hlt' hS kk => ?_
  have hat := wl_at (dA := dA) (b := b) (base := base) hlt'
  rw [ha] at hat
  have hcell : _ = some (vp_cell (dA 2) (n, .inl f)) := hw.2.1 a _ hat
  refine W.zast hx hb hcell ((hK.1.2 2 _ rfl).1 n (fun j => .int (f j))) (fun q => by cases q) (by show ¬ (i < 0 ∨ (arrV _ _ _).slots.size ≤ _); rw [arrV_size]; exact hv) rfl rfl hd fun H1 e z oq => ?_
  refine kk H1 _ (hw.2.1.set wl_D hat ?_ oq) z (hS.put z oq (Nat.le_add_right _ _))
  show H1[base + a]? = some (vp_cell (dA 2) (n, .inl (upd f i.toNatClampNeg x)))
  rw [e]
  rw [vp_cell_i, vp_cell_i, arrV_store]
  congr 2
  funext q
  by_cases hq : q = i.toNatClampNeg
  · subst hq
    simp [updV, upd, hnar]
  · simp [updV, upd, hq]
theorem sd_aastore (C : eCx p s m args meth c D dA b base sc (qm k) Ts) (hM : eMOK qm l D dA b base k M) (hRf : R.frames = (qm k).2.2.2.2.2.2.2.1) (hRl : R.locals = (qm k).2.2.2.2.2.2.2.2) {pc len ra rb wi : Nat}  {ls : eL} {st : List Value} {h : eH} {q' : eS} (hd : decode (qm k).2.1 pc = .ok (.aastore, len)) (hi : iB qm k (pc, .aastore, len, ra, rb, wi) = true) (hs : estep sc M (pc, .aastore, len, ra, rb, wi) ls st h = some (.inl q')) : eGo p l e R s m args below meth c D dA b base (qm k).2.2.1 pc ls st h q' := by
  obtain ⟨hx, hb, hml, hown, hts0, hT, hK, hbs, hin, hsc⟩ := C
  have hts : ∀ w ∈ gT, w.before args s = true := fun w h => hts0 w (hT w h)
  have hlen : len = 1 := nb hi
  subst hlen
  obtain ⟨v, i, a, t, rfl, hs⟩ := iv_sRIR hs
  obtain ⟨tg, n, f, ha, h3, h6, hs⟩ := iv_hQ hs
  obtain ⟨cv, vs, hv0, hs⟩ := iv_hO hs
  obtain ⟨hc, hs⟩ := iv_bo hs
  obtain ⟨hv, hs⟩ := iv_in hs
  cases hs
  obtain ⟨r, hr, hty⟩ : ∃ r : vw_C, qcls[cv]? = some r ∧ (tysL dA)[tg]? = some (dA tg, .object r.1) := by
    rw [Bool.or_eq_true, Bool.and_eq_true, Bool.and_eq_true] at hc
    rcases hc with ⟨h1, h2⟩ | ⟨h1, h2⟩
    · rw [nb h1, nb h2]; exact ⟨_, rfl, rfl⟩
    · rw [nb h1, nb h2]; exact ⟨_, rfl, rfl⟩
  refine eGo.put (by rw [ha]; intro z; cases z) fun hl hw hlt' hS kk => ?_
  have hat := wl_at (dA := dA) (b := b) (base := base) hlt'
  rw [ha] at hat
  have hvt : v < h.2.1 := hw.lt rfl (by
    rw [hv0]
    intro z
    unfold qbad at z
    have z := Sum.inr.inj z
    have z1 : cv = 99 := congrArg Prod.fst z
    rw [z1] at hr
    simp [qcls] at hr)
  have hav := wl_at (dA := dA) (b := b) (base := base) hvt
  rw [hv0] at hav
  have hlt : i.toNatClampNeg < n := Nat.not_le.mp fun q => hv (Or.inr q)
  have h0 : ¬ i < 0 := fun q => hv (Or.inl q)
  obtain ⟨r', hr', cellV, g1, g2, g3, -⟩ := hw.2.1 v _ hav
  have hcls := (hK.1.1 cv r hr).2
  obtain ⟨kA, comp, k1, k2, k3, -⟩ := (hK.1.2 tg _ hty).2
  have hcomp : comp = D.1 cv := Option.some.inj (k3.symm.trans hcls.1)
  subst hcomp
  obtain ⟨kC, hkC, -⟩ := hcls.2
  have hcell : _ = some (vp_cell (dA tg) (n, .inr (.inr (.inr (.inr (fun j => (f j).map (base + ·))))))) := hw.2.1 a _ hat
  refine W.aast hx hb hcell (fun q h => by cases h) (fun h => by cases h) k1 k2 rfl hkC ⟨h0, by show _ < (arrV _ _ _).slots.size; rw [arrV_size]; exact hlt⟩ g1 (fun q h => by rw [g3] at h; cases h) (by rw [g2]; exact hkC) (by rw [g2]; exact va_assign hcls) rfl rfl hd fun H1 e z oq => ?_
  refine kk H1 _ (hw.2.1.set wl_D hat ?_ oq) z (hS.put z oq (Nat.le_add_right _ _))
  show H1[base + a]? = some (vp_cell (dA tg) (n, .inr (.inr (.inr (.inr (fun j => ((va_up f i.toNatClampNeg (some v)) j).map (base + ·)))))))
  rw [e]
  rw [vp_cell_q, vp_cell_q, arrV_store]
  congr 2
  funext q
  by_cases hq : q = i.toNatClampNeg
  · subst hq
    simp [updV, va_up, va_rf]
  · simp [updV, va_up, hq]
theorem qlen {ci : Nat} {q : vw_C} (h : qcls[ci]? = some q) : (qYs.getD ci []).length = q.2.2 := by
  match ci, h with
  | 0, h => cases h; rfl
  | 1, h => cases h; rfl
  | 2, h => cases h; rfl
  | 3, h => cases h; rfl
  | 4, h => cases h; rfl
  | 5, h => cases h; rfl
  | 6, h => cases h; rfl
  | 7, h => cases h; rfl
  | 8, h => cases h; rfl
  | 9, h => cases h; rfl
  | 10, h => cases h; rfl
  | 11, h => cases h; rfl
  | i + 12, h => simp [qcls] at h
theorem lf_dv (ty : FieldType) : lf b base (defaultValue ty) = if ty = .float then .ref b else defaultValue ty := by
  cases ty <;> rfl
theorem qnof {ci : Nat} : ∀ ty ∈ qYs.getD ci [], ty ≠ .float := by
  match ci with
  | 0 => decide
  | 1 => decide
  | 2 => decide
  | 3 => decide
  | 4 => decide
  | 5 => decide
  | 6 => decide
  | 7 => decide
  | 8 => decide
  | 9 => decide
  | 10 => decide
  | 11 => decide
  | i + 12 => intro ty h; simp [qYs] at h
theorem eDf_lf {ci : Nat} : (eDf ci).map (lf b base) = eDf ci := by
  unfold eDf
  rw [List.map_map]
  refine List.map_congr_left fun ty hty => ?_
  show lf b base (defaultValue ty) = defaultValue ty
  rw [lf_dv, if_neg (qnof ty hty)]
theorem eDf_at {ci : Nat} {j : Nat} (h : j < (qYs.getD ci []).length) : defaultValue (qty ci j) = vp_V (eDf ci) j := by
  unfold qty vp_V eDf
  generalize qYs.getD ci [] = L at h ⊢
  rw [List.getD_eq_getElem?_getD, List.getD_eq_getElem?_getD, List.getElem?_map, List.getElem?_eq_getElem h]
  rfl
/-- one cell comes -/
theorem eGo.new {nL pc pc' sl : Nat} {ls : eL} {st st' : List Value} {h : eH} {x : va_E}
    (k : ∀ {H : Heap} {locs : List Loc} {cells slots : Nat} {arr : Array Slot} {Q : State → Prop}, lv_has arr nL (eEnt b base ls) → WH D dA b base h H → va_S (fun q => base ≤ q) s.heap H locs → cells + 1 ≤ R.cells → slots + sl ≤ R.slots → (∀ H' : Heap, va_at D qcls (base + h.2.1, lfE dA b base x) H' → H'.size = H.size + 1 → (∀ q, q < H.size → H'[q]? = H[q]?) → W p l e R s m args below meth c H' locs (cells + 1) (slots + sl) Q (F0 m pc' arr (st'.map (lf b base)))) → W p l e R s m args below meth c H locs cells slots Q (F0 m pc arr (st.map (lf b base)))) :
    eGo p l e R s m args below meth c D dA b base nL pc ls st h (pc', ls, st', (va_up h.1 h.2.1 x, h.2.1 + 1, h.2.2 + sl)) := by
  refine ⟨Nat.le_succ _, Nat.le_add_right _ _, rfl, fun {H locs cells slots arr Q} hl hw hS h1 h2 kk => ?_⟩
  dsimp only at h1 h2 kk
  rw [show h.2.1 + 1 - h.2.1 = 1 by omega] at h1 kk
  rw [show h.2.2 + sl - h.2.2 = sl by omega] at h2 kk
  refine k hl hw hS h1 h2 fun H' hat hz ho => ?_
  refine kk H' locs arr hl ⟨by rw [hz, hw.1]; rfl, ?_, fun i hi => ?_⟩ ⟨by rw [hz]; exact Nat.le_succ_of_le hS.1, fun q g1 g2 => (ho q (Nat.lt_of_lt_of_le g1 hS.1)).trans (hS.2.1 q g1 g2), hS.2.2⟩
  · rw [← wl_push (k := h.2.2 + sl)]
    refine (hw.2.1.kept fun j q hq => ho q.1 ((hw.2.1 j q hq).lt)).app fun j q hq => ?_
    have h0 : j < 1 := (List.getElem?_eq_some_iff.mp hq).1
    rw [show j = 0 by omega] at hq
    cases hq
    exact hat
  · dsimp only at hi ⊢
    rw [show va_up h.1 h.2.1 x i = h.1 i from if_neg (by omega)]
    exact hw.2.2 i (by omega)
theorem sd_new (C : eCx p s m args meth c D dA b base sc (qm k) Ts) (hM : eMOK qm l D dA b base k M) (hRf : R.frames = (qm k).2.2.2.2.2.2.2.1) (hRl : R.locals = (qm k).2.2.2.2.2.2.2.2) {pc len ra rb wi : Nat} {n : Nat} {ls : eL} {st : List Value} {h : eH} {q' : eS} (hd : decode (qm k).2.1 pc = .ok (.new n, len)) (hi : iB qm k (pc, .new n, len, ra, rb, wi) = true) (hs : estep sc M (pc, .new n, len, ra, rb, wi) ls st h = some (.inl q')) : eGo p l e R s m args below meth c D dA b base (qm k).2.2.1 pc ls st h q' := by
  obtain ⟨hx, hb, hml, hown, hts0, hT, hK, hbs, hin, hsc⟩ := C
  have hts : ∀ w ∈ gT, w.before args s = true := fun w h => hts0 w (hT w h)
  have hi : (Nat.beq len 3 && _) = true := hi
  rw [Bool.and_eq_true] at hi
  have hlen : len = 3 := nb hi.1
  subst hlen
  obtain ⟨hc12, hs⟩ := iv_bo hs
  cases hs
  obtain ⟨q, hq, hlk⟩ : ∃ q, qcls[ra]? = some q ∧ Cond.classLink (qm k).1.cls n q.1 ∈ gT := by
    have h2 := hi.2
    split at h2
    · next q hq => exact ⟨q, hq, wAt_ok h2⟩
    · cases h2
  obtain ⟨k1, k2, k3, k4, k5, k6⟩ := qcls_ok hq
  have hln := qlen hq
  have hlen : (eDf ra).length = q.2.2 := by unfold eDf; rw [List.length_map]; exact hln
  refine eGo.new fun {H locs cells slots arr Q} hl hw hS hcl hsl kk => ?_
  have hKn := hK.1.1 ra _ hq
  have hsl : slots + q.2.2 ≤ R.slots := by have := hsl; dsimp only at this; rw [hlen] at this; exact this
  refine W.newcK (n := q.2.2) hx hb hown (hts _ hlk) (hts _ k3) (hts _ k2) rfl hd hcl hsl hKn.2.1 hw.1 fun H1 kC hkC e1 z1 o1 => ?_
  have := kk H1 ⟨q, hq, (u_born (qty ra) hts k1 hKn hkC e1 k4).to (fun j hj => by rw [eDf_lf]; exact eDf_at (by rw [hln]; exact hj))⟩ (by rw [z1, hw.1]) (fun x hx => o1 x (by rw [← hw.1]; exact hx))
  dsimp only at this
  rw [hlen] at this
  exact this
theorem sd_newarray (C : eCx p s m args meth c D dA b base sc (qm k) Ts) (hM : eMOK qm l D dA b base k M) (hRf : R.frames = (qm k).2.2.2.2.2.2.2.1) (hRl : R.locals = (qm k).2.2.2.2.2.2.2.2) {pc len ra rb wi : Nat} {at9 : ArrayType} {ls : eL} {st : List Value} {h : eH} {q' : eS} (hd : decode (qm k).2.1 pc = .ok (.newarray at9, len)) (hi : iB qm k (pc, .newarray at9, len, ra, rb, wi) = true) (hs : estep sc M (pc, .newarray at9, len, ra, rb, wi) ls st h = some (.inl q')) : eGo p l e R s m args below meth c D dA b base (qm k).2.2.1 pc ls st h q' := by
  obtain ⟨hx, hb, hml, hown, hts0, hT, hK, hbs, hin, hsc⟩ := C
  have hts : ∀ w ∈ gT, w.before args s = true := fun w h => hts0 w (hT w h)
  have hi : (Nat.beq len 2 && _) = true := hi
  rw [Bool.and_eq_true] at hi
  have hlen : len = 2 := nb hi.1
  subst hlen
  have key : ∀ (tg : Nat) (ty : FieldType) (z : Nat → vp_A), newarray.typeOf at9 = ty → (tysL dA)[tg]? = some (dA tg, ty) → (∀ cA, va_RA s cA ty → s.vm.findClass ("[" ++ ty.toString) = some cA) → (∀ (n : Nat) (c9 : ClassId), vp_cell c9 (z n) = arrV c9 n (fun _ => defaultValue ty)) → (∀ n, lfE dA b base (.inl (tg, z n)) = .inl (dA tg, z n)) → componentBytes ty ≤ 8 →
      eNewA pc ls st h (fun x => (tg, x)) z 2 = some (Sum.inl q' : eS ⊕ eR) → eGo p l e R s m args below meth c D dA b base (qm k).2.2.1 pc ls st h q' := by
    intro tg ty z hty htg hra hz hlfE hcb hs
    obtain ⟨n, t, rfl, hs⟩ := iv_sI hs
    rcases bal hs with ⟨-, hs⟩ | ⟨hc, hs⟩
    · cases hs
    · cases hs
      have hn : ¬ n < 0 := fun q => hc (Or.inl q)
      have hn2 : n.toNatClampNeg ≤ 1000000 := Nat.not_lt.mp fun q => hc (Or.inr q)
      refine eGo.new fun {H locs cells slots arr Q} hl hw hS hcl hsl kk => ?_
      refine va_newaK hx hb (hts _ (wAt_ok hi.2)) rfl hd rfl hn rfl (by rw [hty]; exact Nat.le_trans (Nat.mul_le_mul hn2 hcb) (by decide)) hcl hsl hw.1 fun H1 cA e1 z1 o1 hAr hNm => ?_
      rw [hty] at hNm e1
      have hcA : cA = dA tg := Option.some.inj (hNm.symm.trans (hra _ (hK.1.2 tg _ htg).2))
      subst hcA
      refine kk H1 ?_ (by rw [z1, hw.1]) (fun x hx => o1 x (by rw [← hw.1]; exact hx))
      rw [hlfE]
      show H1[base + h.2.1]? = some (vp_cell (dA tg) (z n.toNatClampNeg))
      rw [hz]
      exact e1
  cases at9 with
  | int => exact key 0 .int (fun n => (n, .inl (fun _ => 0))) rfl rfl (fun _ h => h) (fun _ _ => rfl) (fun _ => rfl) (by decide) hs
  | long => exact key 1 .long (fun n => (n, .inr (.inl (fun _ => 0)))) rfl rfl (fun _ h => h) (fun _ _ => rfl) (fun _ => rfl) (by decide) hs
  | boolean => exact key 2 .boolean (fun n => (n, .inl (fun _ => 0))) rfl rfl (fun _ h => h) (fun _ _ => rfl) (fun _ => rfl) (by decide) hs
  | char => cases hs
  | float => cases hs
  | double => cases hs
  | byte => cases hs
  | short => cases hs
theorem sd_anewarray (C : eCx p s m args meth c D dA b base sc (qm k) Ts) (hM : eMOK qm l D dA b base k M) (hRf : R.frames = (qm k).2.2.2.2.2.2.2.1) (hRl : R.locals = (qm k).2.2.2.2.2.2.2.2) {pc len ra rb wi : Nat} {n9 : Nat} {ls : eL} {st : List Value} {h : eH} {q' : eS} (hd : decode (qm k).2.1 pc = .ok (.anewarray n9, len)) (hi : iB qm k (pc, .anewarray n9, len, ra, rb, wi) = true) (hs : estep sc M (pc, .anewarray n9, len, ra, rb, wi) ls st h = some (.inl q')) : eGo p l e R s m args below meth c D dA b base (qm k).2.2.1 pc ls st h q' := by
  obtain ⟨hx, hb, hml, hown, hts0, hT, hK, hbs, hin, hsc⟩ := C
  have hts : ∀ w ∈ gT, w.before args s = true := fun w h => hts0 w (hT w h)
  have hi : (Nat.beq len 3 && _) = true := hi
  rw [Bool.and_eq_true] at hi
  have hlen : len = 3 := nb hi.1
  subst hlen
  have key : ∀ C : String, (tysL dA)[ra]? = some (dA ra, .object C) → Cond.classLink (qm k).1.cls n9 C ∈ gT → FieldType.object C ∈ qOv → eGo p l e R s m args below meth c D dA b base (qm k).2.2.1 pc ls st h q' := by
    intro C htg hlk hov
    obtain ⟨n, t, rfl, hs⟩ := iv_sI hs
    rcases bal hs with ⟨-, hs⟩ | ⟨hc, hs⟩
    · cases hs
    · cases hs
      have hn : ¬ n < 0 := fun q => hc (Or.inl q)
      have hn2 : n.toNatClampNeg ≤ 1000000 := Nat.not_lt.mp fun q => hc (Or.inr q)
      refine eGo.new fun {H locs cells slots arr Q} hl hw hS hcl hsl kk => ?_
      refine W.anew hx hb hown (hts _ hlk) (hK.2.1 _ hov) rfl hd rfl hn (by omega) hcl hsl fun cA kA comp f1 f2 f3 f4 => ?_
      obtain ⟨-, -, -, -, -, g4⟩ := (hK.1.2 ra _ htg).2
      have hcA : cA = dA ra := Option.some.inj (f1.symm.trans g4)
      subst hcA
      have hsz := hw.1
      have := kk (H.push ({ cls := dA ra, slots := Array.replicate n.toNatClampNeg .null, vm := .none } : Cell)) (by
        show (H.push _)[base + h.2.1]? = some (vp_cell (dA ra) (n.toNatClampNeg, .inr (.inr (.inr (.inr (fun _ => none))))))
        rw [← hsz, Array.getElem?_push_size, vp_cell_q, arrV_new]
        rfl) (by rw [Array.size_push]) (fun q hq => by rw [Array.getElem?_push, if_neg (Nat.ne_of_lt hq)])
      rw [hsz]
      exact this
  have h2 := hi.2
  rw [Bool.or_eq_true, Bool.and_eq_true, Bool.and_eq_true] at h2
  rcases h2 with ⟨h2, h3⟩ | ⟨h2, h3⟩
  · have h2 := nb h2
    dsimp only at h2
    subst h2
    exact key _ rfl (wAt_ok h3) (by decide)
  · have h2 := nb h2
    dsimp only at h2
    subst h2
    exact key _ rfl (wAt_ok h3) (by decide)
theorem ou_eq (c9 : ClassId) (N h0 : Nat) : ∀ i : Nat, Jvm.Free.Multi.outerC c9 N h0 i = arrV c9 N (fun j => va_rf (if j < i then some (h0 + 1 + j) else none))
  | 0 => by
    show ({ cls := c9, slots := Array.replicate N .null, vm := .none } : Cell) = _
    rw [arrV_new]
    refine congrArg (arrV c9 N) (funext fun j => ?_)
    simp [va_rf]
  | i + 1 => by
    show (Jvm.Free.Multi.outerC c9 N h0 i).setSlot i (.ref (h0 + 1 + i)) = _
    rw [ou_eq c9 N h0 i, arrV_store]
    refine congrArg (arrV c9 N) (funext fun j => ?_)
    by_cases e1 : j = i
    · subst e1
      simp [updV, va_rf]
    · by_cases h1 : j < i
      · simp [updV, e1, h1, Nat.lt_succ_of_lt h1]
      · simp [updV, e1, h1, show ¬ j < i + 1 by omega]
theorem sd_mul (C : eCx p s m args meth c D dA b base sc (qm k) Ts) (hM : eMOK qm l D dA b base k M) (hRf : R.frames = (qm k).2.2.2.2.2.2.2.1) (hRl : R.locals = (qm k).2.2.2.2.2.2.2.2) {pc len ra rb wi : Nat} {n9 d9 : Nat} {ls : eL} {st : List Value} {h : eH} {q' : eS} (hd : decode (qm k).2.1 pc = .ok (.multianewarray n9 d9, len)) (hi : iB qm k (pc, .multianewarray n9 d9, len, ra, rb, wi) = true) (hs : estep sc M (pc, .multianewarray n9 d9, len, ra, rb, wi) ls st h = some (.inl q')) : eGo p l e R s m args below meth c D dA b base (qm k).2.2.1 pc ls st h q' := by
  obtain ⟨hx, hb, hml, hown, hts0, hT, hK, hbs, hin, hsc⟩ := C
  have hts : ∀ w ∈ gT, w.before args s = true := fun w h => hts0 w (hT w h)
  have hi : (Nat.beq len 4 && Nat.beq d9 2 && _) = true := hi
  rw [Bool.and_eq_true, Bool.and_eq_true] at hi
  have hlen : len = 4 := nb hi.1.1
  subst hlen
  have hd9 : d9 = 2 := nb hi.1.2
  subst hd9
  have key : ∀ (ty : FieldType) (z : Nat → vp_A), (tysL dA)[ra]? = some (dA ra, .array ty) → (tysL dA)[rb]? = some (dA rb, ty) → Cond.classLink (qm k).1.cls n9 ("[" ++ (FieldType.array ty).toString) ∈ gT → FieldType.array ty ∈ qOv → Cond.arrayClass ty ∈ gT → fits ty (defaultValue ty) = true → (defaultValue ty).isDefault = true → componentBytes ty ≤ 8 → s.vm.findClass ("[" ++ (FieldType.array ty).toString) = some (dA ra) → s.vm.findClass (FieldType.array ty).toString = some (dA rb) →
      (∀ (n : Nat) (c9 : ClassId), vp_cell c9 (z n) = arrV c9 n (fun _ => defaultValue ty)) → (∀ n, lfE dA b base (.inl (rb, z n)) = .inl (dA rb, z n)) → (∀ n : Nat, ((rb, n, (bif Nat.beq rb 0 then .inl (fun _ => 0) else .inr (.inl (fun _ => 0)))) : Nat × vp_A) = (rb, z n)) → eGo p l e R s m args below meth c D dA b base (qm k).2.2.1 pc ls st h q' := by
    intro ty z hta htb hlk hov hac hdf hdd hcb hna hnb hz hlfE hzz
    obtain ⟨n, j, t, rfl, hs⟩ := iv_sII hs
    rcases bal hs with ⟨-, hs⟩ | ⟨hc, hs⟩
    · cases hs
    · cases hs
      have hn : ¬ n < 0 := fun q => hc (Or.inl q)
      have hj : ¬ j < 0 := fun q => hc (Or.inr (Or.inl q))
      have hn2 : n.toNatClampNeg ≤ 1000 := Nat.not_lt.mp fun q => hc (Or.inr (Or.inr (Or.inl q)))
      have hj2 : j.toNatClampNeg ≤ 1000 := Nat.not_lt.mp fun q => hc (Or.inr (Or.inr (Or.inr q)))
      refine ⟨by dsimp only; omega, by dsimp only; omega, rfl, fun {H locs cells slots arr Q} hl hw hS h1 h2 kk => ?_⟩
      dsimp only at h1 h2 kk
      rw [show h.2.1 + 1 + n.toNatClampNeg - h.2.1 = 1 + n.toNatClampNeg by omega] at h1 kk
      rw [show h.2.2 + n.toNatClampNeg + n.toNatClampNeg * j.toNatClampNeg - h.2.2 = n.toNatClampNeg + n.toNatClampNeg * j.toNatClampNeg by omega] at h2 kk
      intro T hT X
      obtain ⟨vm₁, cA, comp, -, fA, fC, -, -, X', step⟩ := X.multianewarray2F hx hown (hts _ hlk) (hK.2.1 _ hov) (hts _ hac) (g := F0 m pc arr (.int j :: .int n :: t.map (lf b base))) rfl (by rw [hb]; exact hd) rfl hn hj (by omega) (Nat.le_trans (Nat.mul_le_mul hj2 hcb) (by decide)) (by omega) hdf hdd h1 h2
      have e1 : cA = dA ra := Option.some.inj (fA.symm.trans hna)
      have e2 : comp = dA rb := Option.some.inj (fC.symm.trans hnb)
      subst e1
      subst e2
      generalize hF : Jvm.Free.Multi.fill (T.setVm vm₁) (dA ra) (dA rb) n.toNatClampNeg j.toNatClampNeg (defaultValue ty) n.toNatClampNeg = F at X' step
      have hTh : (T.setVm vm₁).heap = H := hT
      obtain ⟨f1, f2, -, -⟩ := Jvm.Free.Multi.fill_facts (T.setVm vm₁) (dA ra) (dA rb) n.toNatClampNeg j.toNatClampNeg (defaultValue ty) n.toNatClampNeg
      rw [hF, hTh] at f1 f2
      have hold : ∀ x : Nat, x < H.size → F.heap[x]? = H[x]? := fun x hx => by
        have := Jvm.Free.Multi.fill_old (T.setVm vm₁) (dA ra) (dA rb) n.toNatClampNeg j.toNatClampNeg (defaultValue ty) (a := x) (by rw [hTh]; exact hx) n.toNatClampNeg
        rw [hF, hTh] at this
        exact this
      have hrow : ∀ i : Nat, i < n.toNatClampNeg → F.heap[H.size + 1 + i]? = some (vp_cell (dA rb) (z j.toNatClampNeg)) := fun i hi => by
        have := Jvm.Free.Multi.fill_inner (T.setVm vm₁) (dA ra) (dA rb) n.toNatClampNeg j.toNatClampNeg (defaultValue ty) n.toNatClampNeg i hi
        rw [hF, hTh] at this
        rw [this, hz]
        unfold Jvm.Free.Multi.innerC
        rw [arrV_new]
      have hsz := hw.1
      have hWH := fun (HH : WH D dA b base _ F.heap) => kk F.heap locs arr hl HH ⟨by rw [f1]; have := hS.1; omega, fun q g1 g2 => (hold q (Nat.lt_of_lt_of_le g1 hS.1)).trans (hS.2.1 q g1 g2), hS.2.2⟩ F rfl (by rw [← Nat.add_assoc, ← Nat.add_assoc]; exact X')
      obtain ⟨t2, a1, b1⟩ := hWH (by
        refine ⟨by dsimp only; rw [f1, hsz]; omega, fun i q hq => ?_, fun i hi => ?_⟩
        · have hi : i < h.2.1 + 1 + n.toNatClampNeg := by
            have := (List.getElem?_eq_some_iff.mp hq).1
            rw [wl_len] at this
            exact this
          rw [wl_at (by exact hi)] at hq
          cases hq
          dsimp only
          by_cases hi1 : i = h.2.1
          · subst hi1
            rw [if_pos rfl]
            show F.heap[base + h.2.1]? = some (vp_cell (dA ra) (n.toNatClampNeg, .inr (.inr (.inr (.inr (fun i => (if i < n.toNatClampNeg then some (h.2.1 + 1 + i) else none).map (base + ·)))))))
            rw [← hsz, f2, ou_eq, vp_cell_q]
            refine congrArg (fun f => some (arrV (dA ra) n.toNatClampNeg f)) (funext fun i => ?_)
            by_cases hin9 : i < n.toNatClampNeg
            · rw [if_pos hin9, if_pos hin9, hsz]
              show va_rf (some (base + h.2.1 + 1 + i)) = va_rf (some (base + (h.2.1 + 1 + i)))
              rw [show base + h.2.1 + 1 + i = base + (h.2.1 + 1 + i) by omega]
            · rw [if_neg hin9, if_neg hin9]
              rfl
          · rw [if_neg hi1]
            by_cases hi2 : h.2.1 < i ∧ i < h.2.1 + 1 + n.toNatClampNeg
            · rw [if_pos hi2, hzz, hlfE]
              show F.heap[base + i]? = some (vp_cell (dA rb) (z j.toNatClampNeg))
              have := hrow (i - (h.2.1 + 1)) (by omega)
              rw [hsz, show base + h.2.1 + 1 + (i - (h.2.1 + 1)) = base + i by omega] at this
              exact this
            · rw [if_neg hi2]
              have hi3 : i < h.2.1 := by omega
              exact (hw.2.1 i _ (wl_at hi3)).kept (hold _ (by rw [hsz]; show base + i < _; omega))
        · dsimp only at hi ⊢
          rw [if_neg (by omega), if_neg (by omega)]
          exact hw.2.2 i (by omega))
      refine ⟨t2, step t2 ?_, b1⟩
      rw [hT, hsz]
      exact a1
  have h2 := hi.2
  rw [Bool.or_eq_true, Bool.and_eq_true, Bool.and_eq_true, Bool.and_eq_true, Bool.and_eq_true] at h2
  rcases h2 with ⟨⟨h2, h3⟩, h4⟩ | ⟨⟨h2, h3⟩, h4⟩
  · have e2 : ra = 5 := nb h2
    have e3 : rb = 0 := nb h3
    subst e2
    subst e3
    exact key .int (fun n => (n, .inl (fun _ => 0))) rfl rfl (wAt_ok h4) (by decide) qArrW.1 (by decide) (by decide) (by decide) (hK.1.2 5 _ rfl).2 (hK.1.2 0 _ rfl).2 (fun _ _ => rfl) (fun _ => rfl) (fun _ => rfl)
  · have e2 : ra = 6 := nb h2
    have e3 : rb = 1 := nb h3
    subst e2
    subst e3
    exact key .long (fun n => (n, .inr (.inl (fun _ => 0)))) rfl rfl (wAt_ok h4) (by decide) qArrW.2.1 (by decide) (by decide) (by decide) (hK.1.2 6 _ rfl).2 (hK.1.2 1 _ rfl).2 (fun _ _ => rfl) (fun _ => rfl) (fun _ => rfl)
theorem take_len {st t : List Value} {n : Nat} {v : Value} (h : st.drop n = v :: t) : (st.take n).length = n ∧ st = st.take n ++ v :: t := by
  have h1 : (st.drop n).length = t.length + 1 := by rw [h]; rfl
  rw [List.length_drop] at h1
  refine ⟨by rw [List.length_take]; omega, ?_⟩
  rw [← h, List.take_append_drop]
theorem iv_eInv {M : eM} {j : Nat} {as t : List Value} {h : eH} {f : List Value → eH → eO} {z : eS ⊕ eR} (hs : eInv M j as t h f = some z) : ∃ x : eR, M j as h = some x ∧ eSum t ≤ 8 ∧ f (x.1.toList ++ t) x.2 = some z := by
  obtain ⟨h1, h2⟩ := iv_bo hs
  cases hm : M j as h with
  | none => rw [hm] at h2; cases h2
  | some x =>
    rw [hm] at h2
    exact ⟨x, rfl, Nat.le_of_ble_eq_true h1, h2⟩
theorem st_split {st t : List Value} {n : Nat} {v : Value} (h : st.drop n = v :: t) : st.map (lf b base) = (((st.take n).reverse).map (lf b base)).reverse ++ lf b base v :: t.map (lf b base) := by
  rw [List.map_reverse, List.reverse_reverse, ← List.map_cons (f := lf b base), ← List.map_append, ← (take_len h).2]
theorem sd_virt (C : eCx p s m args meth c D dA b base sc (qm k) Ts) (hM : eMOK qm l D dA b base k M) (hRf : R.frames = (qm k).2.2.2.2.2.2.2.1) (hRl : R.locals = (qm k).2.2.2.2.2.2.2.2) {pc len ra rb wi : Nat} {n9 : Nat} {ls : eL} {st : List Value} {h : eH} {q' : eS} (hd : decode (qm k).2.1 pc = .ok (.invokevirtual n9, len)) (hi : iB qm k (pc, .invokevirtual n9, len, ra, rb, wi) = true) (hs : estep sc M (pc, .invokevirtual n9, len, ra, rb, wi) ls st h = some (.inl q')) : eGo p l e R s m args below meth c D dA b base (qm k).2.2.1 pc ls st h q' := by
  obtain ⟨hx, hb, hml, hown, hts0, hT, hK, hbs, hin, hsc⟩ := C
  have hts : ∀ w ∈ gT, w.before args s = true := fun w h => hts0 w (hT w h)
  have hi : (Nat.beq len 3 && cB qm k (pc, .invokevirtual n9, len, ra, rb, wi) && !(qm ra).2.2.2.2.1 && (qm ra).1.name != "<init>" && wAt wi (.methodLink (qm k).1.cls n9 (qm ra).1)) = true := hi
  simp only [Bool.and_eq_true, Bool.not_eq_true', bne_iff_ne, ne_eq] at hi
  obtain ⟨⟨⟨⟨hi1, hcB⟩, hst⟩, hnm⟩, hlk⟩ := hi
  have hlen : len = 3 := nb hi1
  subst hlen
  have hlk := wAt_ok hlk
  obtain ⟨a, t, hdr, hs⟩ := iv_sR hs
  dsimp only at hdr
  obtain ⟨x, hMx, hsum, hs⟩ := iv_eInv hs
  dsimp only at hMx
  cases hs
  obtain ⟨c1, c3, c4, c5⟩ := cB_ok hcB
  dsimp only at c1 c3 c4 c5
  obtain ⟨c2, g1, g2, g3, g4⟩ := hM ra _ h x c1 hMx
  obtain ⟨fs, hfs⟩ := g4 hst a _ rfl
  obtain ⟨qc, hqc, hqn⟩ := c2.2.2.2.2.2.2.2 hst
  refine ⟨g2, g3, rfl, fun {H locs cells slots arr Q} hl hw hS h1 h2 kk => ?_⟩
  have hlt' : a < h.2.1 := hw.lt rfl (by
    rw [hfs]
    intro z
    unfold qbad at z
    have z := Sum.inr.inj z
    have z1 : (qm ra).2.2.2.2.2.2.1 = 99 := congrArg Prod.fst z
    rw [z1] at hqc
    simp [qcls] at hqc)
  have hat := wl_at (dA := dA) (b := b) (base := base) hlt'
  rw [hfs] at hat
  have hrec := va_recv hK.1 hw.2.1 hqc hat
  rw [hqn] at hrec
  rw [st_split (b := b) (base := base) hdr]
  have hlen9 : (((st.take rb).reverse).map (lf b base)).length = rb := by rw [List.length_map, List.length_reverse]; exact (take_len hdr).1
  refine e_call (x := x) (h := h) (t := t) (a := (Value.ref (base + a) :: ((st.take rb).reverse).map (lf b base)).toArray) (va_runV (C := (qm ra).1.cls) ⟨hx, hb, hml, hown, hts0⟩ g1 ⟨callB_of (ws' := gT) rb hts0 (goodG hT c2) rfl rfl rfl (hts _ c2.2.2.2.2.2.1) (hts _ hlk) ⟨c2.2.2.2.2.2.2.1.1, c2.2.2.2.2.2.2.1.2, c5⟩ ⟨by rw [hRf]; exact c3, by rw [hRl]; exact c4⟩, hts _ (c2.2.2.2.1 hst), hts _ (c2.2.2.2.2.1 hst hnm)⟩ ⟨ePc_blind, hrec, fun U hU hW => ⟨rfl, by rw [hU]; exact hw, KK.warm hW hK⟩⟩ rfl hlen9 hl.1 rfl (lv_room (by rw [eSum_map]; exact hsum)) hd ⟨h1, h2⟩) hS (fun H' locs' hw' hS' => kk H' locs' arr hl hw' hS')
theorem sd_special (C : eCx p s m args meth c D dA b base sc (qm k) Ts) (hM : eMOK qm l D dA b base k M) (hRf : R.frames = (qm k).2.2.2.2.2.2.2.1) (hRl : R.locals = (qm k).2.2.2.2.2.2.2.2) {pc len ra rb wi : Nat} {n9 : Nat} {ls : eL} {st : List Value} {h : eH} {q' : eS} (hd : decode (qm k).2.1 pc = .ok (.invokespecial n9, len)) (hi : iB qm k (pc, .invokespecial n9, len, ra, rb, wi) = true) (hs : estep sc M (pc, .invokespecial n9, len, ra, rb, wi) ls st h = some (.inl q')) : eGo p l e R s m args below meth c D dA b base (qm k).2.2.1 pc ls st h q' := by
  obtain ⟨hx, hb, hml, hown, hts0, hT, hK, hbs, hin, hsc⟩ := C
  have hts : ∀ w ∈ gT, w.before args s = true := fun w h => hts0 w (hT w h)
  have hi : (Nat.beq len 3 && (bif Nat.beq ra 9999 then wAt wi (.methodLink (qm k).1.cls n9 objectInit) && Nat.ble 1 (qm k).2.2.2.2.2.2.2.1 && Nat.ble 20 (qm k).2.2.2.2.2.2.2.2 else
      (cB qm k (pc, .invokespecial n9, len, ra, rb, wi) && !(qm ra).2.2.2.2.1 && (qm ra).1.name == "<init>" && (qm ra).2.2.2.1 == none && (wAt wi (.methodLink (qm k).1.cls n9 (qm ra).1) || decide (((qm k).1.cls, n9, (qm ra).1) ∈ qNe))))) = true := hi
  rw [Bool.and_eq_true] at hi
  obtain ⟨hi1, hi⟩ := hi
  have hlen : len = 3 := nb hi1
  subst hlen
  have hs : (bif Nat.beq ra 9999 then sR st (fun _ t => bo (Nat.ble (eSum t) 8) (some (.inl (pc + 3, ls, t, h)))) else eVirt M (pc, .invokespecial n9, 3, ra, rb, wi) ls st h) = some (Sum.inl q' : eS ⊕ eR) := hs
  cases h99 : Nat.beq ra 9999 with
  | true =>
    rw [h99] at hi hs
    simp only [cond_true, Bool.and_eq_true] at hi hs
    obtain ⟨⟨hlk, hf⟩, hlo⟩ := hi
    obtain ⟨a, t, rfl, hs⟩ := iv_sR hs
    obtain ⟨hsum, hs⟩ := iv_bo hs
    cases hs
    have hsum : eSum t ≤ 8 := Nat.le_of_ble_eq_true hsum
    have hf := Nat.le_of_ble_eq_true hf
    have hlo := Nat.le_of_ble_eq_true hlo
    exact eGo.pure1 fun hl hw hS kk => W.objInit hx hb hown (hts _ (wAt_ok hlk)) (hts _ qObjI.1) (hts _ qObjI.2) rfl (by rw [hml]; exact hl.1) rfl hd (by rw [hRf]; exact hf) (by rw [hRl, eSum_map]; show 2 * 0 + _ + 12 ≤ _; omega) kk
  | false =>
  rw [h99] at hi hs
  simp only [cond_false, Bool.and_eq_true, Bool.not_eq_true', beq_iff_eq, Bool.or_eq_true, decide_eq_true_eq] at hi hs
  obtain ⟨⟨⟨⟨hcB, hst⟩, hnm⟩, hrt⟩, hlk⟩ := hi
  obtain ⟨a, t, hdr, hs⟩ := iv_sR hs
  dsimp only at hdr
  obtain ⟨x, hMx, hsum, hs⟩ := iv_eInv hs
  dsimp only at hMx
  cases hs
  obtain ⟨c1, c3, c4, c5⟩ := cB_ok hcB
  dsimp only at c1 c3 c4 c5
  obtain ⟨c2, g1, g2, g3, g4⟩ := hM ra _ h x c1 hMx
  obtain ⟨fs, hfs⟩ := g4 hst a _ rfl
  obtain ⟨qc, hqc, hqn⟩ := c2.2.2.2.2.2.2.2 hst
  refine ⟨g2, g3, rfl, fun {H locs cells slots arr Q} hl hw hS h1 h2 kk => ?_⟩
  have hlt' : a < h.2.1 := hw.lt rfl (by
    rw [hfs]
    intro z
    unfold qbad at z
    have z := Sum.inr.inj z
    have z1 : (qm ra).2.2.2.2.2.2.1 = 99 := congrArg Prod.fst z
    rw [z1] at hqc
    simp [qcls] at hqc)
  have hat := wl_at (dA := dA) (b := b) (base := base) hlt'
  rw [hfs] at hat
  have hrec := va_recv hK.1 hw.2.1 hqc hat
  rw [hqn] at hrec
  rw [st_split (b := b) (base := base) hdr]
  have hlen9 : (((st.take rb).reverse).map (lf b base)).length = rb := by rw [List.length_map, List.length_reverse]; exact (take_len hdr).1
  refine e_call (x := x) (h := h) (t := t) (a := (Value.ref (base + a) :: ((st.take rb).reverse).map (lf b base)).toArray) (by
    have g1 := g1
    unfold eMet at g1
    rw [hrt] at g1
    have c22 := c2.2.1
    rw [hrt] at c22
    have hGd : GoodIn Ts (Cond.code (qm ra).1 (qm ra).2.1 (qm ra).2.2.1 none :: gT) := by
      have := goodG hT c2
      rw [hrt] at this
      exact this
    rcases hlk with hlk | hlk
    · have hlk := wAt_ok hlk
      exact va_runI ⟨hx, hb, hml, hown, hts0⟩ g1 ⟨callB_of (ws' := gT) rb hts0 hGd rfl rfl rfl (hts _ c2.2.2.2.2.2.1) (hts _ hlk) ⟨c2.2.2.2.2.2.2.1.1, c2.2.2.2.2.2.2.1.2, c5⟩ ⟨by rw [hRf]; exact c3, by rw [hRl]; exact c4⟩, hnm, hts _ (c2.2.2.2.1 hst)⟩ ⟨ePc_blind, fun U hU hW => ⟨rfl, by rw [hU]; exact hw, KK.warm hW hK⟩⟩ rfl hlen9 hl.1 rfl (lv_room (by rw [eSum_map]; exact hsum)) hd ⟨h1, h2⟩
    · exact va_runIN (host := "TensionNet") ⟨hx, hb, hml, hown, hts0⟩ g1 ⟨va_cnB (ws' := gT) rb hts0 hGd rfl rfl rfl (hK.2.2 _ hlk) (hts _ c2.2.2.2.2.2.1) ⟨c2.2.2.2.2.2.2.1.1, c2.2.2.2.2.2.2.1.2, c5⟩ ⟨by rw [hRf]; exact c3, by rw [hRl]; exact c4⟩, hnm, hts _ (c2.2.2.2.1 hst)⟩ ⟨ePc_blind, fun U hU hW => ⟨rfl, by rw [hU]; exact hw, KK.warm hW hK⟩⟩ rfl hlen9 hl.1 rfl (lv_room (by rw [eSum_map]; exact hsum)) hd ⟨h1, h2⟩) hS (fun H' locs' hw' hS' => kk H' locs' arr hl hw' hS')
theorem st_split0 {st : List Value} {n : Nat} : st.map (lf b base) = (((st.take n).reverse).map (lf b base)).reverse ++ (st.drop n).map (lf b base) := by
  rw [List.map_reverse, List.reverse_reverse, ← List.map_append, List.take_append_drop]
theorem clampN {z : Int32} (hz : ¬ z < 0) : z.toInt = (z.toNatClampNeg : Int) := by
  have hz0 : (0 : Int) ≤ z.toInt := by
    have := Int32.not_lt.mp hz
    simpa using Int32.le_iff_toInt_le.mp this
  show z.toInt = ((z.toInt.toNat : Nat) : Int)
  omega
theorem sd_stat (C : eCx p s m args meth c D dA b base sc (qm k) Ts) (hM : eMOK qm l D dA b base k M) (hRf : R.frames = (qm k).2.2.2.2.2.2.2.1) (hRl : R.locals = (qm k).2.2.2.2.2.2.2.2) {pc len ra rb wi : Nat} {n9 : Nat} {ls : eL} {st : List Value} {h : eH} {q' : eS} (hd : decode (qm k).2.1 pc = .ok (.invokestatic n9, len)) (hi : iB qm k (pc, .invokestatic n9, len, ra, rb, wi) = true) (hs : estep sc M (pc, .invokestatic n9, len, ra, rb, wi) ls st h = some (.inl q')) : eGo p l e R s m args below meth c D dA b base (qm k).2.2.1 pc ls st h q' := by
  obtain ⟨hx, hb, hml, hown, hts0, hT, hK, hbs, hin, hsc⟩ := C
  have hts : ∀ w ∈ gT, w.before args s = true := fun w h => hts0 w (hT w h)
  have hi : (Nat.beq len 3 && (bif Nat.beq ra 9998 then wAt wi (.methodLink (qm k).1.cls n9 arraycopyName) && Nat.ble 1 (qm k).2.2.2.2.2.2.2.1 && Nat.ble 40 (qm k).2.2.2.2.2.2.2.2 else
      (cB qm k (pc, .invokestatic n9, len, ra, rb, wi) && (qm ra).2.2.2.2.1 && wAt wi (.methodLink (qm k).1.cls n9 (qm ra).1)))) = true := hi
  rw [Bool.and_eq_true] at hi
  obtain ⟨hi1, hi⟩ := hi
  have hlen : len = 3 := nb hi1
  subst hlen
  have hs : (bif Nat.beq ra 9998 then eCpy pc ls st h else eStat M (pc, .invokestatic n9, 3, ra, rb, wi) ls st h) = some (Sum.inl q' : eS ⊕ eR) := hs
  cases h99 : Nat.beq ra 9998 with
  | true =>
    rw [h99] at hi hs
    simp only [cond_true, Bool.and_eq_true] at hi hs
    obtain ⟨⟨hlk, hf⟩, hlo⟩ := hi
    obtain ⟨a0, sp, a1, dp, n, t, rfl, hs⟩ := iv_sCpy hs
    obtain ⟨n0, f, ha0, hs⟩ := iv_hI hs
    obtain ⟨n1, g, ha1, hs⟩ := iv_hI hs
    obtain ⟨hsum, hs⟩ := iv_bo hs
    rcases bal hs with ⟨-, hs⟩ | ⟨hc, hs⟩
    · cases hs
    cases hs
    have hsum : eSum t ≤ 8 := Nat.le_of_ble_eq_true hsum
    have hf := Nat.le_of_ble_eq_true hf
    have hlo := Nat.le_of_ble_eq_true hlo
    have c1 : ¬ sp < 0 := fun q => hc (Or.inl q)
    have c2 : ¬ dp < 0 := fun q => hc (Or.inr (Or.inl q))
    have c3 : ¬ n < 0 := fun q => hc (Or.inr (Or.inr (Or.inl q)))
    have c4 : sp.toNatClampNeg + n.toNatClampNeg ≤ n0 := Nat.not_lt.mp fun q => hc (Or.inr (Or.inr (Or.inr (Or.inl q))))
    have c5 : dp.toNatClampNeg + n.toNatClampNeg ≤ n1 := Nat.not_lt.mp fun q => hc (Or.inr (Or.inr (Or.inr (Or.inr q))))
    refine eGo.put (by rw [ha1]; intro z; cases z) fun {H locs cells slots arr Q} hl hw hlt1 hS kk => ?_
    have hlt0 : a0 < h.2.1 := hw.lt ha0 (by intro z; cases z)
    have hat0 := wl_at (dA := dA) (b := b) (base := base) hlt0
    rw [ha0] at hat0
    have hat1 := wl_at (dA := dA) (b := b) (base := base) hlt1
    rw [ha1] at hat1
    intro T hT X
    have hc0 : H[base + a0]? = some (vp_cell (dA 0) (n0, .inl f)) := hw.2.1 a0 _ hat0
    have hc1 : H[base + a1]? = some (vp_cell (dA 0) (n1, .inl g)) := hw.2.1 a1 _ hat1
    obtain ⟨-, k0, hk0, cm0, hkk0⟩ := (hK.1.2 0 _ rfl).1 n0 (fun j => .int (f j))
    obtain ⟨-, k1, hk1, cm1, hkk1⟩ := (hK.1.2 0 _ rfl).1 n1 (fun j => .int (g j))
    have e7 : nativeFrameWords "java/lang/System" "arraycopy" 5 = 7 := by decide
    obtain ⟨vm', X', step⟩ := X.arraycopy hx hown (hts _ (wAt_ok hlk)) (hts _ qCpyW.1) (hts _ qCpyW.2.1) (hts _ qCpyW.2.2) (src := base + a0) (dst := base + a1) (cs := vp_cell (dA 0) (n0, .inl f)) (cd := vp_cell (dA 0) (n1, .inl g)) (srcPos := sp) (destPos := dp) (n := n) (by rw [hT]; exact hc0) (by rw [hT]; exact hc1)
      (fun _ h => by cases h) (fun _ h => by cases h) (fun h => by cases h) (fun h => by cases h) hk0 hk1 hkk0 hkk1 rfl c1 c2 c3
      (by rw [clampN c1, clampN c3]; show ¬ _ > ((arrV (dA 0) n0 (fun j => .int (f j))).slots.size : Int); rw [arrV_size]; omega)
      (by rw [clampN c2, clampN c3]; show ¬ _ > ((arrV (dA 0) n1 (fun j => .int (g j))).slots.size : Int); rw [arrV_size]; omega)
      (fun vm₁ _ i hi => by
        have e9 : (vp_cell (dA 0) (n0, .inl f)).slots.getD (sp.toNatClampNeg + i) .null = .int (f (sp.toNatClampNeg + i)) := by
          show (arrV (dA 0) n0 (fun j => .int (f j))).slots.getD _ _ = _
          rw [Array.getD_eq_getD_getElem?, arrV_read _ _ (by omega)]
          rfl
        refine ⟨?_, ?_⟩
        · rw [e9]
          rfl
        · rw [e9]
          exact trivial)
      (g := F0 m pc arr (.int n :: .int dp :: .ref (base + a1) :: .int sp :: .ref (base + a0) :: t.map (lf b base))) rfl (by rw [hml]; exact hl.1) (rest := t.map (lf b base)) rfl (by rw [hb]; exact hd) (by rw [hRf]; exact hf) (by rw [hRl, eSum_map]; show 2 * 0 + _ + _ ≤ _; rw [e7]; omega)
    have e1 : copied (vp_cell (dA 0) (n0, .inl f)) (vp_cell (dA 0) (n1, .inl g)) sp dp n = vp_cell (dA 0) (n1, .inl (va_cpy f g sp.toNatClampNeg dp.toNatClampNeg n.toNatClampNeg)) := va_copied (fun z => .int z) (dA 0) (dA 0) f g c4
    rw [e1] at X' step
    have hl9 : base + a1 < H.size := (Array.getElem?_eq_some_iff.mp hc1).1
    generalize hcell : vp_cell (dA 0) (n1, .inl (va_cpy f g sp.toNatClampNeg dp.toNatClampNeg n.toNatClampNeg)) = nc at X' step
    have hheap : ((T.setVm vm').setCell (base + a1) nc).heap = H.setIfInBounds (base + a1) nc := by rw [← hT]; rfl
    have oq : ∀ q : Nat, q ≠ base + a1 → (H.setIfInBounds (base + a1) nc)[q]? = H[q]? := fun q hq => by simp [Array.getElem?_setIfInBounds, Ne.symm hq]
    obtain ⟨t9, b1, b2⟩ := kk _ _ (hw.2.1.set wl_D hat1 (show (H.setIfInBounds (base + a1) nc)[base + a1]? = some (vp_cell (dA 0) (n1, .inl (va_cpy f g sp.toNatClampNeg dp.toNatClampNeg n.toNatClampNeg))) by rw [hcell]; simp [Array.getElem?_setIfInBounds, hl9]) oq) (by simp) ⟨by simp; exact hS.1, fun q g1 g2 => by
        rw [oq q (fun e => g2 (by rw [e]; exact Nat.le_add_right _ _))]
        exact hS.2.1 q g1 g2, fun q hq => by
        rcases List.mem_append.mp hq with h | h
        · exact hS.2.2 q h
        · obtain ⟨z, -, hz⟩ := List.mem_map.mp h
          rw [← hz]
          exact Nat.le_add_right _ _⟩ _ hheap X'
    exact ⟨t9, step t9 b1, b2⟩
  | false =>
  rw [h99] at hi hs
  simp only [cond_false, Bool.and_eq_true] at hi hs
  obtain ⟨⟨hcB, hst⟩, hlk⟩ := hi
  have hlk := wAt_ok hlk
  obtain ⟨hle, hs⟩ := iv_bo hs
  have hle : rb ≤ st.length := Nat.le_of_ble_eq_true hle
  obtain ⟨x, hMx, hsum, hs⟩ := iv_eInv hs
  dsimp only at hMx hsum
  cases hs
  obtain ⟨c1, c3, c4, c5⟩ := cB_ok hcB
  dsimp only at c1 c3 c4 c5
  obtain ⟨c2, g1, g2, g3, g4⟩ := hM ra _ h x c1 hMx
  refine ⟨g2, g3, rfl, fun {H locs cells slots arr Q} hl hw hS h1 h2 kk => ?_⟩
  rw [st_split0 (b := b) (base := base) (n := rb)]
  have hlen9 : (((st.take rb).reverse).map (lf b base)).length = rb := by rw [List.length_map, List.length_reverse, List.length_take]; omega
  refine e_call (x := x) (h := h) (t := st.drop rb) (a := (((st.take rb).reverse).map (lf b base)).toArray) (va_runS ⟨hx, hb, hml, hown, hts0⟩ g1 ⟨callB_of (ws' := gT) rb hts0 (goodG hT c2) rfl rfl rfl (hts _ c2.2.2.2.2.2.1) (hts _ hlk) ⟨c2.2.2.2.2.2.2.1.1, c2.2.2.2.2.2.2.1.2, c5⟩ ⟨by rw [hRf]; exact c3, by rw [hRl]; exact c4⟩, hts _ (c2.2.2.1 hst)⟩ ⟨ePc_blind, fun U hU hW => ⟨rfl, by rw [hU]; exact hw, KK.warm hW hK⟩⟩ rfl hlen9 hl.1 rfl (lv_room (by rw [eSum_map]; exact hsum)) hd ⟨h1, h2⟩) hS (fun H' locs' hw' hS' => kk H' locs' arr hl hw' hS')
theorem estep_sound (C : eCx p s m args meth c D dA b base sc (qm k) Ts) (hM : eMOK qm l D dA b base k M) (hRf : R.frames = (qm k).2.2.2.2.2.2.2.1) (hRl : R.locals = (qm k).2.2.2.2.2.2.2.2) {r : eRow} (hr : rB qm k r = true) {ls : eL} {st : List Value} {h : eH} {q' : eS} (hs : estep sc M r ls st h = some (.inl q')) : eGo p l e R s m args below meth c D dA b base (qm k).2.2.1 r.1 ls st h q' := by
  simp only [rB, Bool.and_eq_true, decide_eq_true_eq] at hr
  obtain ⟨hd, hi⟩ := hr
  obtain ⟨pc, ins, len, ra, rb, wi⟩ := r
  dsimp only at hd ⊢
  cases ins with
  | aload_n n => exact sd_aload_n C hM hRf hRl hd hi hs
  | aload n => exact sd_aload C hM hRf hRl hd hi hs
  | iload_n n => exact sd_iload_n C hM hRf hRl hd hi hs
  | iload n => exact sd_iload C hM hRf hRl hd hi hs
  | lload_n n => exact sd_lload_n C hM hRf hRl hd hi hs
  | lload n => exact sd_lload C hM hRf hRl hd hi hs
  | istore_n n => exact sd_istore_n C hM hRf hRl hd hi hs
  | istore n => exact sd_istore C hM hRf hRl hd hi hs
  | astore_n n => exact sd_astore_n C hM hRf hRl hd hi hs
  | astore n => exact sd_astore C hM hRf hRl hd hi hs
  | lstore_n n => exact sd_lstore_n C hM hRf hRl hd hi hs
  | lstore n => exact sd_lstore C hM hRf hRl hd hi hs
  | iinc i n => exact sd_iinc C hM hRf hRl hd hi hs
  | iconst n => exact sd_iconst C hM hRf hRl hd hi hs
  | bipush n => exact sd_bipush C hM hRf hRl hd hi hs
  | sipush n => exact sd_sipush C hM hRf hRl hd hi hs
  | lconst n => exact sd_lconst C hM hRf hRl hd hi hs
  | ldc n => exact sd_ldc C hM hRf hRl hd hi hs
  | ldc2_w n => exact sd_ldc2_w C hM hRf hRl hd hi hs
  | iadd  => exact sd_iadd C hM hRf hRl hd hi hs
  | isub  => exact sd_isub C hM hRf hRl hd hi hs
  | imul  => exact sd_imul C hM hRf hRl hd hi hs
  | iand  => exact sd_iand C hM hRf hRl hd hi hs
  | ior  => exact sd_ior C hM hRf hRl hd hi hs
  | ishr  => exact sd_ishr C hM hRf hRl hd hi hs
  | iushr  => exact sd_iushr C hM hRf hRl hd hi hs
  | ladd  => exact sd_ladd C hM hRf hRl hd hi hs
  | lsub  => exact sd_lsub C hM hRf hRl hd hi hs
  | lmul  => exact sd_lmul C hM hRf hRl hd hi hs
  | land  => exact sd_land C hM hRf hRl hd hi hs
  | lor  => exact sd_lor C hM hRf hRl hd hi hs
  | lxor  => exact sd_lxor C hM hRf hRl hd hi hs
  | lcmp  => exact sd_lcmp C hM hRf hRl hd hi hs
  | idiv  => exact sd_idiv C hM hRf hRl hd hi hs
  | irem  => exact sd_irem C hM hRf hRl hd hi hs
  | ldiv  => exact sd_ldiv C hM hRf hRl hd hi hs
  | lrem  => exact sd_lrem C hM hRf hRl hd hi hs
  | ineg  => exact sd_ineg C hM hRf hRl hd hi hs
  | lneg  => exact sd_lneg C hM hRf hRl hd hi hs
  | i2l  => exact sd_i2l C hM hRf hRl hd hi hs
  | l2i  => exact sd_l2i C hM hRf hRl hd hi hs
  | i2b  => exact sd_i2b C hM hRf hRl hd hi hs
  | i2s  => exact sd_i2s C hM hRf hRl hd hi hs
  | lshl  => exact sd_lshl C hM hRf hRl hd hi hs
  | dup  => exact sd_dup C hM hRf hRl hd hi hs
  | pop  => exact sd_pop C hM hRf hRl hd hi hs
  | dup2  => exact sd_dup2 C hM hRf hRl hd hi hs
  | goto o => exact sd_goto C hM hRf hRl hd hi hs
  | ifCond cd o => exact sd_ifCond C hM hRf hRl hd hi hs
  | if_icmp cd o => exact sd_if_icmp C hM hRf hRl hd hi hs
  | tableswitch a9 b9 c9 d9 => exact sd_tableswitch C hM hRf hRl hd hi hs
  | getfield n => exact sd_getfield C hM hRf hRl hd hi hs
  | putfield n => exact sd_putfield C hM hRf hRl hd hi hs
  | baload  => exact sd_baload C hM hRf hRl hd hi hs
  | laload  => exact sd_laload C hM hRf hRl hd hi hs
  | iaload  => exact sd_iaload C hM hRf hRl hd hi hs
  | arraylength  => exact sd_arraylength C hM hRf hRl hd hi hs
  | aaload  => exact sd_aaload C hM hRf hRl hd hi hs
  | iastore  => exact sd_iastore C hM hRf hRl hd hi hs
  | lastore  => exact sd_lastore C hM hRf hRl hd hi hs
  | bastore  => exact sd_bastore C hM hRf hRl hd hi hs
  | aastore  => exact sd_aastore C hM hRf hRl hd hi hs
  | new n => exact sd_new C hM hRf hRl hd hi hs
  | newarray n => exact sd_newarray C hM hRf hRl hd hi hs
  | anewarray n => exact sd_anewarray C hM hRf hRl hd hi hs
  | multianewarray n d9 => exact sd_mul C hM hRf hRl hd hi hs
  | invokevirtual n => exact sd_virt C hM hRf hRl hd hi hs
  | invokespecial n => exact sd_special C hM hRf hRl hd hi hs
  | invokestatic n => exact sd_stat C hM hRf hRl hd hi hs
  | ireturn =>
    exfalso
    unfold estep at hs
    dsimp only at hs
    split at hs
    · obtain ⟨-, hs⟩ := iv_bo hs
      cases hs
    · cases hs
  | lreturn =>
    exfalso
    unfold estep at hs
    dsimp only at hs
    split at hs
    · cases hs
    · cases hs
  | areturn =>
    exfalso
    unfold estep at hs
    dsimp only at hs
    split at hs
    · cases hs
    · cases hs
  | return_ =>
    exfalso
    unfold estep at hs
    dsimp only at hs
    split at hs
    · cases hs
    · cases hs
  | _ => exact absurd hi (by simp [iB])
end CASES
end SND
end
section
/-! A RUN OF THE EVALUATOR IS A CONTRACT -/
theorem eFind_mem {tb : List eRow} {pc : Nat} {r : eRow} (h : eFind tb pc = some r) : r ∈ tb ∧ r.1 = pc := by
  induction tb with
  | nil => cases h
  | cons a t ih =>
    unfold eFind at h
    cases hb : Nat.beq a.1 pc with
    | true =>
      rw [hb] at h
      cases h
      exact ⟨List.mem_cons_self, nb hb⟩
    | false =>
      rw [hb] at h
      obtain ⟨h1, h2⟩ := ih h
      exact ⟨List.mem_cons_of_mem _ h1, h2⟩
theorem eret_heap {sc : eSc} {M : eM} {r : eRow} {ls : eL} {st : List Value} {h : eH} {x : eR} (hs : estep sc M r ls st h = some (.inr x)) : x.2 = h := by
  obtain ⟨pc, ins, len, ra, rb, wi⟩ := r
  cases ins with
  | ireturn =>
    unfold estep at hs
    dsimp only at hs
    split at hs
    · obtain ⟨-, hs⟩ := iv_bo hs
      cases hs
      rfl
    · cases hs
  | lreturn =>
    unfold estep at hs
    dsimp only at hs
    split at hs
    · cases hs
      rfl
    · cases hs
  | areturn =>
    unfold estep at hs
    dsimp only at hs
    split at hs
    · cases hs
      rfl
    · cases hs
  | return_ =>
    unfold estep at hs
    dsimp only at hs
    split at hs
    · cases hs
      rfl
    · cases hs
  | aload_n n =>
    exfalso
    have hs : oA (ls.getD n.val none) (fun v => some (.inl (pc + 1, ls, v :: st, h))) = some (Sum.inr x : eS ⊕ eR) := hs
    obtain ⟨v, -, -, hs⟩ := iv_oA hs
    cases hs
  | aload n =>
    exfalso
    have hs : oA (ls.getD n none) (fun v => some (.inl (pc + 2, ls, v :: st, h))) = some (Sum.inr x : eS ⊕ eR) := hs
    obtain ⟨v, -, -, hs⟩ := iv_oA hs
    cases hs
  | iload_n n =>
    exfalso
    obtain ⟨v, -, hs⟩ := iv_oI hs
    cases hs
  | iload n =>
    exfalso
    obtain ⟨v, -, hs⟩ := iv_oI hs
    cases hs
  | lload_n n =>
    exfalso
    obtain ⟨v, -, hs⟩ := iv_oL hs
    cases hs
  | lload n =>
    exfalso
    obtain ⟨v, -, hs⟩ := iv_oL hs
    cases hs
  | istore_n n =>
    exfalso
    obtain ⟨v, t, -, hs⟩ := iv_sI hs
    cases hs
  | istore n =>
    exfalso
    obtain ⟨v, t, -, hs⟩ := iv_sI hs
    cases hs
  | astore_n n =>
    exfalso
    obtain ⟨v, t, -, hs⟩ := iv_sR hs
    cases hs
  | astore n =>
    exfalso
    obtain ⟨v, t, -, hs⟩ := iv_sR hs
    cases hs
  | lstore_n n =>
    exfalso
    obtain ⟨v, t, -, hs⟩ := iv_sL hs
    cases hs
  | lstore n =>
    exfalso
    obtain ⟨v, t, -, hs⟩ := iv_sL hs
    cases hs
  | iinc i n =>
    exfalso
    obtain ⟨v, -, hs⟩ := iv_oI hs
    cases hs
  | iconst n =>
    exfalso
    cases hs
  | bipush n =>
    exfalso
    cases hs
  | sipush n =>
    exfalso
    cases hs
  | lconst n =>
    exfalso
    cases hs
  | ldc n =>
    exfalso
    cases hs
  | ldc2_w n =>
    exfalso
    cases hs
  | goto n =>
    exfalso
    cases hs
  | iadd  =>
    exfalso
    obtain ⟨a, b9, t, -, hs⟩ := iv_sII hs
    cases hs
  | isub  =>
    exfalso
    obtain ⟨a, b9, t, -, hs⟩ := iv_sII hs
    cases hs
  | imul  =>
    exfalso
    obtain ⟨a, b9, t, -, hs⟩ := iv_sII hs
    cases hs
  | iand  =>
    exfalso
    obtain ⟨a, b9, t, -, hs⟩ := iv_sII hs
    cases hs
  | ior  =>
    exfalso
    obtain ⟨a, b9, t, -, hs⟩ := iv_sII hs
    cases hs
  | ishr  =>
    exfalso
    obtain ⟨a, b9, t, -, hs⟩ := iv_sII hs
    cases hs
  | iushr  =>
    exfalso
    obtain ⟨a, b9, t, -, hs⟩ := iv_sII hs
    cases hs
  | ladd  =>
    exfalso
    obtain ⟨a, b9, t, -, hs⟩ := iv_sLL hs
    cases hs
  | lsub  =>
    exfalso
    obtain ⟨a, b9, t, -, hs⟩ := iv_sLL hs
    cases hs
  | lmul  =>
    exfalso
    obtain ⟨a, b9, t, -, hs⟩ := iv_sLL hs
    cases hs
  | land  =>
    exfalso
    obtain ⟨a, b9, t, -, hs⟩ := iv_sLL hs
    cases hs
  | lor  =>
    exfalso
    obtain ⟨a, b9, t, -, hs⟩ := iv_sLL hs
    cases hs
  | lxor  =>
    exfalso
    obtain ⟨a, b9, t, -, hs⟩ := iv_sLL hs
    cases hs
  | lcmp  =>
    exfalso
    obtain ⟨a, b9, t, -, hs⟩ := iv_sLL hs
    cases hs
  | idiv  =>
    exfalso
    obtain ⟨a, b9, t, -, hs⟩ := iv_sII hs
    rcases bal hs with ⟨-, hs⟩ | ⟨-, hs⟩ <;> cases hs
  | irem  =>
    exfalso
    obtain ⟨a, b9, t, -, hs⟩ := iv_sII hs
    rcases bal hs with ⟨-, hs⟩ | ⟨-, hs⟩ <;> cases hs
  | ldiv  =>
    exfalso
    obtain ⟨a, b9, t, -, hs⟩ := iv_sLL hs
    rcases bal hs with ⟨-, hs⟩ | ⟨-, hs⟩ <;> cases hs
  | lrem  =>
    exfalso
    obtain ⟨a, b9, t, -, hs⟩ := iv_sLL hs
    rcases bal hs with ⟨-, hs⟩ | ⟨-, hs⟩ <;> cases hs
  | ineg  =>
    exfalso
    obtain ⟨a, t, -, hs⟩ := iv_sI hs
    cases hs
  | lneg  =>
    exfalso
    obtain ⟨a, t, -, hs⟩ := iv_sL hs
    cases hs
  | i2l  =>
    exfalso
    obtain ⟨a, t, -, hs⟩ := iv_sI hs
    cases hs
  | l2i  =>
    exfalso
    obtain ⟨a, t, -, hs⟩ := iv_sL hs
    cases hs
  | i2b  =>
    exfalso
    obtain ⟨a, t, -, hs⟩ := iv_sI hs
    cases hs
  | i2s  =>
    exfalso
    obtain ⟨a, t, -, hs⟩ := iv_sI hs
    cases hs
  | lshl  =>
    exfalso
    obtain ⟨a, b9, t, -, hs⟩ := iv_sLI hs
    cases hs
  | dup  =>
    exfalso
    obtain ⟨v, t, -, hs⟩ := iv_sV hs
    obtain ⟨-, hs⟩ := iv_bo hs
    cases hs
  | pop  =>
    exfalso
    obtain ⟨v, t, -, hs⟩ := iv_sV hs
    obtain ⟨-, hs⟩ := iv_bo hs
    cases hs
  | dup2  =>
    exfalso
    obtain ⟨v, t, -, hs⟩ := iv_sV hs
    obtain ⟨v, t, -, hs⟩ := iv_sV hs
    obtain ⟨-, hs⟩ := iv_bo hs
    cases hs
  | ifCond cd off =>
    exfalso
    obtain ⟨a, t, -, hs⟩ := iv_sI hs
    cases cd <;> (rcases bal hs with ⟨-, hs⟩ | ⟨-, hs⟩ <;> cases hs)
  | if_icmp cd off =>
    exfalso
    obtain ⟨a, b9, t, -, hs⟩ := iv_sII hs
    cases cd <;> (rcases bal hs with ⟨-, hs⟩ | ⟨-, hs⟩ <;> cases hs)
  | tableswitch a9 b9 c9 d9 =>
    exfalso
    obtain ⟨v, t, -, hs⟩ := iv_sI hs
    dsimp only at hs
    split at hs
    · rcases bal hs with ⟨-, hs⟩ | ⟨-, hs⟩ <;> cases hs
    · cases hs
  | getfield n =>
    exfalso
    obtain ⟨a, t, -, hs⟩ := iv_sR hs
    obtain ⟨ci, fs, -, hs⟩ := iv_hO hs
    obtain ⟨-, hs⟩ := iv_bo hs
    dsimp only at hs
    split at hs <;> cases hs
  | putfield n =>
    exfalso
    obtain ⟨v, a, t, -, hs⟩ := iv_sVR hs
    obtain ⟨ci, fs, -, hs⟩ := iv_hO hs
    obtain ⟨-, hs⟩ := iv_bo hs
    cases hs
  | baload  =>
    exfalso
    obtain ⟨i, a, t, -, hs⟩ := iv_sIR hs
    obtain ⟨n, f, -, hs⟩ := iv_hI hs
    obtain ⟨-, hs⟩ := iv_in hs
    cases hs
  | laload  =>
    exfalso
    obtain ⟨i, a, t, -, hs⟩ := iv_sIR hs
    obtain ⟨n, f, -, hs⟩ := iv_hL hs
    obtain ⟨-, hs⟩ := iv_in hs
    cases hs
  | iaload  =>
    exfalso
    rcases iv_sIF hs with ⟨i, a, t, -, hs⟩ | ⟨i, y, t, -, hs⟩
    · obtain ⟨n, f, -, hs⟩ := iv_hI hs
      obtain ⟨-, hs⟩ := iv_in hs
      cases hs
    · obtain ⟨L, xs, -, hs⟩ := iv_oSc hs
      obtain ⟨-, hs⟩ := iv_in hs
      cases hs
  | arraylength  =>
    exfalso
    rcases iv_sRF hs with ⟨a, t, -, hs⟩ | ⟨y, t, -, hs⟩
    · obtain ⟨n, f, -, -, hs⟩ := iv_hN hs
      cases hs
    · obtain ⟨L, xs, -, hs⟩ := iv_oSc hs
      cases hs
  | aaload  =>
    exfalso
    obtain ⟨i, a, t, -, hs⟩ := iv_sIR hs
    obtain ⟨tg, n, f, -, -, -, hs⟩ := iv_hQ hs
    obtain ⟨-, hs⟩ := iv_in hs
    split at hs <;> cases hs
  | iastore  =>
    exfalso
    obtain ⟨y, i, a, t, -, hs⟩ := iv_sIIR hs
    obtain ⟨n, f, -, hs⟩ := iv_hI hs
    obtain ⟨-, hs⟩ := iv_in hs
    cases hs
  | bastore  =>
    exfalso
    obtain ⟨y, i, a, t, -, hs⟩ := iv_sIIR hs
    obtain ⟨n, f, -, hs⟩ := iv_hI hs
    obtain ⟨-, hs⟩ := iv_in hs
    obtain ⟨-, hs⟩ := iv_bo hs
    cases hs
  | lastore  =>
    exfalso
    obtain ⟨y, i, a, t, -, hs⟩ := iv_sLIR hs
    obtain ⟨n, f, -, hs⟩ := iv_hL hs
    obtain ⟨-, hs⟩ := iv_in hs
    cases hs
  | aastore  =>
    exfalso
    obtain ⟨v, i, a, t, -, hs⟩ := iv_sRIR hs
    obtain ⟨tg, n, f, -, -, -, hs⟩ := iv_hQ hs
    obtain ⟨cv, vs, -, hs⟩ := iv_hO hs
    obtain ⟨-, hs⟩ := iv_bo hs
    obtain ⟨-, hs⟩ := iv_in hs
    cases hs
  | new n =>
    exfalso
    obtain ⟨-, hs⟩ := iv_bo hs
    cases hs
  | newarray n =>
    exfalso
    cases n <;> first | (cases hs; done) | (obtain ⟨v, t, -, hs⟩ := iv_sI hs; rcases bal hs with ⟨-, hs⟩ | ⟨-, hs⟩ <;> cases hs)
  | anewarray n =>
    exfalso
    obtain ⟨v, t, -, hs⟩ := iv_sI hs
    rcases bal hs with ⟨-, hs⟩ | ⟨-, hs⟩ <;> cases hs
  | multianewarray n d9 =>
    exfalso
    obtain ⟨v, u, t, -, hs⟩ := iv_sII hs
    rcases bal hs with ⟨-, hs⟩ | ⟨-, hs⟩ <;> cases hs
  | invokevirtual n =>
    exfalso
    obtain ⟨a, t, -, hs⟩ := iv_sR hs
    obtain ⟨y, -, -, hs⟩ := iv_eInv hs
    cases hs
  | invokespecial n =>
    exfalso
    have hs : (bif Nat.beq ra 9999 then sR st (fun _ t => bo (Nat.ble (eSum t) 8) (some (.inl (pc + 3, ls, t, h)))) else eVirt M (pc, .invokespecial n, len, ra, rb, wi) ls st h) = some (Sum.inr x : eS ⊕ eR) := hs
    cases h99 : Nat.beq ra 9999 with
    | true =>
      rw [h99] at hs
      obtain ⟨a, t, -, hs⟩ := iv_sR hs
      obtain ⟨-, hs⟩ := iv_bo hs
      cases hs
    | false =>
      rw [h99] at hs
      obtain ⟨a, t, -, hs⟩ := iv_sR hs
      obtain ⟨y, -, -, hs⟩ := iv_eInv hs
      cases hs
  | invokestatic n =>
    exfalso
    have hs : (bif Nat.beq ra 9998 then eCpy pc ls st h else eStat M (pc, .invokestatic n, len, ra, rb, wi) ls st h) = some (Sum.inr x : eS ⊕ eR) := hs
    cases h99 : Nat.beq ra 9998 with
    | true =>
      rw [h99] at hs
      obtain ⟨a0, sp, a1, dp, n, t, -, hs⟩ := iv_sCpy hs
      obtain ⟨n0, f, -, hs⟩ := iv_hI hs
      obtain ⟨n1, g, -, hs⟩ := iv_hI hs
      obtain ⟨-, hs⟩ := iv_bo hs
      rcases bal hs with ⟨-, hs⟩ | ⟨-, hs⟩ <;> cases hs
    | false =>
      rw [h99] at hs
      obtain ⟨-, hs⟩ := iv_bo hs
      obtain ⟨y, -, -, hs⟩ := iv_eInv hs
      cases hs
  | _ => cases hs
theorem estep_le {sc : eSc} {M : eM} (hM : ∀ (j : Nat) (as : List Value) (h : eH) (x : eR), M j as h = some x → h.2.1 ≤ x.2.2.1 ∧ h.2.2 ≤ x.2.2.2) {r : eRow} {ls : eL} {st : List Value} {h : eH} {q' : eS} (hs : estep sc M r ls st h = some (.inl q')) : h.2.1 ≤ q'.2.2.2.2.1 ∧ h.2.2 ≤ q'.2.2.2.2.2 := by
  obtain ⟨pc, ins, len, ra, rb, wi⟩ := r
  have z : h.2.1 ≤ h.2.1 ∧ h.2.2 ≤ h.2.2 := ⟨Nat.le_refl _, Nat.le_refl _⟩
  cases ins with
  | aload_n n =>
    have hs : oA (ls.getD n.val none) (fun v => some (.inl (pc + 1, ls, v :: st, h))) = some (Sum.inl q' : eS ⊕ eR) := hs
    obtain ⟨v, -, -, hs⟩ := iv_oA hs
    cases hs
    exact z
  | aload n =>
    have hs : oA (ls.getD n none) (fun v => some (.inl (pc + 2, ls, v :: st, h))) = some (Sum.inl q' : eS ⊕ eR) := hs
    obtain ⟨v, -, -, hs⟩ := iv_oA hs
    cases hs
    exact z
  | iload_n n =>
    obtain ⟨v, -, hs⟩ := iv_oI hs
    cases hs
    exact z
  | iload n =>
    obtain ⟨v, -, hs⟩ := iv_oI hs
    cases hs
    exact z
  | lload_n n =>
    obtain ⟨v, -, hs⟩ := iv_oL hs
    cases hs
    exact z
  | lload n =>
    obtain ⟨v, -, hs⟩ := iv_oL hs
    cases hs
    exact z
  | istore_n n =>
    obtain ⟨v, t, -, hs⟩ := iv_sI hs
    cases hs
    exact z
  | istore n =>
    obtain ⟨v, t, -, hs⟩ := iv_sI hs
    cases hs
    exact z
  | astore_n n =>
    obtain ⟨v, t, -, hs⟩ := iv_sR hs
    cases hs
    exact z
  | astore n =>
    obtain ⟨v, t, -, hs⟩ := iv_sR hs
    cases hs
    exact z
  | lstore_n n =>
    obtain ⟨v, t, -, hs⟩ := iv_sL hs
    cases hs
    exact z
  | lstore n =>
    obtain ⟨v, t, -, hs⟩ := iv_sL hs
    cases hs
    exact z
  | iinc i n =>
    obtain ⟨v, -, hs⟩ := iv_oI hs
    cases hs
    exact z
  | iconst n =>
    cases hs
    exact z
  | bipush n =>
    cases hs
    exact z
  | sipush n =>
    cases hs
    exact z
  | lconst n =>
    cases hs
    exact z
  | ldc n =>
    cases hs
    exact z
  | ldc2_w n =>
    cases hs
    exact z
  | goto n =>
    cases hs
    exact z
  | iadd  =>
    obtain ⟨a, b9, t, -, hs⟩ := iv_sII hs
    cases hs
    exact z
  | isub  =>
    obtain ⟨a, b9, t, -, hs⟩ := iv_sII hs
    cases hs
    exact z
  | imul  =>
    obtain ⟨a, b9, t, -, hs⟩ := iv_sII hs
    cases hs
    exact z
  | iand  =>
    obtain ⟨a, b9, t, -, hs⟩ := iv_sII hs
    cases hs
    exact z
  | ior  =>
    obtain ⟨a, b9, t, -, hs⟩ := iv_sII hs
    cases hs
    exact z
  | ishr  =>
    obtain ⟨a, b9, t, -, hs⟩ := iv_sII hs
    cases hs
    exact z
  | iushr  =>
    obtain ⟨a, b9, t, -, hs⟩ := iv_sII hs
    cases hs
    exact z
  | ladd  =>
    obtain ⟨a, b9, t, -, hs⟩ := iv_sLL hs
    cases hs
    exact z
  | lsub  =>
    obtain ⟨a, b9, t, -, hs⟩ := iv_sLL hs
    cases hs
    exact z
  | lmul  =>
    obtain ⟨a, b9, t, -, hs⟩ := iv_sLL hs
    cases hs
    exact z
  | land  =>
    obtain ⟨a, b9, t, -, hs⟩ := iv_sLL hs
    cases hs
    exact z
  | lor  =>
    obtain ⟨a, b9, t, -, hs⟩ := iv_sLL hs
    cases hs
    exact z
  | lxor  =>
    obtain ⟨a, b9, t, -, hs⟩ := iv_sLL hs
    cases hs
    exact z
  | lcmp  =>
    obtain ⟨a, b9, t, -, hs⟩ := iv_sLL hs
    cases hs
    exact z
  | idiv  =>
    obtain ⟨a, b9, t, -, hs⟩ := iv_sII hs
    rcases bal hs with ⟨-, hs⟩ | ⟨-, hs⟩ <;> first | (cases hs; done) | (cases hs; exact z)
  | irem  =>
    obtain ⟨a, b9, t, -, hs⟩ := iv_sII hs
    rcases bal hs with ⟨-, hs⟩ | ⟨-, hs⟩ <;> first | (cases hs; done) | (cases hs; exact z)
  | ldiv  =>
    obtain ⟨a, b9, t, -, hs⟩ := iv_sLL hs
    rcases bal hs with ⟨-, hs⟩ | ⟨-, hs⟩ <;> first | (cases hs; done) | (cases hs; exact z)
  | lrem  =>
    obtain ⟨a, b9, t, -, hs⟩ := iv_sLL hs
    rcases bal hs with ⟨-, hs⟩ | ⟨-, hs⟩ <;> first | (cases hs; done) | (cases hs; exact z)
  | ineg  =>
    obtain ⟨a, t, -, hs⟩ := iv_sI hs
    cases hs
    exact z
  | lneg  =>
    obtain ⟨a, t, -, hs⟩ := iv_sL hs
    cases hs
    exact z
  | i2l  =>
    obtain ⟨a, t, -, hs⟩ := iv_sI hs
    cases hs
    exact z
  | l2i  =>
    obtain ⟨a, t, -, hs⟩ := iv_sL hs
    cases hs
    exact z
  | i2b  =>
    obtain ⟨a, t, -, hs⟩ := iv_sI hs
    cases hs
    exact z
  | i2s  =>
    obtain ⟨a, t, -, hs⟩ := iv_sI hs
    cases hs
    exact z
  | lshl  =>
    obtain ⟨a, b9, t, -, hs⟩ := iv_sLI hs
    cases hs
    exact z
  | dup  =>
    obtain ⟨v, t, -, hs⟩ := iv_sV hs
    obtain ⟨-, hs⟩ := iv_bo hs
    cases hs
    exact z
  | pop  =>
    obtain ⟨v, t, -, hs⟩ := iv_sV hs
    obtain ⟨-, hs⟩ := iv_bo hs
    cases hs
    exact z
  | dup2  =>
    obtain ⟨v, t, -, hs⟩ := iv_sV hs
    obtain ⟨v, t, -, hs⟩ := iv_sV hs
    obtain ⟨-, hs⟩ := iv_bo hs
    cases hs
    exact z
  | ifCond cd off =>
    obtain ⟨a, t, -, hs⟩ := iv_sI hs
    cases cd <;> (rcases bal hs with ⟨-, hs⟩ | ⟨-, hs⟩ <;> (cases hs; exact z))
  | if_icmp cd off =>
    obtain ⟨a, b9, t, -, hs⟩ := iv_sII hs
    cases cd <;> (rcases bal hs with ⟨-, hs⟩ | ⟨-, hs⟩ <;> (cases hs; exact z))
  | tableswitch a9 b9 c9 d9 =>
    obtain ⟨v, t, -, hs⟩ := iv_sI hs
    dsimp only at hs
    split at hs
    · rcases bal hs with ⟨-, hs⟩ | ⟨-, hs⟩ <;> first | (cases hs; done) | (cases hs; exact z)
    · cases hs
  | getfield n =>
    obtain ⟨a, t, -, hs⟩ := iv_sR hs
    obtain ⟨ci, fs, -, hs⟩ := iv_hO hs
    obtain ⟨-, hs⟩ := iv_bo hs
    dsimp only at hs
    split at hs <;> first | (cases hs; done) | (cases hs; exact z)
  | putfield n =>
    obtain ⟨v, a, t, -, hs⟩ := iv_sVR hs
    obtain ⟨ci, fs, -, hs⟩ := iv_hO hs
    obtain ⟨-, hs⟩ := iv_bo hs
    cases hs
    exact z
  | baload  =>
    obtain ⟨i, a, t, -, hs⟩ := iv_sIR hs
    obtain ⟨n, f, -, hs⟩ := iv_hI hs
    obtain ⟨-, hs⟩ := iv_in hs
    cases hs
    exact z
  | laload  =>
    obtain ⟨i, a, t, -, hs⟩ := iv_sIR hs
    obtain ⟨n, f, -, hs⟩ := iv_hL hs
    obtain ⟨-, hs⟩ := iv_in hs
    cases hs
    exact z
  | iaload  =>
    rcases iv_sIF hs with ⟨i, a, t, -, hs⟩ | ⟨i, y, t, -, hs⟩
    · obtain ⟨n, f, -, hs⟩ := iv_hI hs
      obtain ⟨-, hs⟩ := iv_in hs
      cases hs
      exact z
    · obtain ⟨L, xs, -, hs⟩ := iv_oSc hs
      obtain ⟨-, hs⟩ := iv_in hs
      cases hs
      exact z
  | arraylength  =>
    rcases iv_sRF hs with ⟨a, t, -, hs⟩ | ⟨y, t, -, hs⟩
    · obtain ⟨n, f, -, -, hs⟩ := iv_hN hs
      cases hs
      exact z
    · obtain ⟨L, xs, -, hs⟩ := iv_oSc hs
      cases hs
      exact z
  | aaload  =>
    obtain ⟨i, a, t, -, hs⟩ := iv_sIR hs
    obtain ⟨tg, n, f, -, -, -, hs⟩ := iv_hQ hs
    obtain ⟨-, hs⟩ := iv_in hs
    split at hs <;> first | (cases hs; done) | (cases hs; exact z)
  | iastore  =>
    obtain ⟨y, i, a, t, -, hs⟩ := iv_sIIR hs
    obtain ⟨n, f, -, hs⟩ := iv_hI hs
    obtain ⟨-, hs⟩ := iv_in hs
    cases hs
    exact z
  | bastore  =>
    obtain ⟨y, i, a, t, -, hs⟩ := iv_sIIR hs
    obtain ⟨n, f, -, hs⟩ := iv_hI hs
    obtain ⟨-, hs⟩ := iv_in hs
    obtain ⟨-, hs⟩ := iv_bo hs
    cases hs
    exact z
  | lastore  =>
    obtain ⟨y, i, a, t, -, hs⟩ := iv_sLIR hs
    obtain ⟨n, f, -, hs⟩ := iv_hL hs
    obtain ⟨-, hs⟩ := iv_in hs
    cases hs
    exact z
  | aastore  =>
    obtain ⟨v, i, a, t, -, hs⟩ := iv_sRIR hs
    obtain ⟨tg, n, f, -, -, -, hs⟩ := iv_hQ hs
    obtain ⟨cv, vs, -, hs⟩ := iv_hO hs
    obtain ⟨-, hs⟩ := iv_bo hs
    obtain ⟨-, hs⟩ := iv_in hs
    cases hs
    exact z
  | new n =>
    obtain ⟨-, hs⟩ := iv_bo hs
    cases hs
    exact ⟨Nat.le_succ _, Nat.le_add_right _ _⟩
  | newarray n =>
    cases n <;> first | (cases hs; done) | (obtain ⟨v, t, -, hs⟩ := iv_sI hs; rcases bal hs with ⟨-, hs⟩ | ⟨-, hs⟩ <;> first | (cases hs; done) | (cases hs; exact ⟨Nat.le_succ _, Nat.le_add_right _ _⟩))
  | anewarray n =>
    obtain ⟨v, t, -, hs⟩ := iv_sI hs
    rcases bal hs with ⟨-, hs⟩ | ⟨-, hs⟩ <;> first | (cases hs; done) | (cases hs; exact ⟨Nat.le_succ _, Nat.le_add_right _ _⟩)
  | multianewarray n d9 =>
    obtain ⟨v, u, t, -, hs⟩ := iv_sII hs
    rcases bal hs with ⟨-, hs⟩ | ⟨-, hs⟩ <;> first | (cases hs; done) | (cases hs; exact ⟨by dsimp only; omega, by dsimp only; omega⟩)
  | invokevirtual n =>
    obtain ⟨a, t, -, hs⟩ := iv_sR hs
    obtain ⟨y, hy, -, hs⟩ := iv_eInv hs
    cases hs
    exact hM _ _ _ _ hy
  | invokespecial n =>
    have hs : (bif Nat.beq ra 9999 then sR st (fun _ t => bo (Nat.ble (eSum t) 8) (some (.inl (pc + 3, ls, t, h)))) else eVirt M (pc, .invokespecial n, len, ra, rb, wi) ls st h) = some (Sum.inl q' : eS ⊕ eR) := hs
    cases h99 : Nat.beq ra 9999 with
    | true =>
      rw [h99] at hs
      obtain ⟨a, t, -, hs⟩ := iv_sR hs
      obtain ⟨-, hs⟩ := iv_bo hs
      cases hs
      exact z
    | false =>
      rw [h99] at hs
      obtain ⟨a, t, -, hs⟩ := iv_sR hs
      obtain ⟨y, hy, -, hs⟩ := iv_eInv hs
      cases hs
      exact hM _ _ _ _ hy
  | invokestatic n =>
    have hs : (bif Nat.beq ra 9998 then eCpy pc ls st h else eStat M (pc, .invokestatic n, len, ra, rb, wi) ls st h) = some (Sum.inl q' : eS ⊕ eR) := hs
    cases h99 : Nat.beq ra 9998 with
    | true =>
      rw [h99] at hs
      obtain ⟨a0, sp, a1, dp, n, t, -, hs⟩ := iv_sCpy hs
      obtain ⟨n0, f, -, hs⟩ := iv_hI hs
      obtain ⟨n1, g, -, hs⟩ := iv_hI hs
      obtain ⟨-, hs⟩ := iv_bo hs
      rcases bal hs with ⟨-, hs⟩ | ⟨-, hs⟩ <;> first | (cases hs; done) | (cases hs; exact z)
    | false =>
      rw [h99] at hs
      obtain ⟨-, hs⟩ := iv_bo hs
      obtain ⟨y, hy, -, hs⟩ := iv_eInv hs
      cases hs
      exact hM _ _ _ _ hy
  | ireturn =>
    exfalso
    unfold estep at hs
    dsimp only at hs
    split at hs
    · obtain ⟨-, hs⟩ := iv_bo hs
      cases hs
    · cases hs
  | lreturn =>
    exfalso
    unfold estep at hs
    dsimp only at hs
    split at hs
    · cases hs
    · cases hs
  | areturn =>
    exfalso
    unfold estep at hs
    dsimp only at hs
    split at hs
    · cases hs
    · cases hs
  | return_ =>
    exfalso
    unfold estep at hs
    dsimp only at hs
    split at hs
    · cases hs
    · cases hs
  | _ => cases hs
theorem eExec_le {sc : eSc} {M : eM} (hM : ∀ (j : Nat) (as : List Value) (h : eH) (x : eR), M j as h = some x → h.2.1 ≤ x.2.2.1 ∧ h.2.2 ≤ x.2.2.2) {tb : List eRow} : ∀ (f : Nat) {q : eS} {x : eR}, eExec f sc M tb q = some x → q.2.2.2.2.1 ≤ x.2.2.1 ∧ q.2.2.2.2.2 ≤ x.2.2.2 := by
  intro f
  induction f with
  | zero => intro q x hs; cases hs
  | succ f ih =>
    intro q x hs
    unfold eExec at hs
    cases hf : eFind tb q.1 with
    | none => rw [hf] at hs; cases hs
    | some r =>
      rw [hf] at hs
      dsimp only at hs
      cases hst : estep sc M r q.2.1 q.2.2.1 q.2.2.2 with
      | none => rw [hst] at hs; cases hs
      | some y =>
        rw [hst] at hs
        cases y with
        | inl q' =>
          obtain ⟨g1, g2⟩ := estep_le hM hst
          obtain ⟨i1, i2⟩ := ih hs
          exact ⟨Nat.le_trans g1 i1, Nat.le_trans g2 i2⟩
        | inr z =>
          cases hs
          rw [eret_heap hst]
          exact ⟨Nat.le_refl _, Nat.le_refl _⟩
section MET
variable {p : Program} {l : Launch} {e : Env} {R : Room} {s : State} {m : MethodId} {args : Array Value} {below : List Frame} {meth : Method} {c : Code} {D : va_G} {dA : Nat → ClassId} {b base : Nat} {qm : Nat → eMI} {k : Nat} {sc : eSc} {M : eM} {Ts : List Cond}
theorem eret_sound (C : eCx p s m args meth c D dA b base sc (qm k) Ts) (hrt : meth.sig.returnType = (qm k).2.2.2.1) (hlocks : meth.locks = false) {r : eRow} (hr : rB qm k r = true) {ls : eL} {st : List Value} {h : eH} {x : eR} (hs : estep sc M r ls st h = some (.inr x)) : x.2 = h ∧ ∀ {H : Heap} {locs : List Loc} {cells slots : Nat} {arr : Array Slot}, WH D dA b base h H → va_S (fun q => base ≤ q) s.heap H locs → W p l e R s m args below meth c H locs cells slots (MQ below (eQ D dA b base x) args s cells slots (fun q => base ≤ q)) (F0 m r.1 arr (st.map (lf b base))) := by
  obtain ⟨hx, hb, hml, hown, hts0, hT, hK, hbs, hin, hsc⟩ := C
  simp only [rB, Bool.and_eq_true, decide_eq_true_eq] at hr
  obtain ⟨hd, hi⟩ := hr
  obtain ⟨pc, ins, len, ra, rb, wi⟩ := r
  dsimp only at hd ⊢
  have fin : ∀ {H : Heap} {locs : List Loc} {v : Option Value}, WH D dA b base h H → va_S (fun q => base ≤ q) s.heap H locs → ∀ t : State, t.heap = H → s.WarmedH t.vm → eQ D dA b base (v, h) args s (.returned (v.map (lf b base))) t := fun hw hS t ht hW => ⟨rfl, by rw [ht]; exact hw, KK.warm hW hK, hS.F ht⟩
  cases ins with
  | ireturn =>
    have hi : (Nat.beq len 1 && ((Nat.beq ra 0 && (qm k).2.2.2.1 == some .int) || (Nat.beq ra 1 && (qm k).2.2.2.1 == some .boolean))) = true := hi
    simp only [Bool.and_eq_true, Bool.or_eq_true, beq_iff_eq] at hi
    obtain ⟨hi1, hj⟩ := hi
    have hlen : len = 1 := nb hi1
    subst hlen
    unfold estep at hs
    dsimp only at hs
    split at hs
    · next v =>
      obtain ⟨hc, hs⟩ := iv_bo hs
      cases hs
      refine ⟨rfl, fun {H locs cells slots arr} hw hS => ?_⟩
      rcases hj with ⟨h0, hty⟩ | ⟨h1, hty⟩
      · exact W.iret hx hb (by rw [hrt]; exact hty) (fin (v := some (.int v)) hw hS) hS.2.2 hd hlocks
      · have h1 := nb h1
        have hn : narrow .boolean (.int v) = .int v := by
          subst h1
          simp only [Bool.or_eq_true, beq_iff_eq] at hc
          rcases hc with hc | hc | hc
          · cases hc
          · subst hc; decide
          · subst hc; decide
        exact W.zret hx hb (by rw [hrt]; exact hty) hn (fin (v := some (.int v)) hw hS) hS.2.2 hd hlocks
    · cases hs
  | lreturn =>
    have hi : (Nat.beq len 1 && (qm k).2.2.2.1 == some .long) = true := hi
    simp only [Bool.and_eq_true, beq_iff_eq] at hi
    have hlen : len = 1 := nb hi.1
    subst hlen
    unfold estep at hs
    dsimp only at hs
    split at hs
    · next v =>
      cases hs
      exact ⟨rfl, fun {H locs cells slots arr} hw hS => W.lret hx hb (by rw [hrt]; exact hi.2) (fin (v := some (.long v)) hw hS) hS.2.2 hd hlocks⟩
    · cases hs
  | areturn =>
    have hi : (Nat.beq len 1 && (qm k).2.2.2.1 == some (.object "TensionNet$Whole")) = true := hi
    simp only [Bool.and_eq_true, beq_iff_eq] at hi
    have hlen : len = 1 := nb hi.1
    subst hlen
    unfold estep at hs
    dsimp only at hs
    split at hs
    · next v =>
      cases hs
      exact ⟨rfl, fun {H locs cells slots arr} hw hS => W.aret hx hb (by rw [hrt]; exact hi.2) (Or.inl ⟨_, rfl⟩) (Or.inr ⟨_, rfl⟩) (fin (v := some (.ref v)) hw hS) hS.2.2 hd hlocks⟩
    · cases hs
  | return_ =>
    have hi : (Nat.beq len 1 && (qm k).2.2.2.1 == none) = true := hi
    simp only [Bool.and_eq_true, beq_iff_eq] at hi
    have hlen : len = 1 := nb hi.1
    subst hlen
    unfold estep at hs
    dsimp only at hs
    split at hs
    · cases hs
      exact ⟨rfl, fun {H locs cells slots arr} hw hS => W.vret hx hb (by rw [hrt]; exact hi.2) (fin (v := none) hw hS) hS.2.2 hd hlocks⟩
    · cases hs
  | aload_n n =>
    exfalso
    have hs : oA (ls.getD n.val none) (fun v => some (.inl (pc + 1, ls, v :: st, h))) = some (Sum.inr x : eS ⊕ eR) := hs
    obtain ⟨v, -, -, hs⟩ := iv_oA hs
    cases hs
  | aload n =>
    exfalso
    have hs : oA (ls.getD n none) (fun v => some (.inl (pc + 2, ls, v :: st, h))) = some (Sum.inr x : eS ⊕ eR) := hs
    obtain ⟨v, -, -, hs⟩ := iv_oA hs
    cases hs
  | iload_n n =>
    exfalso
    obtain ⟨v, -, hs⟩ := iv_oI hs
    cases hs
  | iload n =>
    exfalso
    obtain ⟨v, -, hs⟩ := iv_oI hs
    cases hs
  | lload_n n =>
    exfalso
    obtain ⟨v, -, hs⟩ := iv_oL hs
    cases hs
  | lload n =>
    exfalso
    obtain ⟨v, -, hs⟩ := iv_oL hs
    cases hs
  | istore_n n =>
    exfalso
    obtain ⟨v, t, -, hs⟩ := iv_sI hs
    cases hs
  | istore n =>
    exfalso
    obtain ⟨v, t, -, hs⟩ := iv_sI hs
    cases hs
  | astore_n n =>
    exfalso
    obtain ⟨v, t, -, hs⟩ := iv_sR hs
    cases hs
  | astore n =>
    exfalso
    obtain ⟨v, t, -, hs⟩ := iv_sR hs
    cases hs
  | lstore_n n =>
    exfalso
    obtain ⟨v, t, -, hs⟩ := iv_sL hs
    cases hs
  | lstore n =>
    exfalso
    obtain ⟨v, t, -, hs⟩ := iv_sL hs
    cases hs
  | iinc i n =>
    exfalso
    obtain ⟨v, -, hs⟩ := iv_oI hs
    cases hs
  | iconst n =>
    exfalso
    cases hs
  | bipush n =>
    exfalso
    cases hs
  | sipush n =>
    exfalso
    cases hs
  | lconst n =>
    exfalso
    cases hs
  | ldc n =>
    exfalso
    cases hs
  | ldc2_w n =>
    exfalso
    cases hs
  | goto n =>
    exfalso
    cases hs
  | iadd  =>
    exfalso
    obtain ⟨a, b9, t, -, hs⟩ := iv_sII hs
    cases hs
  | isub  =>
    exfalso
    obtain ⟨a, b9, t, -, hs⟩ := iv_sII hs
    cases hs
  | imul  =>
    exfalso
    obtain ⟨a, b9, t, -, hs⟩ := iv_sII hs
    cases hs
  | iand  =>
    exfalso
    obtain ⟨a, b9, t, -, hs⟩ := iv_sII hs
    cases hs
  | ior  =>
    exfalso
    obtain ⟨a, b9, t, -, hs⟩ := iv_sII hs
    cases hs
  | ishr  =>
    exfalso
    obtain ⟨a, b9, t, -, hs⟩ := iv_sII hs
    cases hs
  | iushr  =>
    exfalso
    obtain ⟨a, b9, t, -, hs⟩ := iv_sII hs
    cases hs
  | ladd  =>
    exfalso
    obtain ⟨a, b9, t, -, hs⟩ := iv_sLL hs
    cases hs
  | lsub  =>
    exfalso
    obtain ⟨a, b9, t, -, hs⟩ := iv_sLL hs
    cases hs
  | lmul  =>
    exfalso
    obtain ⟨a, b9, t, -, hs⟩ := iv_sLL hs
    cases hs
  | land  =>
    exfalso
    obtain ⟨a, b9, t, -, hs⟩ := iv_sLL hs
    cases hs
  | lor  =>
    exfalso
    obtain ⟨a, b9, t, -, hs⟩ := iv_sLL hs
    cases hs
  | lxor  =>
    exfalso
    obtain ⟨a, b9, t, -, hs⟩ := iv_sLL hs
    cases hs
  | lcmp  =>
    exfalso
    obtain ⟨a, b9, t, -, hs⟩ := iv_sLL hs
    cases hs
  | idiv  =>
    exfalso
    obtain ⟨a, b9, t, -, hs⟩ := iv_sII hs
    rcases bal hs with ⟨-, hs⟩ | ⟨-, hs⟩ <;> cases hs
  | irem  =>
    exfalso
    obtain ⟨a, b9, t, -, hs⟩ := iv_sII hs
    rcases bal hs with ⟨-, hs⟩ | ⟨-, hs⟩ <;> cases hs
  | ldiv  =>
    exfalso
    obtain ⟨a, b9, t, -, hs⟩ := iv_sLL hs
    rcases bal hs with ⟨-, hs⟩ | ⟨-, hs⟩ <;> cases hs
  | lrem  =>
    exfalso
    obtain ⟨a, b9, t, -, hs⟩ := iv_sLL hs
    rcases bal hs with ⟨-, hs⟩ | ⟨-, hs⟩ <;> cases hs
  | ineg  =>
    exfalso
    obtain ⟨a, t, -, hs⟩ := iv_sI hs
    cases hs
  | lneg  =>
    exfalso
    obtain ⟨a, t, -, hs⟩ := iv_sL hs
    cases hs
  | i2l  =>
    exfalso
    obtain ⟨a, t, -, hs⟩ := iv_sI hs
    cases hs
  | l2i  =>
    exfalso
    obtain ⟨a, t, -, hs⟩ := iv_sL hs
    cases hs
  | i2b  =>
    exfalso
    obtain ⟨a, t, -, hs⟩ := iv_sI hs
    cases hs
  | i2s  =>
    exfalso
    obtain ⟨a, t, -, hs⟩ := iv_sI hs
    cases hs
  | lshl  =>
    exfalso
    obtain ⟨a, b9, t, -, hs⟩ := iv_sLI hs
    cases hs
  | dup  =>
    exfalso
    obtain ⟨v, t, -, hs⟩ := iv_sV hs
    obtain ⟨-, hs⟩ := iv_bo hs
    cases hs
  | pop  =>
    exfalso
    obtain ⟨v, t, -, hs⟩ := iv_sV hs
    obtain ⟨-, hs⟩ := iv_bo hs
    cases hs
  | dup2  =>
    exfalso
    obtain ⟨v, t, -, hs⟩ := iv_sV hs
    obtain ⟨v, t, -, hs⟩ := iv_sV hs
    obtain ⟨-, hs⟩ := iv_bo hs
    cases hs
  | ifCond cd off =>
    exfalso
    obtain ⟨a, t, -, hs⟩ := iv_sI hs
    cases cd <;> (rcases bal hs with ⟨-, hs⟩ | ⟨-, hs⟩ <;> cases hs)
  | if_icmp cd off =>
    exfalso
    obtain ⟨a, b9, t, -, hs⟩ := iv_sII hs
    cases cd <;> (rcases bal hs with ⟨-, hs⟩ | ⟨-, hs⟩ <;> cases hs)
  | tableswitch a9 b9 c9 d9 =>
    exfalso
    obtain ⟨v, t, -, hs⟩ := iv_sI hs
    dsimp only at hs
    split at hs
    · rcases bal hs with ⟨-, hs⟩ | ⟨-, hs⟩ <;> cases hs
    · cases hs
  | getfield n =>
    exfalso
    obtain ⟨a, t, -, hs⟩ := iv_sR hs
    obtain ⟨ci, fs, -, hs⟩ := iv_hO hs
    obtain ⟨-, hs⟩ := iv_bo hs
    dsimp only at hs
    split at hs <;> cases hs
  | putfield n =>
    exfalso
    obtain ⟨v, a, t, -, hs⟩ := iv_sVR hs
    obtain ⟨ci, fs, -, hs⟩ := iv_hO hs
    obtain ⟨-, hs⟩ := iv_bo hs
    cases hs
  | baload  =>
    exfalso
    obtain ⟨i, a, t, -, hs⟩ := iv_sIR hs
    obtain ⟨n, f, -, hs⟩ := iv_hI hs
    obtain ⟨-, hs⟩ := iv_in hs
    cases hs
  | laload  =>
    exfalso
    obtain ⟨i, a, t, -, hs⟩ := iv_sIR hs
    obtain ⟨n, f, -, hs⟩ := iv_hL hs
    obtain ⟨-, hs⟩ := iv_in hs
    cases hs
  | iaload  =>
    exfalso
    rcases iv_sIF hs with ⟨i, a, t, -, hs⟩ | ⟨i, y, t, -, hs⟩
    · obtain ⟨n, f, -, hs⟩ := iv_hI hs
      obtain ⟨-, hs⟩ := iv_in hs
      cases hs
    · obtain ⟨L, xs, -, hs⟩ := iv_oSc hs
      obtain ⟨-, hs⟩ := iv_in hs
      cases hs
  | arraylength  =>
    exfalso
    rcases iv_sRF hs with ⟨a, t, -, hs⟩ | ⟨y, t, -, hs⟩
    · obtain ⟨n, f, -, -, hs⟩ := iv_hN hs
      cases hs
    · obtain ⟨L, xs, -, hs⟩ := iv_oSc hs
      cases hs
  | aaload  =>
    exfalso
    obtain ⟨i, a, t, -, hs⟩ := iv_sIR hs
    obtain ⟨tg, n, f, -, -, -, hs⟩ := iv_hQ hs
    obtain ⟨-, hs⟩ := iv_in hs
    split at hs <;> cases hs
  | iastore  =>
    exfalso
    obtain ⟨y, i, a, t, -, hs⟩ := iv_sIIR hs
    obtain ⟨n, f, -, hs⟩ := iv_hI hs
    obtain ⟨-, hs⟩ := iv_in hs
    cases hs
  | bastore  =>
    exfalso
    obtain ⟨y, i, a, t, -, hs⟩ := iv_sIIR hs
    obtain ⟨n, f, -, hs⟩ := iv_hI hs
    obtain ⟨-, hs⟩ := iv_in hs
    obtain ⟨-, hs⟩ := iv_bo hs
    cases hs
  | lastore  =>
    exfalso
    obtain ⟨y, i, a, t, -, hs⟩ := iv_sLIR hs
    obtain ⟨n, f, -, hs⟩ := iv_hL hs
    obtain ⟨-, hs⟩ := iv_in hs
    cases hs
  | aastore  =>
    exfalso
    obtain ⟨v, i, a, t, -, hs⟩ := iv_sRIR hs
    obtain ⟨tg, n, f, -, -, -, hs⟩ := iv_hQ hs
    obtain ⟨cv, vs, -, hs⟩ := iv_hO hs
    obtain ⟨-, hs⟩ := iv_bo hs
    obtain ⟨-, hs⟩ := iv_in hs
    cases hs
  | new n =>
    exfalso
    obtain ⟨-, hs⟩ := iv_bo hs
    cases hs
  | newarray n =>
    exfalso
    cases n <;> first | (cases hs; done) | (obtain ⟨v, t, -, hs⟩ := iv_sI hs; rcases bal hs with ⟨-, hs⟩ | ⟨-, hs⟩ <;> cases hs)
  | anewarray n =>
    exfalso
    obtain ⟨v, t, -, hs⟩ := iv_sI hs
    rcases bal hs with ⟨-, hs⟩ | ⟨-, hs⟩ <;> cases hs
  | multianewarray n d9 =>
    exfalso
    obtain ⟨v, u, t, -, hs⟩ := iv_sII hs
    rcases bal hs with ⟨-, hs⟩ | ⟨-, hs⟩ <;> cases hs
  | invokevirtual n =>
    exfalso
    obtain ⟨a, t, -, hs⟩ := iv_sR hs
    obtain ⟨y, -, -, hs⟩ := iv_eInv hs
    cases hs
  | invokespecial n =>
    exfalso
    have hs : (bif Nat.beq ra 9999 then sR st (fun _ t => bo (Nat.ble (eSum t) 8) (some (.inl (pc + 3, ls, t, h)))) else eVirt M (pc, .invokespecial n, len, ra, rb, wi) ls st h) = some (Sum.inr x : eS ⊕ eR) := hs
    cases h99 : Nat.beq ra 9999 with
    | true =>
      rw [h99] at hs
      obtain ⟨a, t, -, hs⟩ := iv_sR hs
      obtain ⟨-, hs⟩ := iv_bo hs
      cases hs
    | false =>
      rw [h99] at hs
      obtain ⟨a, t, -, hs⟩ := iv_sR hs
      obtain ⟨y, -, -, hs⟩ := iv_eInv hs
      cases hs
  | invokestatic n =>
    exfalso
    have hs : (bif Nat.beq ra 9998 then eCpy pc ls st h else eStat M (pc, .invokestatic n, len, ra, rb, wi) ls st h) = some (Sum.inr x : eS ⊕ eR) := hs
    cases h99 : Nat.beq ra 9998 with
    | true =>
      rw [h99] at hs
      obtain ⟨a0, sp, a1, dp, n, t, -, hs⟩ := iv_sCpy hs
      obtain ⟨n0, f, -, hs⟩ := iv_hI hs
      obtain ⟨n1, g, -, hs⟩ := iv_hI hs
      obtain ⟨-, hs⟩ := iv_bo hs
      rcases bal hs with ⟨-, hs⟩ | ⟨-, hs⟩ <;> cases hs
    | false =>
      rw [h99] at hs
      obtain ⟨-, hs⟩ := iv_bo hs
      obtain ⟨y, -, -, hs⟩ := iv_eInv hs
      cases hs
  | _ => cases hs
/-- the evaluator's end is the machine's -/
theorem eexec_sound (C : eCx p s m args meth c D dA b base sc (qm k) Ts) (hM : eMOK qm l D dA b base k M) (hRf : R.frames = (qm k).2.2.2.2.2.2.2.1) (hRl : R.locals = (qm k).2.2.2.2.2.2.2.2) (hrt : meth.sig.returnType = (qm k).2.2.2.1) (hlocks : meth.locks = false) {tb : List eRow} (htb : ∀ r ∈ tb, rB qm k r = true) : ∀ (f : Nat) {pc : Nat} {ls : eL} {st : List Value} {h : eH} {x : eR}, eExec f sc M tb (pc, ls, st, h) = some x → h.2.1 ≤ x.2.2.1 ∧ h.2.2 ≤ x.2.2.2 ∧ ∀ {H : Heap} {locs : List Loc} {cells slots : Nat} {arr : Array Slot}, lv_has arr (qm k).2.2.1 (eEnt b base ls) → WH D dA b base h H → va_S (fun q => base ≤ q) s.heap H locs → cells + (x.2.2.1 - h.2.1) ≤ R.cells → slots + (x.2.2.2 - h.2.2) ≤ R.slots →
    W p l e R s m args below meth c H locs cells slots (MQ below (eQ D dA b base x) args s (cells + (x.2.2.1 - h.2.1)) (slots + (x.2.2.2 - h.2.2)) (fun q => base ≤ q)) (F0 m pc arr (st.map (lf b base))) := by
  intro f
  induction f with
  | zero => intro pc ls st h x hs; cases hs
  | succ f ih =>
    intro pc ls st h x hs
    unfold eExec at hs
    cases hf : eFind tb pc with
    | none => rw [hf] at hs; cases hs
    | some r =>
      rw [hf] at hs
      dsimp only at hs
      obtain ⟨hmem, hpc⟩ := eFind_mem hf
      subst hpc
      cases hst : estep sc M r ls st h with
      | none => rw [hst] at hs; cases hs
      | some y =>
        rw [hst] at hs
        cases y with
        | inl q' =>
          dsimp only at hs
          obtain ⟨pc', ls', st', h'⟩ := q'
          obtain ⟨g1, g2, g3, g4⟩ := estep_sound (l := l) (e := e) (R := R) (below := below) C hM hRf hRl (htb r hmem) hst
          dsimp only at g1 g2 g4
          obtain ⟨i1, i2, i3⟩ := ih hs
          refine ⟨Nat.le_trans g1 i1, Nat.le_trans g2 i2, fun {H locs cells slots arr} hl hw hS h1 h2 => ?_⟩
          refine g4 hl hw hS (by omega) (by omega) fun H' locs' arr' hl' hw' hS' => ?_
          have := i3 (cells := cells + (h'.2.1 - h.2.1)) (slots := slots + (h'.2.2 - h.2.2)) hl' hw' hS' (by omega) (by omega)
          rw [show cells + (h'.2.1 - h.2.1) + (x.2.2.1 - h'.2.1) = cells + (x.2.2.1 - h.2.1) by omega, show slots + (h'.2.2 - h.2.2) + (x.2.2.2 - h'.2.2) = slots + (x.2.2.2 - h.2.2) by omega] at this
          exact this
        | inr z =>
          cases hs
          obtain ⟨e1, e2⟩ := eret_sound (l := l) (e := e) (R := R) (below := below) C hrt hlocks (htb r hmem) hst
          rw [e1]
          refine ⟨Nat.le_refl _, Nat.le_refl _, fun {H locs cells slots arr} hl hw hS h1 h2 => ?_⟩
          rw [Nat.sub_self, Nat.sub_self, Nat.add_zero, Nat.add_zero]
          exact e2 hw hS
end MET
/-! the methods, each over those ahead of it -/
def alen (as : List Value) : Nat := (as.flatMap (fun v => if v.category = 2 then [some v, (none : Option Value)] else [some v])).length
def okA (i : eMI) (as : List Value) (h : eH) : Bool := Nat.ble (alen as) i.2.2.1 && (i.2.2.2.2.1 || (match as with
  | .ref a :: _ => (match h.1 a with
    | .inr (ci, _) => Nat.beq ci i.2.2.2.2.2.2.1
    | _ => false)
  | _ => false))
noncomputable def eTo (qm : Nat → eMI) (qt : Nat → List eRow) : Nat → eM
  | 0 => fun _ _ _ => none
  | k + 1 => fun j as h => bif Nat.beq j k then bo (okA (qm k) as h) (eRun none (eTo qm qt k) (qt k) (0, entL (qm k).2.2.1 as, [], h)) else eTo qm qt k j as h
theorem okA_recv {i : eMI} {as : List Value} {h : eH} (ho : okA i as h = true) : alen as ≤ i.2.2.1 ∧ (i.2.2.2.2.1 = false → ∀ a t, as = .ref a :: t → ∃ fs, h.1 a = .inr (i.2.2.2.2.2.2.1, fs)) := by
  unfold okA at ho
  rw [Bool.and_eq_true, Bool.or_eq_true] at ho
  refine ⟨Nat.le_of_ble_eq_true ho.1, fun hs a t e => ?_⟩
  rcases ho.2 with h2 | h2
  · rw [hs] at h2; cases h2
  · subst e
    dsimp only at h2
    split at h2
    · next ci fs he =>
      rw [nb h2] at he
      exact ⟨fs, he⟩
    · cases h2
theorem eTo_le {qm : Nat → eMI} {qt : Nat → List eRow} : ∀ {k : Nat} (j : Nat) (as : List Value) (h : eH) (x : eR), eTo qm qt k j as h = some x → h.2.1 ≤ x.2.2.1 ∧ h.2.2 ≤ x.2.2.2 := by
  intro k
  induction k with
  | zero => intro j as h x hs; cases hs
  | succ k ih =>
    intro j as h x hs
    unfold eTo at hs
    cases hb : Nat.beq j k with
    | true =>
      rw [hb] at hs
      obtain ⟨-, hs⟩ := iv_bo hs
      obtain ⟨f, hf⟩ := eRun_iff.mp hs
      exact eExec_le ih f hf
    | false =>
      rw [hb] at hs
      exact ih j as h x hs
/-- as the kit's, for every method in whose place no entry of the natives runs -/
theorem Met_ofWF {l : Launch} {y : MethodName} {ws ws' : List Cond} {rm : Room} {Pc : Array Value → State → Prop} {Qc : Array Value → State → Outcome → State → Prop} {mc ms : Nat} {free : Addr → Prop} {cc : ByteArray} {maxL : Nat} {ret : Option FieldType}
    (hy : plainFor y = true) (hw : ws = Cond.code y cc maxL ret :: ws')
    (body : ∀ p e s m args below meth c s₁, BodyLoose p l y (headSpec ws rm) cc maxL ret e s m args below meth c s₁ → c.maxLocals = maxL → Pc args s →
      W p l e (headSpec ws rm).room s m args below meth c s.heap [] 0 0 (MQ below Qc args s mc ms free) (entryFrame m args maxL)) : Met l y ws rm Pc Qc mc ms free := by
  refine MetFree.of_bodySF (code := cc) (maxLocals := maxL) (ret := ret) hy ?_ ?_
  · intro args s m h hn
    obtain ⟨meth, c, h1, h2, h3, h4, h5, h6, -, -⟩ := Cond.code_spec hn (atoms_spec (ws := ws) h _ (by rw [hw]; exact List.mem_cons_self))
    exact ⟨meth, c, h1, h2, h3, h4, h5, h6⟩
  · intro p e s m args below meth c s₁ B hml hP _
    have hh0 : s₁.heap = s.heap := by rw [B.state]; rfl
    obtain ⟨t, a1, o, b1, b2, b3⟩ := body p e s m args below meth c s₁ B hml hP s₁ hh0 (Stand.of_body B)
    exact ⟨t, o, a1, b1, b2, ⟨b3.1, b3.2⟩⟩
section TO
variable {qm : Nat → eMI} {qt : Nat → List eRow} {l : Launch} {D : va_G} {dA : Nat → ClassId} {b base : Nat}
theorem eTop_sound {k : Nat} (hm : mOK (qm k)) (htb : ∀ r ∈ qt k, rB qm k r = true) (hM : eMOK qm l D dA b base k (eTo qm qt k)) {as : List Value} {h : eH} {x : eR} (ho : okA (qm k) as h = true) (hr : eRun none (eTo qm qt k) (qt k) (0, entL (qm k).2.2.1 as, [], h) = some x) : eMet l D dA b base (qm k) as h x ∧ h.2.1 ≤ x.2.2.1 ∧ h.2.2 ≤ x.2.2.2 := by
  obtain ⟨f, hf⟩ := eRun_iff.mp hr
  refine ⟨?_, ?_⟩
  · refine Met_ofWF (cc := (qm k).2.1) (maxL := (qm k).2.2.1) (ret := (qm k).2.2.2.1) hm.1 rfl ?_
    intro p e s m args below meth c s₁ B hml hv
    obtain ⟨rfl, hw, hK⟩ := hv
    have hx := B.exec
    have hb := B.bytes
    have hrt := B.returns
    have hts := atoms_spec (ws := Cond.code (qm k).1 (qm k).2.1 (qm k).2.2.1 (qm k).2.2.2.1 :: gT) B.pre
    have hown : s.vm.findClass (qm k).1.cls = some m.cls := findClass_of_methodNamed B.named
    have hlocks := B.notSynchronized
    have hnm := (name_of_methodNamed B.named B.method).1
    have hsz := hw.1
    have C : eCx p s m (as.map (lf b base)).toArray meth c D dA b base none (qm k) (Cond.code (qm k).1 (qm k).2.1 (qm k).2.2.1 (qm k).2.2.2.1 :: gT) := ⟨hx, hb, hml, hown, hts, fun w h => List.mem_cons_of_mem _ h, hK, by omega, fun hn => hnm.trans hn, fun L xs h => by cases h⟩
    obtain ⟨m1, m2, run⟩ := eexec_sound (l := l) (e := e) (R := (headSpec (Cond.code (qm k).1 (qm k).2.1 (qm k).2.2.1 (qm k).2.2.2.1 :: gT) (eRm (qm k) h x)).room) (below := below) C hM rfl rfl hrt hlocks htb f hf
    have hal : (lg_sl (as.map (lf b base))).length ≤ (qm k).2.2.1 := by rw [entL_sl]; exact (okA_recv ho).1
    have hl := lv_entry (as.map (lf b base)) hal
    rw [lg_entry_eq]
    generalize (lg_sl (as.map (lf b base)) ++ List.replicate ((qm k).2.2.1 - (lg_sl (as.map (lf b base))).length) Slot.unset).toArray = ls at hl ⊢
    have := run (cells := 0) (slots := 0) (H := s.heap) (locs := []) (lv_incl hl entL_in) hw va_S.rf (by rw [Nat.zero_add]; exact Nat.le_refl _) (by rw [Nat.zero_add]; exact Nat.le_refl _)
    rw [Nat.zero_add, Nat.zero_add] at this
    exact this
  · obtain ⟨f, hf⟩ := eRun_iff.mp hr
    exact eExec_le eTo_le f hf
theorem eTo_sound {N : Nat} (hm : ∀ k, k < N → mOK (qm k) ∧ ∀ r ∈ qt k, rB qm k r = true) : ∀ k, k ≤ N → eMOK qm l D dA b base k (eTo qm qt k) := by
  intro k
  induction k with
  | zero => intro _ j as h x hj; exact absurd hj (Nat.not_lt_zero _)
  | succ k ih =>
    intro hk j as h x hj hs
    have ihk := ih (by omega)
    unfold eTo at hs
    cases hb : Nat.beq j k with
    | true =>
      rw [hb] at hs
      have hjk := nb hb
      subst hjk
      obtain ⟨ho, hs⟩ := iv_bo hs
      obtain ⟨hm1, hm2⟩ := hm j (by omega)
      obtain ⟨e1, e2, e3⟩ := eTop_sound hm1 hm2 ihk ho hs
      exact ⟨hm1, e1, e2, e3, (okA_recv ho).2⟩
    | false =>
      rw [hb] at hs
      have hne : j ≠ k := fun e => by subst e; rw [Nat.beq_refl] at hb; cases hb
      exact ihk j as h x (by omega) hs
end TO
end
section
/-! the methods of the program, callees first, and their rows of code (by program out of the papers) -/
def qt0 : List eRow := [(0, .iload_n 0, 1, 0, 0, 0), (1, .bipush 31, 2, 0, 0, 0), (3, .ishr, 1, 0, 0, 0), (4, .iload_n 0, 1, 0, 0, 0), (5, .ineg, 1, 0, 0, 0), (6, .bipush 31, 2, 0, 0, 0), (8, .iushr, 1, 0, 0, 0), (9, .ior, 1, 0, 0, 0), (10, .ireturn, 1, 0, 0, 0)]
def qt1 : List eRow := [(0, .iconst 0, 1, 0, 0, 0), (1, .istore_n 2, 1, 0, 0, 0), (2, .aload_n 0, 1, 0, 0, 0), (3, .arraylength, 1, 0, 0, 0), (4, .istore_n 3, 1, 0, 0, 0), (5, .iload_n 2, 1, 0, 0, 0), (6, .iload_n 3, 1, 0, 0, 0), (7, .if_icmp .ge 13, 3, 20, 0, 0), (10, .aload_n 0, 1, 0, 0, 0), (11, .iload_n 2, 1, 0, 0, 0), (12, .iload_n 1, 1, 0, 0, 0), (13, .iastore, 1, 0, 0, 0), (14, .iinc 2 1, 3, 0, 0, 0), (17, .goto (-12), 3, 5, 0, 0), (20, .return_, 1, 0, 0, 0)]
def qt2 : List eRow := [(0, .iconst 0, 1, 0, 0, 0), (1, .istore_n 3, 1, 0, 0, 0), (2, .aload_n 0, 1, 0, 0, 0), (3, .arraylength, 1, 0, 0, 0), (4, .istore 4, 2, 0, 0, 0), (6, .iload_n 3, 1, 0, 0, 0), (7, .iload 4, 2, 0, 0, 0), (9, .if_icmp .ge 13, 3, 22, 0, 0), (12, .aload_n 0, 1, 0, 0, 0), (13, .iload_n 3, 1, 0, 0, 0), (14, .lload_n 1, 1, 0, 0, 0), (15, .lastore, 1, 0, 0, 0), (16, .iinc 3 1, 3, 0, 0, 0), (19, .goto (-13), 3, 6, 0, 0), (22, .return_, 1, 0, 0, 0)]
def qt3 : List eRow := [(0, .iload_n 1, 1, 0, 0, 0), (1, .iload_n 2, 1, 0, 0, 0), (2, .if_icmp .le 44, 3, 46, 0, 0), (8, .dup, 1, 0, 0, 0), (12, .dup, 1, 0, 0, 0), (21, .iload_n 1, 1, 0, 0, 0), (30, .iload_n 2, 1, 0, 0, 0), (46, .iload_n 1, 1, 0, 0, 0), (47, .ifCond .ge 12, 3, 59, 0, 0), (53, .dup, 1, 0, 0, 0), (54, .iload_n 1, 1, 0, 0, 0), (59, .iload_n 2, 1, 0, 0, 0), (60, .iload_n 0, 1, 0, 0, 0), (61, .if_icmp .le 12, 3, 73, 0, 0), (67, .dup, 1, 0, 0, 0), (68, .iload_n 2, 1, 0, 0, 0), (73, .return_, 1, 0, 0, 0)]
def qt4 : List eRow := [(0, .aload_n 0, 1, 0, 0, 0), (1, .arraylength, 1, 0, 0, 0), (2, .iload_n 1, 1, 0, 0, 0), (3, .iload_n 2, 1, 0, 0, 0), (4, .invokestatic 13, 3, 3, 3, 656), (7, .iload_n 1, 1, 0, 0, 0), (8, .istore 4, 2, 0, 0, 0), (10, .iload 4, 2, 0, 0, 0), (12, .iload_n 2, 1, 0, 0, 0), (13, .if_icmp .ge 14, 3, 27, 0, 0), (16, .aload_n 0, 1, 0, 0, 0), (17, .iload 4, 2, 0, 0, 0), (19, .iload_n 3, 1, 0, 0, 0), (20, .iastore, 1, 0, 0, 0), (21, .iinc 4 1, 3, 0, 0, 0), (24, .goto (-14), 3, 10, 0, 0), (27, .return_, 1, 0, 0, 0)]
def qt5 : List eRow := [(0, .iload_n 0, 1, 0, 0, 0), (1, .ifCond .ge 8, 3, 9, 0, 0), (4, .iload_n 0, 1, 0, 0, 0), (5, .ineg, 1, 0, 0, 0), (6, .goto 4, 3, 10, 0, 0), (9, .iload_n 0, 1, 0, 0, 0), (10, .ireturn, 1, 0, 0, 0)]
def qt6 : List eRow := [(0, .lload_n 0, 1, 0, 0, 0), (1, .lload_n 2, 1, 0, 0, 0), (2, .ldiv, 1, 0, 0, 0), (3, .lstore 4, 2, 0, 0, 0), (5, .lload_n 0, 1, 0, 0, 0), (6, .lload_n 2, 1, 0, 0, 0), (7, .lxor, 1, 0, 0, 0), (8, .lconst 0, 1, 0, 0, 0), (9, .lcmp, 1, 0, 0, 0), (10, .ifCond .ge 17, 3, 27, 0, 0), (13, .lload 4, 2, 0, 0, 0), (15, .lload_n 2, 1, 0, 0, 0), (16, .lmul, 1, 0, 0, 0), (17, .lload_n 0, 1, 0, 0, 0), (18, .lcmp, 1, 0, 0, 0), (19, .ifCond .eq 8, 3, 27, 0, 0), (22, .lload 4, 2, 0, 0, 0), (24, .lconst 1, 1, 0, 0, 0), (25, .lsub, 1, 0, 0, 0), (26, .lreturn, 1, 0, 0, 0), (27, .lload 4, 2, 0, 0, 0), (29, .lreturn, 1, 0, 0, 0)]
def qt7 : List eRow := [(0, .lload_n 0, 1, 0, 0, 0), (1, .lload_n 2, 1, 0, 0, 0), (2, .lrem, 1, 0, 0, 0), (3, .lstore 4, 2, 0, 0, 0), (5, .lload_n 0, 1, 0, 0, 0), (6, .lload_n 2, 1, 0, 0, 0), (7, .lxor, 1, 0, 0, 0), (8, .lconst 0, 1, 0, 0, 0), (9, .lcmp, 1, 0, 0, 0), (10, .ifCond .ge 15, 3, 25, 0, 0), (13, .lload 4, 2, 0, 0, 0), (15, .lconst 0, 1, 0, 0, 0), (16, .lcmp, 1, 0, 0, 0), (17, .ifCond .eq 8, 3, 25, 0, 0), (20, .lload 4, 2, 0, 0, 0), (22, .lload_n 2, 1, 0, 0, 0), (23, .ladd, 1, 0, 0, 0), (24, .lreturn, 1, 0, 0, 0), (25, .lload 4, 2, 0, 0, 0), (27, .lreturn, 1, 0, 0, 0)]
def qt8 : List eRow := [(0, .iload_n 0, 1, 0, 0, 0), (1, .iload_n 1, 1, 0, 0, 0), (2, .if_icmp .lt 7, 3, 9, 0, 0), (5, .iload_n 0, 1, 0, 0, 0), (6, .goto 4, 3, 10, 0, 0), (9, .iload_n 1, 1, 0, 0, 0), (10, .ireturn, 1, 0, 0, 0)]
def qt9 : List eRow := [(0, .iload_n 0, 1, 0, 0, 0), (1, .iload_n 1, 1, 0, 0, 0), (2, .if_icmp .gt 7, 3, 9, 0, 0), (5, .iload_n 0, 1, 0, 0, 0), (6, .goto 4, 3, 10, 0, 0), (9, .iload_n 1, 1, 0, 0, 0), (10, .ireturn, 1, 0, 0, 0)]
def qt10 : List eRow := [(0, .lload_n 0, 1, 0, 0, 0), (1, .lload_n 2, 1, 0, 0, 0), (2, .lcmp, 1, 0, 0, 0), (3, .ifCond .gt 7, 3, 10, 0, 0), (6, .lload_n 0, 1, 0, 0, 0), (7, .goto 4, 3, 11, 0, 0), (10, .lload_n 2, 1, 0, 0, 0), (11, .lreturn, 1, 0, 0, 0)]
def qt11 : List eRow := [(0, .iconst 0, 1, 0, 0, 0), (1, .istore_n 2, 1, 0, 0, 0), (2, .iload_n 2, 1, 0, 0, 0), (3, .bipush 23, 2, 0, 0, 0), (5, .if_icmp .ge 62, 3, 67, 0, 0), (8, .aload_n 0, 1, 0, 0, 0), (9, .getfield 9, 3, 11, 0, 958), (12, .bipush 24, 2, 0, 0, 0), (14, .iload_n 1, 1, 0, 0, 0), (15, .imul, 1, 0, 0, 0), (16, .iload_n 2, 1, 0, 0, 0), (17, .iadd, 1, 0, 0, 0), (18, .laload, 1, 0, 0, 0), (19, .lstore_n 3, 1, 0, 0, 0), (20, .aload_n 0, 1, 0, 0, 0), (21, .getfield 9, 3, 11, 0, 958), (24, .bipush 24, 2, 0, 0, 0), (26, .iload_n 1, 1, 0, 0, 0), (27, .imul, 1, 0, 0, 0), (28, .iload_n 2, 1, 0, 0, 0), (29, .iadd, 1, 0, 0, 0), (30, .lload_n 3, 1, 0, 0, 0), (31, .ldc2_w 74, 3, 1000000000, 0, 951), (34, .invokestatic 76, 3, 7, 2, 952), (37, .lastore, 1, 0, 0, 0), (38, .aload_n 0, 1, 0, 0, 0), (39, .getfield 9, 3, 11, 0, 958), (42, .bipush 24, 2, 0, 0, 0), (44, .iload_n 1, 1, 0, 0, 0), (45, .imul, 1, 0, 0, 0), (46, .iload_n 2, 1, 0, 0, 0), (47, .iadd, 1, 0, 0, 0), (48, .iconst 1, 1, 0, 0, 0), (49, .iadd, 1, 0, 0, 0), (50, .dup2, 1, 0, 0, 0), (51, .laload, 1, 0, 0, 0), (52, .lload_n 3, 1, 0, 0, 0), (53, .ldc2_w 74, 3, 1000000000, 0, 951), (56, .invokestatic 82, 3, 6, 2, 955), (59, .ladd, 1, 0, 0, 0), (60, .lastore, 1, 0, 0, 0), (61, .iinc 2 1, 3, 0, 0, 0), (64, .goto (-62), 3, 2, 0, 0), (67, .return_, 1, 0, 0, 0)]
def qt12 : List eRow := [(0, .iconst 0, 1, 0, 0, 0), (1, .istore 4, 2, 0, 0, 0), (3, .iload 4, 2, 0, 0, 0), (5, .bipush 24, 2, 0, 0, 0), (7, .if_icmp .ge 31, 3, 38, 0, 0), (10, .aload_n 0, 1, 0, 0, 0), (11, .getfield 9, 3, 11, 0, 958), (14, .bipush 24, 2, 0, 0, 0), (16, .iload_n 1, 1, 0, 0, 0), (17, .imul, 1, 0, 0, 0), (18, .iload 4, 2, 0, 0, 0), (20, .iadd, 1, 0, 0, 0), (21, .iload 4, 2, 0, 0, 0), (23, .ifCond .ne 7, 3, 30, 0, 0), (26, .lload_n 2, 1, 0, 0, 0), (27, .goto 4, 3, 31, 0, 0), (30, .lconst 0, 1, 0, 0, 0), (31, .lastore, 1, 0, 0, 0), (32, .iinc 4 1, 3, 0, 0, 0), (35, .goto (-32), 3, 3, 0, 0), (38, .aload_n 0, 1, 0, 0, 0), (39, .iload_n 1, 1, 0, 0, 0), (40, .invokevirtual 85, 3, 11, 1, 947), (43, .return_, 1, 0, 0, 0)]
def qt13 : List eRow := [(0, .iconst 0, 1, 0, 0, 0), (1, .istore_n 2, 1, 0, 0, 0), (2, .iconst 0, 1, 0, 0, 0), (3, .istore_n 3, 1, 0, 0, 0), (4, .iload_n 3, 1, 0, 0, 0), (5, .iload_n 1, 1, 0, 0, 0), (6, .if_icmp .ge 26, 3, 32, 0, 0), (9, .iload_n 2, 1, 0, 0, 0), (10, .aload_n 0, 1, 0, 0, 0), (11, .getfield 33, 3, 11, 7, 965), (14, .iload_n 3, 1, 0, 0, 0), (15, .baload, 1, 0, 0, 0), (16, .ifCond .eq 7, 3, 23, 0, 0), (19, .iconst 0, 1, 0, 0, 0), (20, .goto 4, 3, 24, 0, 0), (23, .iconst 1, 1, 0, 0, 0), (24, .iadd, 1, 0, 0, 0), (25, .istore_n 2, 1, 0, 0, 0), (26, .iinc 3 1, 3, 0, 0, 0), (29, .goto (-25), 3, 4, 0, 0), (32, .aload_n 0, 1, 0, 0, 0), (33, .getfield 33, 3, 11, 7, 965), (36, .iload_n 1, 1, 0, 0, 0), (37, .baload, 1, 0, 0, 0), (38, .ifCond .eq 7, 3, 45, 0, 0), (41, .iconst (-1), 1, 0, 0, 0), (42, .goto 4, 3, 46, 0, 0), (45, .iload_n 2, 1, 0, 0, 0), (46, .ireturn, 1, 0, 0, 0)]
def qt14 : List eRow := [(0, .sipush 292, 3, 0, 0, 0), (3, .bipush 16, 2, 0, 0, 0), (5, .iload_n 1, 1, 0, 0, 0), (6, .imul, 1, 0, 0, 0), (7, .iadd, 1, 0, 0, 0), (8, .iload_n 2, 1, 0, 0, 0), (9, .iadd, 1, 0, 0, 0), (10, .ireturn, 1, 0, 0, 0)]
def qt15 : List eRow := [(0, .iconst 0, 1, 0, 0, 0), (1, .istore 5, 2, 0, 0, 0), (3, .iload 5, 2, 0, 0, 0), (5, .bipush 24, 2, 0, 0, 0), (7, .if_icmp .ge 38, 3, 45, 0, 0), (10, .aload_n 0, 1, 0, 0, 0), (11, .getfield 9, 3, 11, 0, 958), (14, .bipush 24, 2, 0, 0, 0), (16, .iload_n 1, 1, 0, 0, 0), (17, .imul, 1, 0, 0, 0), (18, .iload 5, 2, 0, 0, 0), (20, .iadd, 1, 0, 0, 0), (21, .dup2, 1, 0, 0, 0), (22, .laload, 1, 0, 0, 0), (23, .aload_n 0, 1, 0, 0, 0), (24, .getfield 9, 3, 11, 0, 958), (27, .bipush 24, 2, 0, 0, 0), (29, .iload_n 2, 1, 0, 0, 0), (30, .imul, 1, 0, 0, 0), (31, .iload 5, 2, 0, 0, 0), (33, .iadd, 1, 0, 0, 0), (34, .laload, 1, 0, 0, 0), (35, .lload_n 3, 1, 0, 0, 0), (36, .lmul, 1, 0, 0, 0), (37, .ladd, 1, 0, 0, 0), (38, .lastore, 1, 0, 0, 0), (39, .iinc 5 1, 3, 0, 0, 0), (42, .goto (-39), 3, 3, 0, 0), (45, .aload_n 0, 1, 0, 0, 0), (46, .iload_n 1, 1, 0, 0, 0), (47, .invokevirtual 85, 3, 11, 1, 947), (50, .return_, 1, 0, 0, 0)]
def qt16 : List eRow := [(0, .aload_n 0, 1, 0, 0, 0), (1, .iload 4, 2, 0, 0, 0), (3, .lconst 0, 1, 0, 0, 0), (4, .invokevirtual 70, 3, 12, 2, 943), (7, .aload_n 0, 1, 0, 0, 0), (8, .getfield 33, 3, 11, 7, 965), (11, .aload_n 0, 1, 0, 0, 0), (12, .getfield 43, 3, 11, 11, 969), (15, .iload_n 2, 1, 0, 0, 0), (16, .iaload, 1, 0, 0, 0), (17, .baload, 1, 0, 0, 0), (18, .ifCond .ne 29, 3, 47, 0, 0), (21, .aload_n 0, 1, 0, 0, 0), (22, .iload 4, 2, 0, 0, 0), (24, .aload_n 0, 1, 0, 0, 0), (25, .iload_n 1, 1, 0, 0, 0), (26, .iconst 2, 1, 0, 0, 0), (27, .aload_n 0, 1, 0, 0, 0), (28, .aload_n 0, 1, 0, 0, 0), (29, .getfield 43, 3, 11, 11, 969), (32, .iload_n 2, 1, 0, 0, 0), (33, .iaload, 1, 0, 0, 0), (34, .invokevirtual 188, 3, 13, 1, 1090), (37, .imul, 1, 0, 0, 0), (38, .iload_n 3, 1, 0, 0, 0), (39, .iadd, 1, 0, 0, 0), (40, .invokevirtual 253, 3, 14, 2, 1267), (43, .lconst 1, 1, 0, 0, 0), (44, .invokevirtual 131, 3, 15, 3, 1138), (47, .aload_n 0, 1, 0, 0, 0), (48, .getfield 33, 3, 11, 7, 965), (51, .aload_n 0, 1, 0, 0, 0), (52, .getfield 46, 3, 11, 12, 970), (55, .iload_n 2, 1, 0, 0, 0), (56, .iaload, 1, 0, 0, 0), (57, .baload, 1, 0, 0, 0), (58, .ifCond .ne 31, 3, 89, 0, 0), (61, .aload_n 0, 1, 0, 0, 0), (62, .iload 4, 2, 0, 0, 0), (64, .aload_n 0, 1, 0, 0, 0), (65, .iload_n 1, 1, 0, 0, 0), (66, .iconst 2, 1, 0, 0, 0), (67, .aload_n 0, 1, 0, 0, 0), (68, .aload_n 0, 1, 0, 0, 0), (69, .getfield 46, 3, 11, 12, 970), (72, .iload_n 2, 1, 0, 0, 0), (73, .iaload, 1, 0, 0, 0), (74, .invokevirtual 188, 3, 13, 1, 1090), (77, .imul, 1, 0, 0, 0), (78, .iload_n 3, 1, 0, 0, 0), (79, .iadd, 1, 0, 0, 0), (80, .invokevirtual 253, 3, 14, 2, 1267), (83, .ldc2_w 129, 3, 1, 1, 1137), (86, .invokevirtual 131, 3, 15, 3, 1138), (89, .return_, 1, 0, 0, 0)]
def qt17 : List eRow := [(0, .aload_n 0, 1, 0, 0, 0), (1, .getfield 9, 3, 11, 0, 958), (4, .bipush 24, 2, 0, 0, 0), (6, .iload_n 1, 1, 0, 0, 0), (7, .imul, 1, 0, 0, 0), (8, .bipush 24, 2, 0, 0, 0), (10, .iadd, 1, 0, 0, 0), (11, .iconst 1, 1, 0, 0, 0), (12, .isub, 1, 0, 0, 0), (13, .laload, 1, 0, 0, 0), (14, .lconst 0, 1, 0, 0, 0), (15, .lcmp, 1, 0, 0, 0), (16, .ifCond .ge 7, 3, 23, 0, 0), (19, .iconst 1, 1, 0, 0, 0), (20, .goto 4, 3, 24, 0, 0), (23, .iconst 0, 1, 0, 0, 0), (24, .ireturn, 1, 1, 0, 0)]
def qt18 : List eRow := [(0, .iconst 0, 1, 0, 0, 0), (1, .istore_n 2, 1, 0, 0, 0), (2, .iload_n 2, 1, 0, 0, 0), (3, .bipush 24, 2, 0, 0, 0), (5, .if_icmp .ge 32, 3, 37, 0, 0), (8, .aload_n 0, 1, 0, 0, 0), (9, .getfield 9, 3, 11, 0, 958), (12, .bipush 24, 2, 0, 0, 0), (14, .iload_n 1, 1, 0, 0, 0), (15, .imul, 1, 0, 0, 0), (16, .iload_n 2, 1, 0, 0, 0), (17, .iadd, 1, 0, 0, 0), (18, .aload_n 0, 1, 0, 0, 0), (19, .getfield 9, 3, 11, 0, 958), (22, .bipush 24, 2, 0, 0, 0), (24, .iload_n 1, 1, 0, 0, 0), (25, .imul, 1, 0, 0, 0), (26, .iload_n 2, 1, 0, 0, 0), (27, .iadd, 1, 0, 0, 0), (28, .laload, 1, 0, 0, 0), (29, .lneg, 1, 0, 0, 0), (30, .lastore, 1, 0, 0, 0), (31, .iinc 2 1, 3, 0, 0, 0), (34, .goto (-32), 3, 2, 0, 0), (37, .aload_n 0, 1, 0, 0, 0), (38, .iload_n 1, 1, 0, 0, 0), (39, .invokevirtual 85, 3, 11, 1, 947), (42, .return_, 1, 0, 0, 0)]
def qt19 : List eRow := [(0, .aload_n 0, 1, 0, 0, 0), (1, .iload_n 1, 1, 0, 0, 0), (2, .invokevirtual 93, 3, 17, 1, 1122), (5, .istore_n 3, 1, 0, 0, 0), (6, .iload_n 3, 1, 0, 0, 0), (7, .ifCond .eq 8, 3, 15, 0, 0), (10, .aload_n 0, 1, 0, 0, 0), (11, .iload_n 1, 1, 0, 0, 0), (12, .invokevirtual 96, 3, 18, 1, 1130), (15, .iconst 0, 1, 0, 0, 0), (16, .istore 4, 2, 0, 0, 0), (18, .iload 4, 2, 0, 0, 0), (20, .bipush 24, 2, 0, 0, 0), (22, .if_icmp .ge 25, 3, 47, 0, 0), (25, .aload_n 2, 1, 0, 0, 0), (26, .iload 4, 2, 0, 0, 0), (28, .aload_n 0, 1, 0, 0, 0), (29, .getfield 9, 3, 11, 0, 958), (32, .bipush 24, 2, 0, 0, 0), (34, .iload_n 1, 1, 0, 0, 0), (35, .imul, 1, 0, 0, 0), (36, .iload 4, 2, 0, 0, 0), (38, .iadd, 1, 0, 0, 0), (39, .laload, 1, 0, 0, 0), (40, .lastore, 1, 0, 0, 0), (41, .iinc 4 1, 3, 0, 0, 0), (44, .goto (-26), 3, 18, 0, 0), (47, .iload_n 3, 1, 0, 0, 0), (48, .ifCond .eq 8, 3, 56, 0, 0), (51, .aload_n 0, 1, 0, 0, 0), (52, .iload_n 1, 1, 0, 0, 0), (53, .invokevirtual 96, 3, 18, 1, 1130), (56, .return_, 1, 0, 0, 0)]
def qt20 : List eRow := [(0, .iconst 0, 1, 0, 0, 0), (1, .istore_n 3, 1, 0, 0, 0), (2, .iload_n 3, 1, 0, 0, 0), (3, .bipush 24, 2, 0, 0, 0), (5, .if_icmp .ge 31, 3, 36, 0, 0), (8, .aload_n 0, 1, 0, 0, 0), (9, .getfield 9, 3, 11, 0, 958), (12, .bipush 24, 2, 0, 0, 0), (14, .iload_n 1, 1, 0, 0, 0), (15, .imul, 1, 0, 0, 0), (16, .iload_n 3, 1, 0, 0, 0), (17, .iadd, 1, 0, 0, 0), (18, .aload_n 0, 1, 0, 0, 0), (19, .getfield 9, 3, 11, 0, 958), (22, .bipush 24, 2, 0, 0, 0), (24, .iload_n 2, 1, 0, 0, 0), (25, .imul, 1, 0, 0, 0), (26, .iload_n 3, 1, 0, 0, 0), (27, .iadd, 1, 0, 0, 0), (28, .laload, 1, 0, 0, 0), (29, .lastore, 1, 0, 0, 0), (30, .iinc 3 1, 3, 0, 0, 0), (33, .goto (-31), 3, 2, 0, 0), (36, .return_, 1, 0, 0, 0)]
def qt21 : List eRow := [(0, .bipush 20, 2, 0, 0, 0), (2, .bipush 17, 2, 0, 0, 0), (4, .iload_n 1, 1, 0, 0, 0), (5, .imul, 1, 0, 0, 0), (6, .iadd, 1, 0, 0, 0), (7, .iload_n 2, 1, 0, 0, 0), (8, .iadd, 1, 0, 0, 0), (9, .ireturn, 1, 0, 0, 0)]
def qt22 : List eRow := [(0, .iload_n 2, 1, 0, 0, 0), (1, .iload_n 1, 1, 0, 0, 0), (2, .if_icmp .ne 13, 3, 15, 0, 0), (5, .aload_n 0, 1, 0, 0, 0), (6, .iconst 5, 1, 0, 0, 0), (7, .bipush 8, 2, 0, 0, 0), (9, .invokevirtual 115, 3, 20, 2, 1110), (12, .goto 43, 3, 55, 0, 0), (15, .aload_n 0, 1, 0, 0, 0), (16, .getfield 67, 3, 11, 22, 980), (19, .iload_n 2, 1, 0, 0, 0), (20, .iaload, 1, 0, 0, 0), (21, .iconst (-1), 1, 0, 0, 0), (22, .if_icmp .ne 12, 3, 34, 0, 0), (25, .aload_n 0, 1, 0, 0, 0), (26, .iconst 5, 1, 0, 0, 0), (27, .lconst 0, 1, 0, 0, 0), (28, .invokevirtual 70, 3, 12, 2, 943), (31, .goto 24, 3, 55, 0, 0), (34, .aload_n 0, 1, 0, 0, 0), (35, .iconst 5, 1, 0, 0, 0), (36, .aload_n 0, 1, 0, 0, 0), (37, .aload_n 0, 1, 0, 0, 0), (38, .getfield 67, 3, 11, 22, 980), (41, .iload_n 2, 1, 0, 0, 0), (42, .iaload, 1, 0, 0, 0), (43, .iload_n 1, 1, 0, 0, 0), (44, .invokevirtual 170, 3, 21, 2, 1094), (47, .invokevirtual 115, 3, 20, 2, 1110), (50, .aload_n 0, 1, 0, 0, 0), (51, .iconst 5, 1, 0, 0, 0), (52, .invokevirtual 96, 3, 18, 1, 1130), (55, .return_, 1, 0, 0, 0)]
def qt23 : List eRow := [(0, .iconst 0, 1, 0, 0, 0), (1, .istore_n 1, 1, 0, 0, 0), (2, .iconst 0, 1, 0, 0, 0), (3, .istore_n 2, 1, 0, 0, 0), (4, .iload_n 2, 1, 0, 0, 0), (5, .aload_n 0, 1, 0, 0, 0), (6, .getfield 23, 3, 11, 4, 962), (9, .if_icmp .ge 26, 3, 35, 0, 0), (12, .iload_n 1, 1, 0, 0, 0), (13, .aload_n 0, 1, 0, 0, 0), (14, .getfield 33, 3, 11, 7, 965), (17, .iload_n 2, 1, 0, 0, 0), (18, .baload, 1, 0, 0, 0), (19, .ifCond .eq 7, 3, 26, 0, 0), (22, .iconst 0, 1, 0, 0, 0), (23, .goto 4, 3, 27, 0, 0), (26, .iconst 1, 1, 0, 0, 0), (27, .iadd, 1, 0, 0, 0), (28, .istore_n 1, 1, 0, 0, 0), (29, .iinc 2 1, 3, 0, 0, 0), (32, .goto (-28), 3, 4, 0, 0), (35, .iload_n 1, 1, 0, 0, 0), (36, .ireturn, 1, 0, 0, 0)]
def qt24 : List eRow := [(0, .aload_n 0, 1, 0, 0, 0), (1, .getfield 43, 3, 11, 11, 969), (4, .iload_n 1, 1, 0, 0, 0), (5, .iaload, 1, 0, 0, 0), (6, .istore 4, 2, 0, 0, 0), (8, .aload_n 0, 1, 0, 0, 0), (9, .getfield 46, 3, 11, 12, 970), (12, .iload_n 1, 1, 0, 0, 0), (13, .iaload, 1, 0, 0, 0), (14, .istore 5, 2, 0, 0, 0), (16, .iload_n 3, 1, 0, 0, 0), (17, .ifCond .ne 21, 3, 38, 0, 0), (20, .aload_n 0, 1, 0, 0, 0), (21, .getfield 27, 3, 11, 5, 963), (24, .iload 5, 2, 0, 0, 0), (26, .iaload, 1, 0, 0, 0), (27, .aload_n 0, 1, 0, 0, 0), (28, .getfield 27, 3, 11, 5, 963), (31, .iload 4, 2, 0, 0, 0), (33, .iaload, 1, 0, 0, 0), (34, .isub, 1, 0, 0, 0), (35, .goto 18, 3, 53, 0, 0), (38, .aload_n 0, 1, 0, 0, 0), (39, .getfield 30, 3, 11, 6, 964), (42, .iload 5, 2, 0, 0, 0), (44, .iaload, 1, 0, 0, 0), (45, .aload_n 0, 1, 0, 0, 0), (46, .getfield 30, 3, 11, 6, 964), (49, .iload 4, 2, 0, 0, 0), (51, .iaload, 1, 0, 0, 0), (52, .isub, 1, 0, 0, 0), (53, .istore 6, 2, 0, 0, 0), (55, .iload_n 2, 1, 0, 0, 0), (56, .iload 4, 2, 0, 0, 0), (58, .if_icmp .ne 8, 3, 66, 0, 0), (61, .iload 6, 2, 0, 0, 0), (63, .goto 16, 3, 79, 0, 0), (66, .iload_n 2, 1, 0, 0, 0), (67, .iload 5, 2, 0, 0, 0), (69, .if_icmp .ne 9, 3, 78, 0, 0), (72, .iload 6, 2, 0, 0, 0), (74, .ineg, 1, 0, 0, 0), (75, .goto 4, 3, 79, 0, 0), (78, .iconst 0, 1, 0, 0, 0), (79, .ireturn, 1, 0, 0, 0)]
def qt25 : List eRow := [(0, .iconst 0, 1, 0, 0, 0), (1, .istore_n 2, 1, 0, 0, 0), (2, .iload_n 2, 1, 0, 0, 0), (3, .bipush 24, 2, 0, 0, 0), (5, .if_icmp .ge 27, 3, 32, 0, 0), (8, .aload_n 0, 1, 0, 0, 0), (9, .getfield 9, 3, 11, 0, 958), (12, .bipush 24, 2, 0, 0, 0), (14, .iload_n 1, 1, 0, 0, 0), (15, .imul, 1, 0, 0, 0), (16, .iload_n 2, 1, 0, 0, 0), (17, .iadd, 1, 0, 0, 0), (18, .laload, 1, 0, 0, 0), (19, .lconst 0, 1, 0, 0, 0), (20, .lcmp, 1, 0, 0, 0), (21, .ifCond .eq 5, 3, 26, 0, 0), (24, .iconst 0, 1, 0, 0, 0), (25, .ireturn, 1, 1, 0, 0), (26, .iinc 2 1, 3, 0, 0, 0), (29, .goto (-27), 3, 2, 0, 0), (32, .iconst 1, 1, 0, 0, 0), (33, .ireturn, 1, 1, 0, 0)]
def qt26 : List eRow := [(0, .bipush 24, 2, 0, 0, 0), (2, .istore_n 1, 1, 0, 0, 0), (3, .iload_n 1, 1, 0, 0, 0), (4, .ifCond .le 19, 3, 23, 0, 0), (7, .aload_n 0, 1, 0, 0, 0), (8, .iload_n 1, 1, 0, 0, 0), (9, .iconst 1, 1, 0, 0, 0), (10, .isub, 1, 0, 0, 0), (11, .laload, 1, 0, 0, 0), (12, .lconst 0, 1, 0, 0, 0), (13, .lcmp, 1, 0, 0, 0), (14, .ifCond .ne 9, 3, 23, 0, 0), (17, .iinc 1 (-1), 3, 0, 0, 0), (20, .goto (-17), 3, 3, 0, 0), (23, .iload_n 1, 1, 0, 0, 0), (24, .ireturn, 1, 0, 0, 0)]
def qt27 : List eRow := [(0, .aload_n 0, 1, 0, 0, 0), (1, .iload_n 2, 1, 0, 0, 0), (2, .invokevirtual 93, 3, 17, 1, 1122), (5, .aload_n 0, 1, 0, 0, 0), (6, .iload_n 3, 1, 0, 0, 0), (7, .invokevirtual 93, 3, 17, 1, 1122), (10, .if_icmp .eq 7, 3, 17, 0, 0), (13, .iconst 1, 1, 0, 0, 0), (14, .goto 4, 3, 18, 0, 0), (17, .iconst 0, 1, 0, 0, 0), (18, .istore 4, 2, 0, 0, 0), (20, .aload_n 0, 1, 0, 0, 0), (21, .iload_n 2, 1, 0, 0, 0), (22, .aload_n 0, 1, 0, 0, 0), (23, .getfield 55, 3, 11, 15, 973), (26, .invokevirtual 99, 3, 19, 2, 1126), (29, .aload_n 0, 1, 0, 0, 0), (30, .iload_n 3, 1, 0, 0, 0), (31, .aload_n 0, 1, 0, 0, 0), (32, .getfield 58, 3, 11, 16, 974), (35, .invokevirtual 99, 3, 19, 2, 1126), (38, .iconst 0, 1, 0, 0, 0), (39, .istore 5, 2, 0, 0, 0), (41, .iload 5, 2, 0, 0, 0), (43, .bipush 24, 2, 0, 0, 0), (45, .if_icmp .ge 17, 3, 62, 0, 0), (48, .aload_n 0, 1, 0, 0, 0), (49, .getfield 61, 3, 11, 17, 975), (52, .iload 5, 2, 0, 0, 0), (54, .lconst 0, 1, 0, 0, 0), (55, .lastore, 1, 0, 0, 0), (56, .iinc 5 1, 3, 0, 0, 0), (59, .goto (-18), 3, 41, 0, 0), (62, .aload_n 0, 1, 0, 0, 0), (63, .getfield 55, 3, 11, 15, 973), (66, .invokestatic 103, 3, 26, 1, 1134), (69, .istore 5, 2, 0, 0, 0), (71, .aload_n 0, 1, 0, 0, 0), (72, .getfield 58, 3, 11, 16, 974), (75, .invokestatic 103, 3, 26, 1, 1134), (78, .istore 6, 2, 0, 0, 0), (80, .iconst 0, 1, 0, 0, 0), (81, .istore 7, 2, 0, 0, 0), (83, .iload 7, 2, 0, 0, 0), (85, .iload 5, 2, 0, 0, 0), (87, .if_icmp .ge 100, 3, 187, 0, 0), (90, .lconst 0, 1, 0, 0, 0), (91, .lstore 8, 2, 0, 0, 0), (93, .iconst 0, 1, 0, 0, 0), (94, .istore 10, 2, 0, 0, 0), (96, .iload 7, 2, 0, 0, 0), (98, .iload 10, 2, 0, 0, 0), (100, .iadd, 1, 0, 0, 0), (101, .bipush 24, 2, 0, 0, 0), (103, .if_icmp .ge 78, 3, 181, 0, 0), (106, .iload 10, 2, 0, 0, 0), (108, .iload 6, 2, 0, 0, 0), (110, .if_icmp .lt 10, 3, 120, 0, 0), (113, .lload 8, 2, 0, 0, 0), (115, .lconst 0, 1, 0, 0, 0), (116, .lcmp, 1, 0, 0, 0), (117, .ifCond .le 64, 3, 181, 0, 0), (120, .aload_n 0, 1, 0, 0, 0), (121, .getfield 61, 3, 11, 17, 975), (124, .iload 7, 2, 0, 0, 0), (126, .iload 10, 2, 0, 0, 0), (128, .iadd, 1, 0, 0, 0), (129, .laload, 1, 0, 0, 0), (130, .aload_n 0, 1, 0, 0, 0), (131, .getfield 55, 3, 11, 15, 973), (134, .iload 7, 2, 0, 0, 0), (136, .laload, 1, 0, 0, 0), (137, .aload_n 0, 1, 0, 0, 0), (138, .getfield 58, 3, 11, 16, 974), (141, .iload 10, 2, 0, 0, 0), (143, .laload, 1, 0, 0, 0), (144, .lmul, 1, 0, 0, 0), (145, .ladd, 1, 0, 0, 0), (146, .lload 8, 2, 0, 0, 0), (148, .ladd, 1, 0, 0, 0), (149, .lstore 11, 2, 0, 0, 0), (151, .aload_n 0, 1, 0, 0, 0), (152, .getfield 61, 3, 11, 17, 975), (155, .iload 7, 2, 0, 0, 0), (157, .iload 10, 2, 0, 0, 0), (159, .iadd, 1, 0, 0, 0), (160, .lload 11, 2, 0, 0, 0), (162, .ldc2_w 74, 3, 1000000000, 0, 951), (165, .lrem, 1, 0, 0, 0), (166, .lastore, 1, 0, 0, 0), (167, .lload 11, 2, 0, 0, 0), (169, .ldc2_w 74, 3, 1000000000, 0, 951), (172, .ldiv, 1, 0, 0, 0), (173, .lstore 8, 2, 0, 0, 0), (175, .iinc 10 1, 3, 0, 0, 0), (178, .goto (-82), 3, 96, 0, 0), (181, .iinc 7 1, 3, 0, 0, 0), (184, .goto (-101), 3, 83, 0, 0), (187, .iconst 0, 1, 0, 0, 0), (188, .istore 7, 2, 0, 0, 0), (190, .iload 7, 2, 0, 0, 0), (192, .bipush 24, 2, 0, 0, 0), (194, .if_icmp .ge 28, 3, 222, 0, 0), (197, .aload_n 0, 1, 0, 0, 0), (198, .getfield 9, 3, 11, 0, 958), (201, .bipush 24, 2, 0, 0, 0), (203, .iload_n 1, 1, 0, 0, 0), (204, .imul, 1, 0, 0, 0), (205, .iload 7, 2, 0, 0, 0), (207, .iadd, 1, 0, 0, 0), (208, .aload_n 0, 1, 0, 0, 0), (209, .getfield 61, 3, 11, 17, 975), (212, .iload 7, 2, 0, 0, 0), (214, .laload, 1, 0, 0, 0), (215, .lastore, 1, 0, 0, 0), (216, .iinc 7 1, 3, 0, 0, 0), (219, .goto (-29), 3, 190, 0, 0), (222, .iload 4, 2, 0, 0, 0), (224, .ifCond .eq 8, 3, 232, 0, 0), (227, .aload_n 0, 1, 0, 0, 0), (228, .iload_n 1, 1, 0, 0, 0), (229, .invokevirtual 96, 3, 18, 1, 1130), (232, .return_, 1, 0, 0, 0)]
def qt28 : List eRow := [(0, .lconst 0, 1, 0, 0, 0), (1, .lstore 5, 2, 0, 0, 0), (3, .iconst 0, 1, 0, 0, 0), (4, .istore 7, 2, 0, 0, 0), (6, .iload 7, 2, 0, 0, 0), (8, .iload_n 3, 1, 0, 0, 0), (9, .iadd, 1, 0, 0, 0), (10, .bipush 24, 2, 0, 0, 0), (12, .if_icmp .ge 58, 3, 70, 0, 0), (15, .iload 7, 2, 0, 0, 0), (17, .iload 4, 2, 0, 0, 0), (19, .if_icmp .lt 10, 3, 29, 0, 0), (22, .lload 5, 2, 0, 0, 0), (24, .lconst 0, 1, 0, 0, 0), (25, .lcmp, 1, 0, 0, 0), (26, .ifCond .eq 44, 3, 70, 0, 0), (29, .aload_n 0, 1, 0, 0, 0), (30, .getfield 55, 3, 11, 15, 973), (33, .iload 7, 2, 0, 0, 0), (35, .iload_n 3, 1, 0, 0, 0), (36, .iadd, 1, 0, 0, 0), (37, .laload, 1, 0, 0, 0), (38, .lload_n 1, 1, 0, 0, 0), (39, .aload_n 0, 1, 0, 0, 0), (40, .getfield 58, 3, 11, 16, 974), (43, .iload 7, 2, 0, 0, 0), (45, .laload, 1, 0, 0, 0), (46, .lmul, 1, 0, 0, 0), (47, .lsub, 1, 0, 0, 0), (48, .lload 5, 2, 0, 0, 0), (50, .lsub, 1, 0, 0, 0), (51, .lstore 8, 2, 0, 0, 0), (53, .lload 8, 2, 0, 0, 0), (55, .ldc2_w 74, 3, 1000000000, 0, 951), (58, .invokestatic 82, 3, 6, 2, 955), (61, .lneg, 1, 0, 0, 0), (62, .lstore 5, 2, 0, 0, 0), (64, .iinc 7 1, 3, 0, 0, 0), (67, .goto (-61), 3, 6, 0, 0), (70, .lload 5, 2, 0, 0, 0), (72, .lconst 0, 1, 0, 0, 0), (73, .lcmp, 1, 0, 0, 0), (74, .ifCond .ne 7, 3, 81, 0, 0), (77, .iconst 1, 1, 0, 0, 0), (78, .goto 4, 3, 82, 0, 0), (81, .iconst 0, 1, 0, 0, 0), (82, .ireturn, 1, 1, 0, 0)]
def qt29 : List eRow := [(0, .aload_n 0, 1, 0, 0, 0), (1, .iload_n 1, 1, 0, 0, 0), (2, .invokevirtual 93, 3, 17, 1, 1122), (5, .aload_n 0, 1, 0, 0, 0), (6, .iload_n 2, 1, 0, 0, 0), (7, .invokevirtual 93, 3, 17, 1, 1122), (10, .if_icmp .eq 15, 3, 25, 0, 0), (13, .aload_n 0, 1, 0, 0, 0), (14, .iload_n 1, 1, 0, 0, 0), (15, .invokevirtual 89, 3, 25, 1, 1106), (18, .ifCond .ne 7, 3, 25, 0, 0), (21, .iconst 1, 1, 0, 0, 0), (22, .goto 4, 3, 26, 0, 0), (25, .iconst 0, 1, 0, 0, 0), (26, .istore_n 3, 1, 0, 0, 0), (27, .aload_n 0, 1, 0, 0, 0), (28, .iload_n 1, 1, 0, 0, 0), (29, .aload_n 0, 1, 0, 0, 0), (30, .getfield 55, 3, 11, 15, 973), (33, .invokevirtual 99, 3, 19, 2, 1126), (36, .aload_n 0, 1, 0, 0, 0), (37, .iload_n 2, 1, 0, 0, 0), (38, .aload_n 0, 1, 0, 0, 0), (39, .getfield 58, 3, 11, 16, 974), (42, .invokevirtual 99, 3, 19, 2, 1126), (45, .aload_n 0, 1, 0, 0, 0), (46, .getfield 58, 3, 11, 16, 974), (49, .invokestatic 103, 3, 26, 1, 1134), (52, .istore 4, 2, 0, 0, 0), (54, .aload_n 0, 1, 0, 0, 0), (55, .getfield 55, 3, 11, 15, 973), (58, .invokestatic 103, 3, 26, 1, 1134), (61, .istore 5, 2, 0, 0, 0), (63, .iconst 0, 1, 0, 0, 0), (64, .istore 6, 2, 0, 0, 0), (66, .iload 6, 2, 0, 0, 0), (68, .bipush 24, 2, 0, 0, 0), (70, .if_icmp .ge 17, 3, 87, 0, 0), (73, .aload_n 0, 1, 0, 0, 0), (74, .getfield 61, 3, 11, 17, 975), (77, .iload 6, 2, 0, 0, 0), (79, .lconst 0, 1, 0, 0, 0), (80, .lastore, 1, 0, 0, 0), (81, .iinc 6 1, 3, 0, 0, 0), (84, .goto (-18), 3, 66, 0, 0), (87, .iload 5, 2, 0, 0, 0), (89, .iload 4, 2, 0, 0, 0), (91, .isub, 1, 0, 0, 0), (92, .istore 6, 2, 0, 0, 0), (94, .iload 6, 2, 0, 0, 0), (96, .ifCond .lt 167, 3, 263, 0, 0), (99, .lconst 0, 1, 0, 0, 0), (100, .lstore 7, 2, 0, 0, 0), (102, .ldc2_w 107, 3, 999999999, 0, 1146), (105, .lstore 9, 2, 0, 0, 0), (107, .lload 7, 2, 0, 0, 0), (109, .lload 9, 2, 0, 0, 0), (111, .lcmp, 1, 0, 0, 0), (112, .ifCond .ge 45, 3, 157, 0, 0), (115, .lload 7, 2, 0, 0, 0), (117, .lload 9, 2, 0, 0, 0), (119, .ladd, 1, 0, 0, 0), (120, .lconst 1, 1, 0, 0, 0), (121, .ladd, 1, 0, 0, 0), (122, .ldc2_w 109, 3, 2, 0, 1058), (125, .ldiv, 1, 0, 0, 0), (126, .lstore 11, 2, 0, 0, 0), (128, .aload_n 0, 1, 0, 0, 0), (129, .lload 11, 2, 0, 0, 0), (131, .iload 6, 2, 0, 0, 0), (133, .iload 4, 2, 0, 0, 0), (135, .invokevirtual 111, 3, 28, 3, 1147), (138, .ifCond .eq 10, 3, 148, 0, 0), (141, .lload 11, 2, 0, 0, 0), (143, .lstore 7, 2, 0, 0, 0), (145, .goto 9, 3, 154, 0, 0), (148, .lload 11, 2, 0, 0, 0), (150, .lconst 1, 1, 0, 0, 0), (151, .lsub, 1, 0, 0, 0), (152, .lstore 9, 2, 0, 0, 0), (154, .goto (-47), 3, 107, 0, 0), (157, .aload_n 0, 1, 0, 0, 0), (158, .getfield 61, 3, 11, 17, 975), (161, .iload 6, 2, 0, 0, 0), (163, .lload 7, 2, 0, 0, 0), (165, .lastore, 1, 0, 0, 0), (166, .lconst 0, 1, 0, 0, 0), (167, .lstore 11, 2, 0, 0, 0), (169, .iconst 0, 1, 0, 0, 0), (170, .istore 13, 2, 0, 0, 0), (172, .iload 13, 2, 0, 0, 0), (174, .iload 6, 2, 0, 0, 0), (176, .iadd, 1, 0, 0, 0), (177, .bipush 24, 2, 0, 0, 0), (179, .if_icmp .ge 78, 3, 257, 0, 0), (182, .iload 13, 2, 0, 0, 0), (184, .iload 4, 2, 0, 0, 0), (186, .if_icmp .lt 10, 3, 196, 0, 0), (189, .lload 11, 2, 0, 0, 0), (191, .lconst 0, 1, 0, 0, 0), (192, .lcmp, 1, 0, 0, 0), (193, .ifCond .eq 64, 3, 257, 0, 0), (196, .aload_n 0, 1, 0, 0, 0), (197, .getfield 55, 3, 11, 15, 973), (200, .iload 13, 2, 0, 0, 0), (202, .iload 6, 2, 0, 0, 0), (204, .iadd, 1, 0, 0, 0), (205, .laload, 1, 0, 0, 0), (206, .lload 7, 2, 0, 0, 0), (208, .aload_n 0, 1, 0, 0, 0), (209, .getfield 58, 3, 11, 16, 974), (212, .iload 13, 2, 0, 0, 0), (214, .laload, 1, 0, 0, 0), (215, .lmul, 1, 0, 0, 0), (216, .lsub, 1, 0, 0, 0), (217, .lload 11, 2, 0, 0, 0), (219, .lsub, 1, 0, 0, 0), (220, .lstore 14, 2, 0, 0, 0), (222, .lload 14, 2, 0, 0, 0), (224, .ldc2_w 74, 3, 1000000000, 0, 951), (227, .invokestatic 82, 3, 6, 2, 955), (230, .lneg, 1, 0, 0, 0), (231, .lstore 11, 2, 0, 0, 0), (233, .aload_n 0, 1, 0, 0, 0), (234, .getfield 55, 3, 11, 15, 973), (237, .iload 13, 2, 0, 0, 0), (239, .iload 6, 2, 0, 0, 0), (241, .iadd, 1, 0, 0, 0), (242, .lload 14, 2, 0, 0, 0), (244, .ldc2_w 74, 3, 1000000000, 0, 951), (247, .invokestatic 76, 3, 7, 2, 952), (250, .lastore, 1, 0, 0, 0), (251, .iinc 13 1, 3, 0, 0, 0), (254, .goto (-82), 3, 172, 0, 0), (257, .iinc 6 (-1), 3, 0, 0, 0), (260, .goto (-166), 3, 94, 0, 0), (263, .iconst 0, 1, 0, 0, 0), (264, .istore 6, 2, 0, 0, 0), (266, .iload 6, 2, 0, 0, 0), (268, .bipush 24, 2, 0, 0, 0), (270, .if_icmp .ge 28, 3, 298, 0, 0), (273, .aload_n 0, 1, 0, 0, 0), (274, .getfield 9, 3, 11, 0, 958), (277, .bipush 24, 2, 0, 0, 0), (279, .iload_n 1, 1, 0, 0, 0), (280, .imul, 1, 0, 0, 0), (281, .iload 6, 2, 0, 0, 0), (283, .iadd, 1, 0, 0, 0), (284, .aload_n 0, 1, 0, 0, 0), (285, .getfield 61, 3, 11, 17, 975), (288, .iload 6, 2, 0, 0, 0), (290, .laload, 1, 0, 0, 0), (291, .lastore, 1, 0, 0, 0), (292, .iinc 6 1, 3, 0, 0, 0), (295, .goto (-29), 3, 266, 0, 0), (298, .iload_n 3, 1, 0, 0, 0), (299, .ifCond .eq 8, 3, 307, 0, 0), (302, .aload_n 0, 1, 0, 0, 0), (303, .iload_n 1, 1, 0, 0, 0), (304, .invokevirtual 96, 3, 18, 1, 1130), (307, .return_, 1, 0, 0, 0)]
def qt30 : List eRow := [(0, .aload_n 0, 1, 0, 0, 0), (1, .bipush 10, 2, 0, 0, 0), (3, .aload_n 0, 1, 0, 0, 0), (4, .iload_n 1, 1, 0, 0, 0), (5, .iload_n 2, 1, 0, 0, 0), (6, .invokevirtual 170, 3, 21, 2, 1094), (9, .invokevirtual 115, 3, 20, 2, 1110), (12, .iconst 0, 1, 0, 0, 0), (13, .istore_n 3, 1, 0, 0, 0), (14, .iload_n 3, 1, 0, 0, 0), (15, .aload_n 0, 1, 0, 0, 0), (16, .getfield 174, 3, 11, 20, 978), (19, .if_icmp .ge 78, 3, 97, 0, 0), (22, .aload_n 0, 1, 0, 0, 0), (23, .bipush 6, 2, 0, 0, 0), (25, .aload_n 0, 1, 0, 0, 0), (26, .iload_n 1, 1, 0, 0, 0), (27, .iload_n 3, 1, 0, 0, 0), (28, .invokevirtual 170, 3, 21, 2, 1094), (31, .aload_n 0, 1, 0, 0, 0), (32, .aload_n 0, 1, 0, 0, 0), (33, .getfield 164, 3, 11, 21, 979), (36, .iload_n 2, 1, 0, 0, 0), (37, .invokevirtual 170, 3, 21, 2, 1094), (40, .invokevirtual 180, 3, 27, 3, 1118), (43, .aload_n 0, 1, 0, 0, 0), (44, .bipush 7, 2, 0, 0, 0), (46, .bipush 10, 2, 0, 0, 0), (48, .aload_n 0, 1, 0, 0, 0), (49, .aload_n 0, 1, 0, 0, 0), (50, .getfield 164, 3, 11, 21, 979), (53, .iload_n 3, 1, 0, 0, 0), (54, .invokevirtual 170, 3, 21, 2, 1094), (57, .invokevirtual 180, 3, 27, 3, 1118), (60, .aload_n 0, 1, 0, 0, 0), (61, .bipush 6, 2, 0, 0, 0), (63, .bipush 7, 2, 0, 0, 0), (65, .ldc2_w 129, 3, 1, 1, 1137), (68, .invokevirtual 131, 3, 15, 3, 1138), (71, .aload_n 0, 1, 0, 0, 0), (72, .bipush 6, 2, 0, 0, 0), (74, .bipush 8, 2, 0, 0, 0), (76, .invokevirtual 135, 3, 29, 2, 1142), (79, .aload_n 0, 1, 0, 0, 0), (80, .aload_n 0, 1, 0, 0, 0), (81, .iload_n 1, 1, 0, 0, 0), (82, .iload_n 3, 1, 0, 0, 0), (83, .invokevirtual 170, 3, 21, 2, 1094), (86, .bipush 6, 2, 0, 0, 0), (88, .invokevirtual 115, 3, 20, 2, 1110), (91, .iinc 3 1, 3, 0, 0, 0), (94, .goto (-80), 3, 14, 0, 0), (97, .return_, 1, 0, 0, 0)]
def qt31 : List eRow := [(0, .aload_n 0, 1, 0, 0, 0), (1, .iconst 0, 1, 0, 0, 0), (2, .putfield 164, 3, 11, 21, 979), (5, .aload_n 0, 1, 0, 0, 0), (6, .bipush 8, 2, 0, 0, 0), (8, .lconst 1, 1, 0, 0, 0), (9, .invokevirtual 70, 3, 12, 2, 943), (12, .iconst 0, 1, 0, 0, 0), (13, .istore_n 2, 1, 0, 0, 0), (14, .iload_n 2, 1, 0, 0, 0), (15, .iload_n 1, 1, 0, 0, 0), (16, .if_icmp .ge 204, 3, 220, 0, 0), (19, .aload_n 0, 1, 0, 0, 0), (20, .getfield 67, 3, 11, 22, 980), (23, .iload_n 2, 1, 0, 0, 0), (24, .iconst (-1), 1, 0, 0, 0), (25, .iastore, 1, 0, 0, 0), (26, .aload_n 0, 1, 0, 0, 0), (27, .getfield 164, 3, 11, 21, 979), (30, .istore_n 3, 1, 0, 0, 0), (31, .iload_n 3, 1, 0, 0, 0), (32, .aload_n 0, 1, 0, 0, 0), (33, .getfield 167, 3, 11, 19, 977), (36, .if_icmp .ge 22, 3, 58, 0, 0), (39, .aload_n 0, 1, 0, 0, 0), (40, .aload_n 0, 1, 0, 0, 0), (41, .iload_n 3, 1, 0, 0, 0), (42, .iload_n 2, 1, 0, 0, 0), (43, .invokevirtual 170, 3, 21, 2, 1094), (46, .invokevirtual 89, 3, 25, 1, 1106), (49, .ifCond .eq 9, 3, 58, 0, 0), (52, .iinc 3 1, 3, 0, 0, 0), (55, .goto (-24), 3, 31, 0, 0), (58, .iload_n 3, 1, 0, 0, 0), (59, .aload_n 0, 1, 0, 0, 0), (60, .getfield 167, 3, 11, 19, 977), (63, .if_icmp .ne 6, 3, 69, 0, 0), (66, .goto 148, 3, 214, 0, 0), (69, .iconst 0, 1, 0, 0, 0), (70, .istore 4, 2, 0, 0, 0), (72, .iload 4, 2, 0, 0, 0), (74, .aload_n 0, 1, 0, 0, 0), (75, .getfield 174, 3, 11, 20, 978), (78, .if_icmp .ge 67, 3, 145, 0, 0), (81, .iload_n 3, 1, 0, 0, 0), (82, .aload_n 0, 1, 0, 0, 0), (83, .getfield 164, 3, 11, 21, 979), (86, .if_icmp .eq 59, 3, 145, 0, 0), (89, .aload_n 0, 1, 0, 0, 0), (90, .bipush 9, 2, 0, 0, 0), (92, .aload_n 0, 1, 0, 0, 0), (93, .iload_n 3, 1, 0, 0, 0), (94, .iload 4, 2, 0, 0, 0), (96, .invokevirtual 170, 3, 21, 2, 1094), (99, .invokevirtual 115, 3, 20, 2, 1110), (102, .aload_n 0, 1, 0, 0, 0), (103, .aload_n 0, 1, 0, 0, 0), (104, .iload_n 3, 1, 0, 0, 0), (105, .iload 4, 2, 0, 0, 0), (107, .invokevirtual 170, 3, 21, 2, 1094), (110, .aload_n 0, 1, 0, 0, 0), (111, .aload_n 0, 1, 0, 0, 0), (112, .getfield 164, 3, 11, 21, 979), (115, .iload 4, 2, 0, 0, 0), (117, .invokevirtual 170, 3, 21, 2, 1094), (120, .invokevirtual 115, 3, 20, 2, 1110), (123, .aload_n 0, 1, 0, 0, 0), (124, .aload_n 0, 1, 0, 0, 0), (125, .aload_n 0, 1, 0, 0, 0), (126, .getfield 164, 3, 11, 21, 979), (129, .iload 4, 2, 0, 0, 0), (131, .invokevirtual 170, 3, 21, 2, 1094), (134, .bipush 9, 2, 0, 0, 0), (136, .invokevirtual 115, 3, 20, 2, 1110), (139, .iinc 4 1, 3, 0, 0, 0), (142, .goto (-70), 3, 72, 0, 0), (145, .iconst 0, 1, 0, 0, 0), (146, .istore 4, 2, 0, 0, 0), (148, .iload 4, 2, 0, 0, 0), (150, .aload_n 0, 1, 0, 0, 0), (151, .getfield 167, 3, 11, 19, 977), (154, .if_icmp .ge 25, 3, 179, 0, 0), (157, .iload 4, 2, 0, 0, 0), (159, .aload_n 0, 1, 0, 0, 0), (160, .getfield 164, 3, 11, 21, 979), (163, .if_icmp .eq 10, 3, 173, 0, 0), (166, .aload_n 0, 1, 0, 0, 0), (167, .iload 4, 2, 0, 0, 0), (169, .iload_n 2, 1, 0, 0, 0), (170, .invokevirtual 177, 3, 30, 2, 1114), (173, .iinc 4 1, 3, 0, 0, 0), (176, .goto (-28), 3, 148, 0, 0), (179, .aload_n 0, 1, 0, 0, 0), (180, .bipush 8, 2, 0, 0, 0), (182, .aload_n 0, 1, 0, 0, 0), (183, .aload_n 0, 1, 0, 0, 0), (184, .getfield 164, 3, 11, 21, 979), (187, .iload_n 2, 1, 0, 0, 0), (188, .invokevirtual 170, 3, 21, 2, 1094), (191, .invokevirtual 115, 3, 20, 2, 1110), (194, .aload_n 0, 1, 0, 0, 0), (195, .getfield 67, 3, 11, 22, 980), (198, .iload_n 2, 1, 0, 0, 0), (199, .aload_n 0, 1, 0, 0, 0), (200, .getfield 164, 3, 11, 21, 979), (203, .iastore, 1, 0, 0, 0), (204, .aload_n 0, 1, 0, 0, 0), (205, .dup, 1, 0, 0, 0), (206, .getfield 164, 3, 11, 21, 979), (209, .iconst 1, 1, 0, 0, 0), (210, .iadd, 1, 0, 0, 0), (211, .putfield 164, 3, 11, 21, 979), (214, .iinc 2 1, 3, 0, 0, 0), (217, .goto (-203), 3, 14, 0, 0), (220, .return_, 1, 0, 0, 0)]
def qt32 : List eRow := [(0, .aload_n 0, 1, 0, 0, 0), (1, .iconst 2, 1, 0, 0, 0), (2, .aload_n 0, 1, 0, 0, 0), (3, .invokevirtual 184, 3, 23, 0, 1086), (6, .imul, 1, 0, 0, 0), (7, .putfield 167, 3, 11, 19, 977), (10, .aload_n 0, 1, 0, 0, 0), (11, .aload_n 0, 1, 0, 0, 0), (12, .getfield 152, 3, 11, 10, 968), (15, .iconst 1, 1, 0, 0, 0), (16, .iadd, 1, 0, 0, 0), (17, .putfield 174, 3, 11, 20, 978), (20, .iconst 0, 1, 0, 0, 0), (21, .istore_n 1, 1, 0, 0, 0), (22, .iload_n 1, 1, 0, 0, 0), (23, .aload_n 0, 1, 0, 0, 0), (24, .getfield 23, 3, 11, 4, 962), (27, .if_icmp .ge 115, 3, 142, 0, 0), (30, .iconst 0, 1, 0, 0, 0), (31, .istore_n 2, 1, 0, 0, 0), (32, .iload_n 2, 1, 0, 0, 0), (33, .iconst 2, 1, 0, 0, 0), (34, .if_icmp .ge 102, 3, 136, 0, 0), (37, .aload_n 0, 1, 0, 0, 0), (38, .getfield 33, 3, 11, 7, 965), (41, .iload_n 1, 1, 0, 0, 0), (42, .baload, 1, 0, 0, 0), (43, .ifCond .ne 93, 3, 136, 0, 0), (46, .iconst 2, 1, 0, 0, 0), (47, .aload_n 0, 1, 0, 0, 0), (48, .iload_n 1, 1, 0, 0, 0), (49, .invokevirtual 188, 3, 13, 1, 1090), (52, .imul, 1, 0, 0, 0), (53, .iload_n 2, 1, 0, 0, 0), (54, .iadd, 1, 0, 0, 0), (55, .istore_n 3, 1, 0, 0, 0), (56, .iconst 0, 1, 0, 0, 0), (57, .istore 4, 2, 0, 0, 0), (59, .iload 4, 2, 0, 0, 0), (61, .aload_n 0, 1, 0, 0, 0), (62, .getfield 152, 3, 11, 10, 968), (65, .if_icmp .ge 29, 3, 94, 0, 0), (68, .aload_n 0, 1, 0, 0, 0), (69, .aload_n 0, 1, 0, 0, 0), (70, .iload_n 3, 1, 0, 0, 0), (71, .iload 4, 2, 0, 0, 0), (73, .invokevirtual 170, 3, 21, 2, 1094), (76, .aload_n 0, 1, 0, 0, 0), (77, .iload 4, 2, 0, 0, 0), (79, .iload_n 1, 1, 0, 0, 0), (80, .iload_n 2, 1, 0, 0, 0), (81, .invokevirtual 192, 3, 24, 3, 1098), (84, .i2l, 1, 0, 0, 0), (85, .invokevirtual 70, 3, 12, 2, 943), (88, .iinc 4 1, 3, 0, 0, 0), (91, .goto (-32), 3, 59, 0, 0), (94, .aload_n 0, 1, 0, 0, 0), (95, .aload_n 0, 1, 0, 0, 0), (96, .iload_n 3, 1, 0, 0, 0), (97, .aload_n 0, 1, 0, 0, 0), (98, .getfield 152, 3, 11, 10, 968), (101, .invokevirtual 170, 3, 21, 2, 1094), (104, .iload_n 2, 1, 0, 0, 0), (105, .ifCond .ne 14, 3, 119, 0, 0), (108, .aload_n 0, 1, 0, 0, 0), (109, .getfield 37, 3, 11, 8, 966), (112, .iload_n 1, 1, 0, 0, 0), (113, .iaload, 1, 0, 0, 0), (114, .ineg, 1, 0, 0, 0), (115, .i2l, 1, 0, 0, 0), (116, .goto 11, 3, 127, 0, 0), (119, .aload_n 0, 1, 0, 0, 0), (120, .getfield 40, 3, 11, 9, 967), (123, .iload_n 1, 1, 0, 0, 0), (124, .iaload, 1, 0, 0, 0), (125, .ineg, 1, 0, 0, 0), (126, .i2l, 1, 0, 0, 0), (127, .invokevirtual 70, 3, 12, 2, 943), (130, .iinc 2 1, 3, 0, 0, 0), (133, .goto (-101), 3, 32, 0, 0), (136, .iinc 1 1, 3, 0, 0, 0), (139, .goto (-117), 3, 22, 0, 0), (142, .aload_n 0, 1, 0, 0, 0), (143, .aload_n 0, 1, 0, 0, 0), (144, .getfield 152, 3, 11, 10, 968), (147, .invokevirtual 196, 3, 31, 1, 1102), (150, .return_, 1, 0, 0, 0)]
def qt33 : List eRow := [(0, .aload_n 0, 1, 0, 0, 0), (1, .invokevirtual 199, 3, 32, 0, 1082), (4, .aload_n 0, 1, 0, 0, 0), (5, .getfield 164, 3, 11, 21, 979), (8, .istore_n 1, 1, 0, 0, 0), (9, .iload_n 1, 1, 0, 0, 0), (10, .aload_n 0, 1, 0, 0, 0), (11, .getfield 167, 3, 11, 19, 977), (14, .if_icmp .ge 27, 3, 41, 0, 0), (17, .aload_n 0, 1, 0, 0, 0), (18, .aload_n 0, 1, 0, 0, 0), (19, .iload_n 1, 1, 0, 0, 0), (20, .aload_n 0, 1, 0, 0, 0), (21, .getfield 152, 3, 11, 10, 968), (24, .invokevirtual 170, 3, 21, 2, 1094), (27, .invokevirtual 89, 3, 25, 1, 1106), (30, .ifCond .ne 5, 3, 35, 0, 0), (33, .iconst 0, 1, 0, 0, 0), (34, .ireturn, 1, 1, 0, 0), (35, .iinc 1 1, 3, 0, 0, 0), (38, .goto (-29), 3, 9, 0, 0), (41, .iconst 1, 1, 0, 0, 0), (42, .ireturn, 1, 1, 0, 0)]
def qt34 : List eRow := [(0, .iload_n 1, 1, 0, 0, 0), (1, .ifCond .lt 15, 3, 16, 0, 0), (4, .iload_n 1, 1, 0, 0, 0), (5, .aload_n 0, 1, 0, 0, 0), (6, .getfield 152, 3, 11, 10, 968), (9, .if_icmp .ge 7, 3, 16, 0, 0), (12, .iconst 1, 1, 0, 0, 0), (13, .goto 4, 3, 17, 0, 0), (16, .iconst 0, 1, 0, 0, 0), (17, .ireturn, 1, 1, 0, 0)]
def qt35 : List eRow := [(0, .aload_n 0, 1, 0, 0, 0), (1, .getfield 9, 3, 11, 0, 958), (4, .bipush 24, 2, 0, 0, 0), (6, .iload_n 1, 1, 0, 0, 0), (7, .imul, 1, 0, 0, 0), (8, .laload, 1, 0, 0, 0), (9, .ldc2_w 109, 3, 2, 0, 1058), (12, .lrem, 1, 0, 0, 0), (13, .lconst 0, 1, 0, 0, 0), (14, .lcmp, 1, 0, 0, 0), (15, .ifCond .ne 7, 3, 22, 0, 0), (18, .iconst 1, 1, 0, 0, 0), (19, .goto 4, 3, 23, 0, 0), (22, .iconst 0, 1, 0, 0, 0), (23, .ireturn, 1, 1, 0, 0)]
def qt36 : List eRow := [(0, .lconst 0, 1, 0, 0, 0), (1, .lstore_n 2, 1, 0, 0, 0), (2, .bipush 23, 2, 0, 0, 0), (4, .istore 4, 2, 0, 0, 0), (6, .iload 4, 2, 0, 0, 0), (8, .ifCond .lt 54, 3, 62, 0, 0), (11, .lload_n 2, 1, 0, 0, 0), (12, .ldc2_w 74, 3, 1000000000, 0, 951), (15, .lmul, 1, 0, 0, 0), (16, .aload_n 0, 1, 0, 0, 0), (17, .getfield 9, 3, 11, 0, 958), (20, .bipush 24, 2, 0, 0, 0), (22, .iload_n 1, 1, 0, 0, 0), (23, .imul, 1, 0, 0, 0), (24, .iload 4, 2, 0, 0, 0), (26, .iadd, 1, 0, 0, 0), (27, .laload, 1, 0, 0, 0), (28, .ladd, 1, 0, 0, 0), (29, .lstore 5, 2, 0, 0, 0), (31, .aload_n 0, 1, 0, 0, 0), (32, .getfield 9, 3, 11, 0, 958), (35, .bipush 24, 2, 0, 0, 0), (37, .iload_n 1, 1, 0, 0, 0), (38, .imul, 1, 0, 0, 0), (39, .iload 4, 2, 0, 0, 0), (41, .iadd, 1, 0, 0, 0), (42, .lload 5, 2, 0, 0, 0), (44, .ldc2_w 109, 3, 2, 0, 1058), (47, .ldiv, 1, 0, 0, 0), (48, .lastore, 1, 0, 0, 0), (49, .lload 5, 2, 0, 0, 0), (51, .ldc2_w 109, 3, 2, 0, 1058), (54, .lrem, 1, 0, 0, 0), (55, .lstore_n 2, 1, 0, 0, 0), (56, .iinc 4 (-1), 3, 0, 0, 0), (59, .goto (-53), 3, 6, 0, 0), (62, .return_, 1, 0, 0, 0)]
def qt37 : List eRow := [(0, .bipush 23, 2, 0, 0, 0), (2, .istore_n 3, 1, 0, 0, 0), (3, .iload_n 3, 1, 0, 0, 0), (4, .ifCond .lt 57, 3, 61, 0, 0), (7, .aload_n 0, 1, 0, 0, 0), (8, .getfield 9, 3, 11, 0, 958), (11, .bipush 24, 2, 0, 0, 0), (13, .iload_n 1, 1, 0, 0, 0), (14, .imul, 1, 0, 0, 0), (15, .iload_n 3, 1, 0, 0, 0), (16, .iadd, 1, 0, 0, 0), (17, .laload, 1, 0, 0, 0), (18, .lstore 4, 2, 0, 0, 0), (20, .aload_n 0, 1, 0, 0, 0), (21, .getfield 9, 3, 11, 0, 958), (24, .bipush 24, 2, 0, 0, 0), (26, .iload_n 2, 1, 0, 0, 0), (27, .imul, 1, 0, 0, 0), (28, .iload_n 3, 1, 0, 0, 0), (29, .iadd, 1, 0, 0, 0), (30, .laload, 1, 0, 0, 0), (31, .lstore 6, 2, 0, 0, 0), (33, .lload 4, 2, 0, 0, 0), (35, .lload 6, 2, 0, 0, 0), (37, .lcmp, 1, 0, 0, 0), (38, .ifCond .eq 17, 3, 55, 0, 0), (41, .lload 4, 2, 0, 0, 0), (43, .lload 6, 2, 0, 0, 0), (45, .lcmp, 1, 0, 0, 0), (46, .ifCond .ge 7, 3, 53, 0, 0), (49, .iconst 1, 1, 0, 0, 0), (50, .goto 4, 3, 54, 0, 0), (53, .iconst 0, 1, 0, 0, 0), (54, .ireturn, 1, 1, 0, 0), (55, .iinc 3 (-1), 3, 0, 0, 0), (58, .goto (-55), 3, 3, 0, 0), (61, .iconst 0, 1, 0, 0, 0), (62, .ireturn, 1, 1, 0, 0)]
def qt38 : List eRow := [(0, .aload_n 0, 1, 0, 0, 0), (1, .iload_n 1, 1, 0, 0, 0), (2, .invokevirtual 93, 3, 17, 1, 1122), (5, .aload_n 0, 1, 0, 0, 0), (6, .iload_n 2, 1, 0, 0, 0), (7, .invokevirtual 93, 3, 17, 1, 1122), (10, .if_icmp .eq 7, 3, 17, 0, 0), (13, .iconst 1, 1, 0, 0, 0), (14, .goto 4, 3, 18, 0, 0), (17, .iconst 0, 1, 0, 0, 0), (18, .istore_n 3, 1, 0, 0, 0), (19, .aload_n 0, 1, 0, 0, 0), (20, .iconst 0, 1, 0, 0, 0), (21, .iload_n 1, 1, 0, 0, 0), (22, .invokevirtual 115, 3, 20, 2, 1110), (25, .aload_n 0, 1, 0, 0, 0), (26, .iconst 1, 1, 0, 0, 0), (27, .iload_n 2, 1, 0, 0, 0), (28, .invokevirtual 115, 3, 20, 2, 1110), (31, .aload_n 0, 1, 0, 0, 0), (32, .iconst 0, 1, 0, 0, 0), (33, .invokevirtual 93, 3, 17, 1, 1122), (36, .ifCond .eq 8, 3, 44, 0, 0), (39, .aload_n 0, 1, 0, 0, 0), (40, .iconst 0, 1, 0, 0, 0), (41, .invokevirtual 96, 3, 18, 1, 1130), (44, .aload_n 0, 1, 0, 0, 0), (45, .iconst 1, 1, 0, 0, 0), (46, .invokevirtual 93, 3, 17, 1, 1122), (49, .ifCond .eq 8, 3, 57, 0, 0), (52, .aload_n 0, 1, 0, 0, 0), (53, .iconst 1, 1, 0, 0, 0), (54, .invokevirtual 96, 3, 18, 1, 1130), (57, .aload_n 0, 1, 0, 0, 0), (58, .iconst 0, 1, 0, 0, 0), (59, .invokevirtual 89, 3, 25, 1, 1106), (62, .ifCond .eq 10, 3, 72, 0, 0), (65, .aload_n 0, 1, 0, 0, 0), (66, .iconst 1, 1, 0, 0, 0), (67, .lconst 1, 1, 0, 0, 0), (68, .invokevirtual 70, 3, 12, 2, 943), (71, .return_, 1, 0, 0, 0), (72, .aload_n 0, 1, 0, 0, 0), (73, .iconst 2, 1, 0, 0, 0), (74, .iconst 0, 1, 0, 0, 0), (75, .invokevirtual 115, 3, 20, 2, 1110), (78, .aload_n 0, 1, 0, 0, 0), (79, .iconst 3, 1, 0, 0, 0), (80, .iconst 1, 1, 0, 0, 0), (81, .invokevirtual 115, 3, 20, 2, 1110), (84, .iconst 0, 1, 0, 0, 0), (85, .istore 4, 2, 0, 0, 0), (87, .aload_n 0, 1, 0, 0, 0), (88, .iconst 2, 1, 0, 0, 0), (89, .invokevirtual 119, 3, 35, 1, 1167), (92, .ifCond .eq 27, 3, 119, 0, 0), (95, .aload_n 0, 1, 0, 0, 0), (96, .iconst 3, 1, 0, 0, 0), (97, .invokevirtual 119, 3, 35, 1, 1167), (100, .ifCond .eq 19, 3, 119, 0, 0), (103, .aload_n 0, 1, 0, 0, 0), (104, .iconst 2, 1, 0, 0, 0), (105, .invokevirtual 122, 3, 36, 1, 1171), (108, .aload_n 0, 1, 0, 0, 0), (109, .iconst 3, 1, 0, 0, 0), (110, .invokevirtual 122, 3, 36, 1, 1171), (113, .iinc 4 1, 3, 0, 0, 0), (116, .goto (-29), 3, 87, 0, 0), (119, .aload_n 0, 1, 0, 0, 0), (120, .iconst 2, 1, 0, 0, 0), (121, .invokevirtual 89, 3, 25, 1, 1106), (124, .ifCond .ne 68, 3, 192, 0, 0), (127, .aload_n 0, 1, 0, 0, 0), (128, .iconst 2, 1, 0, 0, 0), (129, .invokevirtual 119, 3, 35, 1, 1167), (132, .ifCond .eq 11, 3, 143, 0, 0), (135, .aload_n 0, 1, 0, 0, 0), (136, .iconst 2, 1, 0, 0, 0), (137, .invokevirtual 122, 3, 36, 1, 1171), (140, .goto (-13), 3, 127, 0, 0), (143, .aload_n 0, 1, 0, 0, 0), (144, .iconst 3, 1, 0, 0, 0), (145, .invokevirtual 119, 3, 35, 1, 1167), (148, .ifCond .eq 11, 3, 159, 0, 0), (151, .aload_n 0, 1, 0, 0, 0), (152, .iconst 3, 1, 0, 0, 0), (153, .invokevirtual 122, 3, 36, 1, 1171), (156, .goto (-13), 3, 143, 0, 0), (159, .aload_n 0, 1, 0, 0, 0), (160, .iconst 2, 1, 0, 0, 0), (161, .iconst 3, 1, 0, 0, 0), (162, .invokevirtual 125, 3, 37, 2, 1175), (165, .ifCond .eq 15, 3, 180, 0, 0), (168, .aload_n 0, 1, 0, 0, 0), (169, .iconst 3, 1, 0, 0, 0), (170, .iconst 2, 1, 0, 0, 0), (171, .ldc2_w 129, 3, 1, 1, 1137), (174, .invokevirtual 131, 3, 15, 3, 1138), (177, .goto (-58), 3, 119, 0, 0), (180, .aload_n 0, 1, 0, 0, 0), (181, .iconst 2, 1, 0, 0, 0), (182, .iconst 3, 1, 0, 0, 0), (183, .ldc2_w 129, 3, 1, 1, 1137), (186, .invokevirtual 131, 3, 15, 3, 1138), (189, .goto (-70), 3, 119, 0, 0), (192, .iconst 0, 1, 0, 0, 0), (193, .istore 5, 2, 0, 0, 0), (195, .iload 5, 2, 0, 0, 0), (197, .iload 4, 2, 0, 0, 0), (199, .if_icmp .ge 22, 3, 221, 0, 0), (202, .aload_n 0, 1, 0, 0, 0), (203, .iconst 4, 1, 0, 0, 0), (204, .iconst 3, 1, 0, 0, 0), (205, .invokevirtual 115, 3, 20, 2, 1110), (208, .aload_n 0, 1, 0, 0, 0), (209, .iconst 3, 1, 0, 0, 0), (210, .iconst 4, 1, 0, 0, 0), (211, .lconst 1, 1, 0, 0, 0), (212, .invokevirtual 131, 3, 15, 3, 1138), (215, .iinc 5 1, 3, 0, 0, 0), (218, .goto (-23), 3, 195, 0, 0), (221, .aload_n 0, 1, 0, 0, 0), (222, .iconst 0, 1, 0, 0, 0), (223, .iconst 3, 1, 0, 0, 0), (224, .invokevirtual 135, 3, 29, 2, 1142), (227, .aload_n 0, 1, 0, 0, 0), (228, .iconst 1, 1, 0, 0, 0), (229, .iconst 3, 1, 0, 0, 0), (230, .invokevirtual 135, 3, 29, 2, 1142), (233, .iload_n 3, 1, 0, 0, 0), (234, .ifCond .eq 8, 3, 242, 0, 0), (237, .aload_n 0, 1, 0, 0, 0), (238, .iconst 0, 1, 0, 0, 0), (239, .invokevirtual 96, 3, 18, 1, 1130), (242, .return_, 1, 0, 0, 0)]
def qt39 : List eRow := [(0, .aload_n 0, 1, 0, 0, 0), (1, .invokevirtual 222, 3, 33, 0, 1211), (4, .ifCond .eq 11, 3, 15, 0, 0), (7, .aload_n 0, 1, 0, 0, 0), (8, .iload_n 1, 1, 0, 0, 0), (9, .invokevirtual 161, 3, 34, 1, 1074), (12, .ifCond .ne 5, 3, 17, 0, 0), (15, .iconst 0, 1, 0, 0, 0), (16, .ireturn, 1, 1, 0, 0), (17, .aload_n 0, 1, 0, 0, 0), (18, .getfield 67, 3, 11, 22, 980), (21, .iload_n 1, 1, 0, 0, 0), (22, .iaload, 1, 0, 0, 0), (23, .iconst (-1), 1, 0, 0, 0), (24, .if_icmp .ne 12, 3, 36, 0, 0), (27, .aload_n 0, 1, 0, 0, 0), (28, .iconst 5, 1, 0, 0, 0), (29, .lconst 0, 1, 0, 0, 0), (30, .invokevirtual 70, 3, 12, 2, 943), (33, .goto 22, 3, 55, 0, 0), (36, .aload_n 0, 1, 0, 0, 0), (37, .iconst 5, 1, 0, 0, 0), (38, .aload_n 0, 1, 0, 0, 0), (39, .aload_n 0, 1, 0, 0, 0), (40, .getfield 67, 3, 11, 22, 980), (43, .iload_n 1, 1, 0, 0, 0), (44, .iaload, 1, 0, 0, 0), (45, .aload_n 0, 1, 0, 0, 0), (46, .getfield 152, 3, 11, 10, 968), (49, .invokevirtual 170, 3, 21, 2, 1094), (52, .invokevirtual 115, 3, 20, 2, 1110), (55, .aload_n 0, 1, 0, 0, 0), (56, .iconst 5, 1, 0, 0, 0), (57, .bipush 8, 2, 0, 0, 0), (59, .invokevirtual 208, 3, 38, 2, 1163), (62, .iconst 1, 1, 0, 0, 0), (63, .ireturn, 1, 1, 0, 0)]
def qt40 : List eRow := [(0, .aload_n 0, 1, 0, 0, 0), (1, .invokevirtual 222, 3, 33, 0, 1211), (4, .ifCond .ne 7, 3, 11, 0, 0), (7, .iconst 0, 1, 0, 0, 0), (8, .goto 19, 3, 27, 0, 0), (11, .aload_n 0, 1, 0, 0, 0), (12, .getfield 164, 3, 11, 21, 979), (15, .aload_n 0, 1, 0, 0, 0), (16, .getfield 152, 3, 11, 10, 968), (19, .if_icmp .ne 7, 3, 26, 0, 0), (22, .iconst 1, 1, 0, 0, 0), (23, .goto 4, 3, 27, 0, 0), (26, .iconst 2, 1, 0, 0, 0), (27, .ireturn, 1, 0, 0, 0)]
def qt41 : List eRow := [(0, .sipush 340, 3, 0, 0, 0), (3, .iconst 3, 1, 0, 0, 0), (4, .iload_n 1, 1, 0, 0, 0), (5, .imul, 1, 0, 0, 0), (6, .iadd, 1, 0, 0, 0), (7, .iload_n 2, 1, 0, 0, 0), (8, .iadd, 1, 0, 0, 0), (9, .ireturn, 1, 0, 0, 0)]
def qt42 : List eRow := [(0, .aload_n 0, 1, 0, 0, 0), (1, .iload_n 1, 1, 0, 0, 0), (2, .invokevirtual 89, 3, 25, 1, 1106), (5, .ifCond .eq 7, 3, 12, 0, 0), (8, .iconst 0, 1, 0, 0, 0), (9, .goto 16, 3, 25, 0, 0), (12, .aload_n 0, 1, 0, 0, 0), (13, .iload_n 1, 1, 0, 0, 0), (14, .invokevirtual 93, 3, 17, 1, 1122), (17, .ifCond .eq 7, 3, 24, 0, 0), (20, .iconst (-1), 1, 0, 0, 0), (21, .goto 4, 3, 25, 0, 0), (24, .iconst 1, 1, 0, 0, 0), (25, .ireturn, 1, 0, 0, 0)]
def qt43 : List eRow := [(0, .aload_n 0, 1, 0, 0, 0), (1, .bipush 9, 2, 0, 0, 0), (3, .lconst 0, 1, 0, 0, 0), (4, .invokevirtual 70, 3, 12, 2, 943), (7, .iconst 0, 1, 0, 0, 0), (8, .istore_n 3, 1, 0, 0, 0), (9, .iload_n 3, 1, 0, 0, 0), (10, .iconst 3, 1, 0, 0, 0), (11, .if_icmp .ge 33, 3, 44, 0, 0), (14, .aload_n 0, 1, 0, 0, 0), (15, .bipush 6, 2, 0, 0, 0), (17, .aload_n 0, 1, 0, 0, 0), (18, .iload_n 1, 1, 0, 0, 0), (19, .iload_n 3, 1, 0, 0, 0), (20, .invokevirtual 229, 3, 41, 2, 1235), (23, .iload_n 2, 1, 0, 0, 0), (24, .iload_n 3, 1, 0, 0, 0), (25, .iadd, 1, 0, 0, 0), (26, .invokevirtual 180, 3, 27, 3, 1118), (29, .aload_n 0, 1, 0, 0, 0), (30, .bipush 9, 2, 0, 0, 0), (32, .bipush 6, 2, 0, 0, 0), (34, .lconst 1, 1, 0, 0, 0), (35, .invokevirtual 131, 3, 15, 3, 1138), (38, .iinc 3 1, 3, 0, 0, 0), (41, .goto (-32), 3, 9, 0, 0), (44, .aload_n 0, 1, 0, 0, 0), (45, .bipush 9, 2, 0, 0, 0), (47, .invokevirtual 232, 3, 42, 1, 1255), (50, .ireturn, 1, 0, 0, 0)]
def qt44 : List eRow := [(0, .iconst 0, 1, 0, 0, 0), (1, .istore_n 3, 1, 0, 0, 0), (2, .iload_n 3, 1, 0, 0, 0), (3, .aload_n 0, 1, 0, 0, 0), (4, .getfield 235, 3, 11, 23, 981), (7, .if_icmp .ge 19, 3, 26, 0, 0), (10, .aload_n 0, 1, 0, 0, 0), (11, .iload_n 3, 1, 0, 0, 0), (12, .iload_n 1, 1, 0, 0, 0), (13, .invokevirtual 238, 3, 43, 2, 1251), (16, .ifCond .ge 4, 3, 20, 0, 0), (19, .return_, 1, 0, 0, 0), (20, .iinc 3 1, 3, 0, 0, 0), (23, .goto (-21), 3, 2, 0, 0), (26, .iconst 0, 1, 0, 0, 0), (27, .istore_n 3, 1, 0, 0, 0), (28, .iload_n 3, 1, 0, 0, 0), (29, .iconst 3, 1, 0, 0, 0), (30, .if_icmp .ge 20, 3, 50, 0, 0), (33, .aload_n 0, 1, 0, 0, 0), (34, .iload_n 2, 1, 0, 0, 0), (35, .iload_n 3, 1, 0, 0, 0), (36, .iadd, 1, 0, 0, 0), (37, .iload_n 1, 1, 0, 0, 0), (38, .iload_n 3, 1, 0, 0, 0), (39, .iadd, 1, 0, 0, 0), (40, .lconst 1, 1, 0, 0, 0), (41, .invokevirtual 131, 3, 15, 3, 1138), (44, .iinc 3 1, 3, 0, 0, 0), (47, .goto (-19), 3, 28, 0, 0), (50, .return_, 1, 0, 0, 0)]
def qt45 : List eRow := [(0, .aload_n 0, 1, 0, 0, 0), (1, .iload_n 1, 1, 0, 0, 0), (2, .iload_n 2, 1, 0, 0, 0), (3, .invokevirtual 241, 3, 44, 2, 1247), (6, .iconst 0, 1, 0, 0, 0), (7, .istore_n 3, 1, 0, 0, 0), (8, .iload_n 3, 1, 0, 0, 0), (9, .iconst 3, 1, 0, 0, 0), (10, .if_icmp .ge 16, 3, 26, 0, 0), (13, .aload_n 0, 1, 0, 0, 0), (14, .iload_n 1, 1, 0, 0, 0), (15, .iload_n 3, 1, 0, 0, 0), (16, .iadd, 1, 0, 0, 0), (17, .invokevirtual 96, 3, 18, 1, 1130), (20, .iinc 3 1, 3, 0, 0, 0), (23, .goto (-15), 3, 8, 0, 0), (26, .aload_n 0, 1, 0, 0, 0), (27, .iload_n 1, 1, 0, 0, 0), (28, .iload_n 2, 1, 0, 0, 0), (29, .invokevirtual 241, 3, 44, 2, 1247), (32, .return_, 1, 0, 0, 0)]
def qt46 : List eRow := [(0, .iload_n 1, 1, 0, 0, 0), (1, .tableswitch 81 0 3 #[31, 36, 41, 46], 31, 0, 0, 0), (32, .aload_n 0, 1, 0, 0, 0), (33, .getfield 23, 3, 11, 4, 962), (36, .ireturn, 1, 0, 0, 0), (37, .aload_n 0, 1, 0, 0, 0), (38, .invokevirtual 184, 3, 23, 0, 1086), (41, .ireturn, 1, 0, 0, 0), (42, .aload_n 0, 1, 0, 0, 0), (43, .getfield 152, 3, 11, 10, 968), (46, .ireturn, 1, 0, 0, 0), (47, .iconst 0, 1, 0, 0, 0), (48, .istore_n 2, 1, 0, 0, 0), (49, .iconst 0, 1, 0, 0, 0), (50, .istore_n 3, 1, 0, 0, 0), (51, .iload_n 3, 1, 0, 0, 0), (52, .bipush 8, 2, 0, 0, 0), (54, .if_icmp .ge 26, 3, 80, 0, 0), (57, .iload_n 2, 1, 0, 0, 0), (58, .aload_n 0, 1, 0, 0, 0), (59, .getfield 13, 3, 11, 1, 959), (62, .iload_n 3, 1, 0, 0, 0), (63, .iaload, 1, 0, 0, 0), (64, .ifCond .ne 7, 3, 71, 0, 0), (67, .iconst 0, 1, 0, 0, 0), (68, .goto 4, 3, 72, 0, 0), (71, .iconst 1, 1, 0, 0, 0), (72, .iadd, 1, 0, 0, 0), (73, .istore_n 2, 1, 0, 0, 0), (74, .iinc 3 1, 3, 0, 0, 0), (77, .goto (-26), 3, 51, 0, 0), (80, .iload_n 2, 1, 0, 0, 0), (81, .ireturn, 1, 0, 0, 0), (82, .iconst (-1), 1, 0, 0, 0), (83, .ireturn, 1, 0, 0, 0)]
def qt47 : List eRow := [(0, .iconst 0, 1, 0, 0, 0), (1, .istore 4, 2, 0, 0, 0), (3, .iload 4, 2, 0, 0, 0), (5, .iconst 3, 1, 0, 0, 0), (6, .if_icmp .ge 74, 3, 80, 0, 0), (9, .aload_n 0, 1, 0, 0, 0), (10, .bipush 6, 2, 0, 0, 0), (12, .iload_n 2, 1, 0, 0, 0), (13, .iload 4, 2, 0, 0, 0), (15, .iconst 1, 1, 0, 0, 0), (16, .iadd, 1, 0, 0, 0), (17, .iconst 3, 1, 0, 0, 0), (18, .irem, 1, 0, 0, 0), (19, .iadd, 1, 0, 0, 0), (20, .iload_n 3, 1, 0, 0, 0), (21, .iload 4, 2, 0, 0, 0), (23, .iconst 2, 1, 0, 0, 0), (24, .iadd, 1, 0, 0, 0), (25, .iconst 3, 1, 0, 0, 0), (26, .irem, 1, 0, 0, 0), (27, .iadd, 1, 0, 0, 0), (28, .invokevirtual 180, 3, 27, 3, 1118), (31, .aload_n 0, 1, 0, 0, 0), (32, .bipush 7, 2, 0, 0, 0), (34, .iload_n 2, 1, 0, 0, 0), (35, .iload 4, 2, 0, 0, 0), (37, .iconst 2, 1, 0, 0, 0), (38, .iadd, 1, 0, 0, 0), (39, .iconst 3, 1, 0, 0, 0), (40, .irem, 1, 0, 0, 0), (41, .iadd, 1, 0, 0, 0), (42, .iload_n 3, 1, 0, 0, 0), (43, .iload 4, 2, 0, 0, 0), (45, .iconst 1, 1, 0, 0, 0), (46, .iadd, 1, 0, 0, 0), (47, .iconst 3, 1, 0, 0, 0), (48, .irem, 1, 0, 0, 0), (49, .iadd, 1, 0, 0, 0), (50, .invokevirtual 180, 3, 27, 3, 1118), (53, .aload_n 0, 1, 0, 0, 0), (54, .bipush 6, 2, 0, 0, 0), (56, .bipush 7, 2, 0, 0, 0), (58, .ldc2_w 129, 3, 1, 1, 1137), (61, .invokevirtual 131, 3, 15, 3, 1138), (64, .aload_n 0, 1, 0, 0, 0), (65, .iload_n 1, 1, 0, 0, 0), (66, .iload 4, 2, 0, 0, 0), (68, .iadd, 1, 0, 0, 0), (69, .bipush 6, 2, 0, 0, 0), (71, .invokevirtual 115, 3, 20, 2, 1110), (74, .iinc 4 1, 3, 0, 0, 0), (77, .goto (-74), 3, 3, 0, 0), (80, .return_, 1, 0, 0, 0)]
def qt48 : List eRow := [(0, .iload_n 3, 1, 0, 0, 0), (1, .ifCond .ne 7, 3, 8, 0, 0), (4, .lconst 0, 1, 0, 0, 0), (5, .goto 24, 3, 29, 0, 0), (8, .iload_n 2, 1, 0, 0, 0), (9, .ifCond .ne 13, 3, 22, 0, 0), (12, .aload_n 0, 1, 0, 0, 0), (13, .getfield 37, 3, 11, 8, 966), (16, .iload_n 1, 1, 0, 0, 0), (17, .iaload, 1, 0, 0, 0), (18, .i2l, 1, 0, 0, 0), (19, .goto 10, 3, 29, 0, 0), (22, .aload_n 0, 1, 0, 0, 0), (23, .getfield 40, 3, 11, 9, 967), (26, .iload_n 1, 1, 0, 0, 0), (27, .iaload, 1, 0, 0, 0), (28, .i2l, 1, 0, 0, 0), (29, .lstore 4, 2, 0, 0, 0), (31, .iconst 0, 1, 0, 0, 0), (32, .istore 6, 2, 0, 0, 0), (34, .iload 6, 2, 0, 0, 0), (36, .aload_n 0, 1, 0, 0, 0), (37, .getfield 152, 3, 11, 10, 968), (40, .if_icmp .ge 32, 3, 72, 0, 0), (43, .lload 4, 2, 0, 0, 0), (45, .aload_n 0, 1, 0, 0, 0), (46, .getfield 52, 3, 11, 14, 972), (49, .iload 6, 2, 0, 0, 0), (51, .iaload, 1, 0, 0, 0), (52, .i2l, 1, 0, 0, 0), (53, .aload_n 0, 1, 0, 0, 0), (54, .iload 6, 2, 0, 0, 0), (56, .iload_n 1, 1, 0, 0, 0), (57, .iload_n 2, 1, 0, 0, 0), (58, .invokevirtual 192, 3, 24, 3, 1098), (61, .i2l, 1, 0, 0, 0), (62, .lmul, 1, 0, 0, 0), (63, .ladd, 1, 0, 0, 0), (64, .lstore 4, 2, 0, 0, 0), (66, .iinc 6 1, 3, 0, 0, 0), (69, .goto (-35), 3, 34, 0, 0), (72, .lload 4, 2, 0, 0, 0), (74, .lreturn, 1, 0, 0, 0)]
def qt49 : List eRow := [(0, .iconst 0, 1, 0, 0, 0), (1, .istore_n 2, 1, 0, 0, 0), (2, .iload_n 2, 1, 0, 0, 0), (3, .aload_n 0, 1, 0, 0, 0), (4, .getfield 23, 3, 11, 4, 962), (7, .if_icmp .ge 44, 3, 51, 0, 0), (10, .aload_n 0, 1, 0, 0, 0), (11, .getfield 33, 3, 11, 7, 965), (14, .iload_n 2, 1, 0, 0, 0), (15, .baload, 1, 0, 0, 0), (16, .ifCond .ne 29, 3, 45, 0, 0), (19, .aload_n 0, 1, 0, 0, 0), (20, .iload_n 2, 1, 0, 0, 0), (21, .iconst 0, 1, 0, 0, 0), (22, .iload_n 1, 1, 0, 0, 0), (23, .invokevirtual 214, 3, 48, 3, 1199), (26, .lconst 0, 1, 0, 0, 0), (27, .lcmp, 1, 0, 0, 0), (28, .ifCond .ne 15, 3, 43, 0, 0), (31, .aload_n 0, 1, 0, 0, 0), (32, .iload_n 2, 1, 0, 0, 0), (33, .iconst 1, 1, 0, 0, 0), (34, .iload_n 1, 1, 0, 0, 0), (35, .invokevirtual 214, 3, 48, 3, 1199), (38, .lconst 0, 1, 0, 0, 0), (39, .lcmp, 1, 0, 0, 0), (40, .ifCond .eq 5, 3, 45, 0, 0), (43, .iconst 0, 1, 0, 0, 0), (44, .ireturn, 1, 1, 0, 0), (45, .iinc 2 1, 3, 0, 0, 0), (48, .goto (-46), 3, 2, 0, 0), (51, .iconst 1, 1, 0, 0, 0), (52, .ireturn, 1, 1, 0, 0)]
def qt50 : List eRow := [(0, .aload_n 0, 1, 0, 0, 0), (1, .iconst 1, 1, 0, 0, 0), (2, .invokevirtual 218, 3, 49, 1, 1195), (5, .ireturn, 1, 1, 0, 0)]
def qt51 : List eRow := [(0, .sipush 382, 3, 0, 0, 0), (3, .iconst 3, 1, 0, 0, 0), (4, .iload_n 1, 1, 0, 0, 0), (5, .imul, 1, 0, 0, 0), (6, .iadd, 1, 0, 0, 0), (7, .iload_n 2, 1, 0, 0, 0), (8, .iadd, 1, 0, 0, 0), (9, .ireturn, 1, 0, 0, 0)]
def qt52 : List eRow := [(0, .iload_n 2, 1, 0, 0, 0), (1, .istore_n 3, 1, 0, 0, 0), (2, .iconst 0, 1, 0, 0, 0), (3, .istore 4, 2, 0, 0, 0), (5, .iload 4, 2, 0, 0, 0), (7, .iload_n 1, 1, 0, 0, 0), (8, .if_icmp .ge 30, 3, 38, 0, 0), (11, .aload_n 0, 1, 0, 0, 0), (12, .getfield 67, 3, 11, 22, 980), (15, .iload 4, 2, 0, 0, 0), (17, .iaload, 1, 0, 0, 0), (18, .iconst (-1), 1, 0, 0, 0), (19, .if_icmp .ne 13, 3, 32, 0, 0), (22, .iload_n 3, 1, 0, 0, 0), (23, .ifCond .ne 6, 3, 29, 0, 0), (26, .iload 4, 2, 0, 0, 0), (28, .ireturn, 1, 0, 0, 0), (29, .iinc 3 (-1), 3, 0, 0, 0), (32, .iinc 4 1, 3, 0, 0, 0), (35, .goto (-30), 3, 5, 0, 0), (38, .iconst (-1), 1, 0, 0, 0), (39, .ireturn, 1, 0, 0, 0)]
def qt53 : List eRow := [(0, .aload_n 0, 1, 0, 0, 0), (1, .invokespecial 3, 3, 9999, 0, 942), (4, .aload_n 0, 1, 0, 0, 0), (5, .sipush 9888, 3, 0, 0, 0), (8, .newarray .long, 2, 0, 0, 124), (10, .putfield 9, 3, 11, 0, 958), (13, .aload_n 0, 1, 0, 0, 0), (14, .bipush 8, 2, 0, 0, 0), (16, .newarray .int, 2, 0, 0, 125), (18, .putfield 13, 3, 11, 1, 959), (21, .aload_n 0, 1, 0, 0, 0), (22, .bipush 8, 2, 0, 0, 0), (24, .newarray .int, 2, 0, 0, 125), (26, .putfield 17, 3, 11, 2, 960), (29, .aload_n 0, 1, 0, 0, 0), (30, .sipush 480, 3, 0, 0, 0), (33, .newarray .long, 2, 0, 0, 124), (35, .putfield 20, 3, 11, 3, 961), (38, .aload_n 0, 1, 0, 0, 0), (39, .iconst 1, 1, 0, 0, 0), (40, .putfield 23, 3, 11, 4, 962), (43, .aload_n 0, 1, 0, 0, 0), (44, .bipush 8, 2, 0, 0, 0), (46, .newarray .int, 2, 0, 0, 125), (48, .putfield 27, 3, 11, 5, 963), (51, .aload_n 0, 1, 0, 0, 0), (52, .bipush 8, 2, 0, 0, 0), (54, .newarray .int, 2, 0, 0, 125), (56, .putfield 30, 3, 11, 6, 964), (59, .aload_n 0, 1, 0, 0, 0), (60, .bipush 8, 2, 0, 0, 0), (62, .newarray .boolean, 2, 0, 0, 340), (64, .putfield 33, 3, 11, 7, 965), (67, .aload_n 0, 1, 0, 0, 0), (68, .bipush 8, 2, 0, 0, 0), (70, .newarray .int, 2, 0, 0, 125), (72, .putfield 37, 3, 11, 8, 966), (75, .aload_n 0, 1, 0, 0, 0), (76, .bipush 8, 2, 0, 0, 0), (78, .newarray .int, 2, 0, 0, 125), (80, .putfield 40, 3, 11, 9, 967), (83, .aload_n 0, 1, 0, 0, 0), (84, .bipush 14, 2, 0, 0, 0), (86, .newarray .int, 2, 0, 0, 125), (88, .putfield 43, 3, 11, 11, 969), (91, .aload_n 0, 1, 0, 0, 0), (92, .bipush 14, 2, 0, 0, 0), (94, .newarray .int, 2, 0, 0, 125), (96, .putfield 46, 3, 11, 12, 970), (99, .aload_n 0, 1, 0, 0, 0), (100, .bipush 14, 2, 0, 0, 0), (102, .newarray .int, 2, 0, 0, 125), (104, .putfield 49, 3, 11, 13, 971), (107, .aload_n 0, 1, 0, 0, 0), (108, .bipush 14, 2, 0, 0, 0), (110, .newarray .int, 2, 0, 0, 125), (112, .putfield 52, 3, 11, 14, 972), (115, .aload_n 0, 1, 0, 0, 0), (116, .bipush 24, 2, 0, 0, 0), (118, .newarray .long, 2, 0, 0, 124), (120, .putfield 55, 3, 11, 15, 973), (123, .aload_n 0, 1, 0, 0, 0), (124, .bipush 24, 2, 0, 0, 0), (126, .newarray .long, 2, 0, 0, 124), (128, .putfield 58, 3, 11, 16, 974), (131, .aload_n 0, 1, 0, 0, 0), (132, .bipush 24, 2, 0, 0, 0), (134, .newarray .long, 2, 0, 0, 124), (136, .putfield 61, 3, 11, 17, 975), (139, .aload_n 0, 1, 0, 0, 0), (140, .bipush 60, 2, 0, 0, 0), (142, .newarray .int, 2, 0, 0, 125), (144, .putfield 64, 3, 11, 18, 976), (147, .aload_n 0, 1, 0, 0, 0), (148, .bipush 17, 2, 0, 0, 0), (150, .newarray .int, 2, 0, 0, 125), (152, .putfield 67, 3, 11, 22, 980), (155, .aload_n 0, 1, 0, 0, 0), (156, .iconst 0, 1, 0, 0, 0), (157, .lconst 0, 1, 0, 0, 0), (158, .invokevirtual 70, 3, 12, 2, 943), (161, .aload_n 0, 1, 0, 0, 0), (162, .iconst 1, 1, 0, 0, 0), (163, .lconst 1, 1, 0, 0, 0), (164, .invokevirtual 70, 3, 12, 2, 943), (167, .return_, 1, 0, 0, 0)]
def qt54 : List eRow := [(0, .iload_n 1, 1, 0, 0, 0), (1, .iload_n 2, 1, 0, 0, 0), (2, .if_icmp .eq 53, 3, 55, 0, 0), (5, .aload_n 0, 1, 0, 0, 0), (6, .getfield 64, 3, 11, 18, 976), (9, .iconst 1, 1, 0, 0, 0), (10, .iconst 3, 1, 0, 0, 0), (11, .iload_n 1, 1, 0, 0, 0), (12, .imul, 1, 0, 0, 0), (13, .iadd, 1, 0, 0, 0), (14, .iaload, 1, 0, 0, 0), (15, .aload_n 0, 1, 0, 0, 0), (16, .getfield 64, 3, 11, 18, 976), (19, .iconst 1, 1, 0, 0, 0), (20, .iconst 3, 1, 0, 0, 0), (21, .iload_n 2, 1, 0, 0, 0), (22, .imul, 1, 0, 0, 0), (23, .iadd, 1, 0, 0, 0), (24, .iaload, 1, 0, 0, 0), (25, .if_icmp .ne 26, 3, 51, 0, 0), (28, .aload_n 0, 1, 0, 0, 0), (29, .getfield 64, 3, 11, 18, 976), (32, .iconst 2, 1, 0, 0, 0), (33, .iconst 3, 1, 0, 0, 0), (34, .iload_n 1, 1, 0, 0, 0), (35, .imul, 1, 0, 0, 0), (36, .iadd, 1, 0, 0, 0), (37, .iaload, 1, 0, 0, 0), (38, .aload_n 0, 1, 0, 0, 0), (39, .getfield 64, 3, 11, 18, 976), (42, .iconst 2, 1, 0, 0, 0), (43, .iconst 3, 1, 0, 0, 0), (44, .iload_n 2, 1, 0, 0, 0), (45, .imul, 1, 0, 0, 0), (46, .iadd, 1, 0, 0, 0), (47, .iaload, 1, 0, 0, 0), (48, .if_icmp .eq 7, 3, 55, 0, 0), (51, .iconst 1, 1, 0, 0, 0), (52, .goto 4, 3, 56, 0, 0), (55, .iconst 0, 1, 0, 0, 0), (56, .ireturn, 1, 1, 0, 0)]
def qt55 : List eRow := [(0, .iload_n 1, 1, 0, 0, 0), (1, .ifCond .lt 15, 3, 16, 0, 0), (4, .iload_n 1, 1, 0, 0, 0), (5, .aload_n 0, 1, 0, 0, 0), (6, .getfield 23, 3, 11, 4, 962), (9, .if_icmp .ge 7, 3, 16, 0, 0), (12, .iconst 1, 1, 0, 0, 0), (13, .goto 4, 3, 17, 0, 0), (16, .iconst 0, 1, 0, 0, 0), (17, .ireturn, 1, 1, 0, 0)]
def qt56 : List eRow := [(0, .aload_n 0, 1, 0, 0, 0), (1, .invokevirtual 184, 3, 23, 0, 1086), (4, .istore_n 1, 1, 0, 0, 0), (5, .aload_n 0, 1, 0, 0, 0), (6, .iload_n 1, 1, 0, 0, 0), (7, .putfield 167, 3, 11, 19, 977), (10, .aload_n 0, 1, 0, 0, 0), (11, .iload_n 1, 1, 0, 0, 0), (12, .iconst 2, 1, 0, 0, 0), (13, .iadd, 1, 0, 0, 0), (14, .putfield 174, 3, 11, 20, 978), (17, .iconst 0, 1, 0, 0, 0), (18, .istore_n 2, 1, 0, 0, 0), (19, .iload_n 2, 1, 0, 0, 0), (20, .aload_n 0, 1, 0, 0, 0), (21, .getfield 23, 3, 11, 4, 962), (24, .if_icmp .ge 294, 3, 318, 0, 0), (27, .aload_n 0, 1, 0, 0, 0), (28, .getfield 33, 3, 11, 7, 965), (31, .iload_n 2, 1, 0, 0, 0), (32, .baload, 1, 0, 0, 0), (33, .ifCond .eq 6, 3, 39, 0, 0), (36, .goto 276, 3, 312, 0, 0), (39, .aload_n 0, 1, 0, 0, 0), (40, .iload_n 2, 1, 0, 0, 0), (41, .invokevirtual 188, 3, 13, 1, 1090), (44, .istore_n 3, 1, 0, 0, 0), (45, .lconst 0, 1, 0, 0, 0), (46, .lstore 4, 2, 0, 0, 0), (48, .aload_n 0, 1, 0, 0, 0), (49, .getfield 37, 3, 11, 8, 966), (52, .iload_n 2, 1, 0, 0, 0), (53, .iaload, 1, 0, 0, 0), (54, .i2l, 1, 0, 0, 0), (55, .lstore 6, 2, 0, 0, 0), (57, .aload_n 0, 1, 0, 0, 0), (58, .getfield 40, 3, 11, 9, 967), (61, .iload_n 2, 1, 0, 0, 0), (62, .iaload, 1, 0, 0, 0), (63, .i2l, 1, 0, 0, 0), (64, .lstore 8, 2, 0, 0, 0), (66, .iconst 0, 1, 0, 0, 0), (67, .istore 10, 2, 0, 0, 0), (69, .iload 10, 2, 0, 0, 0), (71, .iload_n 1, 1, 0, 0, 0), (72, .if_icmp .ge 21, 3, 93, 0, 0), (75, .aload_n 0, 1, 0, 0, 0), (76, .aload_n 0, 1, 0, 0, 0), (77, .iload_n 3, 1, 0, 0, 0), (78, .iload 10, 2, 0, 0, 0), (80, .invokevirtual 170, 3, 21, 2, 1094), (83, .lconst 0, 1, 0, 0, 0), (84, .invokevirtual 70, 3, 12, 2, 943), (87, .iinc 10 1, 3, 0, 0, 0), (90, .goto (-21), 3, 69, 0, 0), (93, .iconst 0, 1, 0, 0, 0), (94, .istore 10, 2, 0, 0, 0), (96, .iload 10, 2, 0, 0, 0), (98, .aload_n 0, 1, 0, 0, 0), (99, .getfield 152, 3, 11, 10, 968), (102, .if_icmp .ge 165, 3, 267, 0, 0), (105, .aload_n 0, 1, 0, 0, 0), (106, .getfield 43, 3, 11, 11, 969), (109, .iload 10, 2, 0, 0, 0), (111, .iaload, 1, 0, 0, 0), (112, .iload_n 2, 1, 0, 0, 0), (113, .if_icmp .eq 17, 3, 130, 0, 0), (116, .aload_n 0, 1, 0, 0, 0), (117, .getfield 46, 3, 11, 12, 970), (120, .iload 10, 2, 0, 0, 0), (122, .iaload, 1, 0, 0, 0), (123, .iload_n 2, 1, 0, 0, 0), (124, .if_icmp .eq 6, 3, 130, 0, 0), (127, .goto 134, 3, 261, 0, 0), (130, .aload_n 0, 1, 0, 0, 0), (131, .getfield 43, 3, 11, 11, 969), (134, .iload 10, 2, 0, 0, 0), (136, .iaload, 1, 0, 0, 0), (137, .iload_n 2, 1, 0, 0, 0), (138, .if_icmp .ne 13, 3, 151, 0, 0), (141, .aload_n 0, 1, 0, 0, 0), (142, .getfield 46, 3, 11, 12, 970), (145, .iload 10, 2, 0, 0, 0), (147, .iaload, 1, 0, 0, 0), (148, .goto 10, 3, 158, 0, 0), (151, .aload_n 0, 1, 0, 0, 0), (152, .getfield 43, 3, 11, 11, 969), (155, .iload 10, 2, 0, 0, 0), (157, .iaload, 1, 0, 0, 0), (158, .istore 11, 2, 0, 0, 0), (160, .lload 4, 2, 0, 0, 0), (162, .aload_n 0, 1, 0, 0, 0), (163, .getfield 52, 3, 11, 14, 972), (166, .iload 10, 2, 0, 0, 0), (168, .iaload, 1, 0, 0, 0), (169, .i2l, 1, 0, 0, 0), (170, .ladd, 1, 0, 0, 0), (171, .lstore 4, 2, 0, 0, 0), (173, .aload_n 0, 1, 0, 0, 0), (174, .getfield 33, 3, 11, 7, 965), (177, .iload 11, 2, 0, 0, 0), (179, .baload, 1, 0, 0, 0), (180, .ifCond .eq 50, 3, 230, 0, 0), (183, .lload 6, 2, 0, 0, 0), (185, .aload_n 0, 1, 0, 0, 0), (186, .getfield 52, 3, 11, 14, 972), (189, .iload 10, 2, 0, 0, 0), (191, .iaload, 1, 0, 0, 0), (192, .i2l, 1, 0, 0, 0), (193, .aload_n 0, 1, 0, 0, 0), (194, .getfield 27, 3, 11, 5, 963), (197, .iload 11, 2, 0, 0, 0), (199, .iaload, 1, 0, 0, 0), (200, .i2l, 1, 0, 0, 0), (201, .lmul, 1, 0, 0, 0), (202, .ladd, 1, 0, 0, 0), (203, .lstore 6, 2, 0, 0, 0), (205, .lload 8, 2, 0, 0, 0), (207, .aload_n 0, 1, 0, 0, 0), (208, .getfield 52, 3, 11, 14, 972), (211, .iload 10, 2, 0, 0, 0), (213, .iaload, 1, 0, 0, 0), (214, .i2l, 1, 0, 0, 0), (215, .aload_n 0, 1, 0, 0, 0), (216, .getfield 30, 3, 11, 6, 964), (219, .iload 11, 2, 0, 0, 0), (221, .iaload, 1, 0, 0, 0), (222, .i2l, 1, 0, 0, 0), (223, .lmul, 1, 0, 0, 0), (224, .ladd, 1, 0, 0, 0), (225, .lstore 8, 2, 0, 0, 0), (227, .goto 34, 3, 261, 0, 0), (230, .aload_n 0, 1, 0, 0, 0), (231, .iconst 5, 1, 0, 0, 0), (232, .aload_n 0, 1, 0, 0, 0), (233, .getfield 52, 3, 11, 14, 972), (236, .iload 10, 2, 0, 0, 0), (238, .iaload, 1, 0, 0, 0), (239, .ineg, 1, 0, 0, 0), (240, .i2l, 1, 0, 0, 0), (241, .invokevirtual 70, 3, 12, 2, 943), (244, .aload_n 0, 1, 0, 0, 0), (245, .aload_n 0, 1, 0, 0, 0), (246, .iload_n 3, 1, 0, 0, 0), (247, .aload_n 0, 1, 0, 0, 0), (248, .iload 11, 2, 0, 0, 0), (250, .invokevirtual 188, 3, 13, 1, 1090), (253, .invokevirtual 170, 3, 21, 2, 1094), (256, .iconst 5, 1, 0, 0, 0), (257, .lconst 1, 1, 0, 0, 0), (258, .invokevirtual 131, 3, 15, 3, 1138), (261, .iinc 10 1, 3, 0, 0, 0), (264, .goto (-168), 3, 96, 0, 0), (267, .aload_n 0, 1, 0, 0, 0), (268, .iconst 5, 1, 0, 0, 0), (269, .lload 4, 2, 0, 0, 0), (271, .invokevirtual 70, 3, 12, 2, 943), (274, .aload_n 0, 1, 0, 0, 0), (275, .aload_n 0, 1, 0, 0, 0), (276, .iload_n 3, 1, 0, 0, 0), (277, .iload_n 3, 1, 0, 0, 0), (278, .invokevirtual 170, 3, 21, 2, 1094), (281, .iconst 5, 1, 0, 0, 0), (282, .lconst 1, 1, 0, 0, 0), (283, .invokevirtual 131, 3, 15, 3, 1138), (286, .aload_n 0, 1, 0, 0, 0), (287, .aload_n 0, 1, 0, 0, 0), (288, .iload_n 3, 1, 0, 0, 0), (289, .iload_n 1, 1, 0, 0, 0), (290, .invokevirtual 170, 3, 21, 2, 1094), (293, .lload 6, 2, 0, 0, 0), (295, .invokevirtual 70, 3, 12, 2, 943), (298, .aload_n 0, 1, 0, 0, 0), (299, .aload_n 0, 1, 0, 0, 0), (300, .iload_n 3, 1, 0, 0, 0), (301, .iload_n 1, 1, 0, 0, 0), (302, .iconst 1, 1, 0, 0, 0), (303, .iadd, 1, 0, 0, 0), (304, .invokevirtual 170, 3, 21, 2, 1094), (307, .lload 8, 2, 0, 0, 0), (309, .invokevirtual 70, 3, 12, 2, 943), (312, .iinc 2 1, 3, 0, 0, 0), (315, .goto (-296), 3, 19, 0, 0), (318, .aload_n 0, 1, 0, 0, 0), (319, .iload_n 1, 1, 0, 0, 0), (320, .invokevirtual 196, 3, 31, 1, 1102), (323, .aload_n 0, 1, 0, 0, 0), (324, .getfield 164, 3, 11, 21, 979), (327, .iload_n 1, 1, 0, 0, 0), (328, .if_icmp .ne 7, 3, 335, 0, 0), (331, .iconst 1, 1, 0, 0, 0), (332, .goto 4, 3, 336, 0, 0), (335, .iconst 0, 1, 0, 0, 0), (336, .ireturn, 1, 1, 0, 0)]
def qt57 : List eRow := [(0, .iload_n 0, 1, 0, 0, 0), (1, .ifCond .lt 13, 3, 14, 0, 0), (4, .iload_n 0, 1, 0, 0, 0), (5, .bipush 7, 2, 0, 0, 0), (7, .if_icmp .gt 7, 3, 14, 0, 0), (10, .iconst 1, 1, 0, 0, 0), (11, .goto 4, 3, 15, 0, 0), (14, .iconst 0, 1, 0, 0, 0), (15, .ireturn, 1, 1, 0, 0)]
def qt58 : List eRow := [(0, .sipush 382, 3, 0, 0, 0), (3, .istore_n 1, 1, 0, 0, 0), (4, .iconst 0, 1, 0, 0, 0), (5, .istore_n 2, 1, 0, 0, 0), (6, .iload_n 2, 1, 0, 0, 0), (7, .iconst 3, 1, 0, 0, 0), (8, .if_icmp .ge 17, 3, 25, 0, 0), (11, .aload_n 0, 1, 0, 0, 0), (12, .iload_n 1, 1, 0, 0, 0), (13, .iload_n 2, 1, 0, 0, 0), (14, .iadd, 1, 0, 0, 0), (15, .lconst 0, 1, 0, 0, 0), (16, .invokevirtual 70, 3, 12, 2, 943), (19, .iinc 2 1, 3, 0, 0, 0), (22, .goto (-16), 3, 6, 0, 0), (25, .iconst 0, 1, 0, 0, 0), (26, .istore_n 2, 1, 0, 0, 0), (27, .iload_n 2, 1, 0, 0, 0), (28, .aload_n 0, 1, 0, 0, 0), (29, .getfield 235, 3, 11, 23, 981), (32, .if_icmp .ge 120, 3, 152, 0, 0), (35, .iconst 0, 1, 0, 0, 0), (36, .istore_n 3, 1, 0, 0, 0), (37, .iload_n 3, 1, 0, 0, 0), (38, .iconst 3, 1, 0, 0, 0), (39, .if_icmp .ge 24, 3, 63, 0, 0), (42, .aload_n 0, 1, 0, 0, 0), (43, .sipush 385, 3, 0, 0, 0), (46, .iload_n 3, 1, 0, 0, 0), (47, .iadd, 1, 0, 0, 0), (48, .aload_n 0, 1, 0, 0, 0), (49, .iload_n 2, 1, 0, 0, 0), (50, .iload_n 3, 1, 0, 0, 0), (51, .invokevirtual 229, 3, 41, 2, 1235), (54, .invokevirtual 115, 3, 20, 2, 1110), (57, .iinc 3 1, 3, 0, 0, 0), (60, .goto (-23), 3, 37, 0, 0), (63, .aload_n 0, 1, 0, 0, 0), (64, .sipush 385, 3, 0, 0, 0), (67, .iload_n 1, 1, 0, 0, 0), (68, .invokevirtual 244, 3, 45, 2, 1243), (71, .iconst 0, 1, 0, 0, 0), (72, .istore_n 3, 1, 0, 0, 0), (73, .iload_n 3, 1, 0, 0, 0), (74, .aload_n 0, 1, 0, 0, 0), (75, .getfield 235, 3, 11, 23, 981), (78, .if_icmp .ge 68, 3, 146, 0, 0), (81, .iload_n 2, 1, 0, 0, 0), (82, .iload_n 3, 1, 0, 0, 0), (83, .if_icmp .ne 6, 3, 89, 0, 0), (86, .goto 54, 3, 140, 0, 0), (89, .aload_n 0, 1, 0, 0, 0), (90, .sipush 388, 3, 0, 0, 0), (93, .aload_n 0, 1, 0, 0, 0), (94, .iload_n 2, 1, 0, 0, 0), (95, .iconst 0, 1, 0, 0, 0), (96, .invokevirtual 229, 3, 41, 2, 1235), (99, .aload_n 0, 1, 0, 0, 0), (100, .iload_n 3, 1, 0, 0, 0), (101, .iconst 0, 1, 0, 0, 0), (102, .invokevirtual 229, 3, 41, 2, 1235), (105, .invokevirtual 247, 3, 47, 3, 1259), (108, .aload_n 0, 1, 0, 0, 0), (109, .sipush 391, 3, 0, 0, 0), (112, .aload_n 0, 1, 0, 0, 0), (113, .iload_n 2, 1, 0, 0, 0), (114, .iconst 0, 1, 0, 0, 0), (115, .invokevirtual 229, 3, 41, 2, 1235), (118, .sipush 388, 3, 0, 0, 0), (121, .invokevirtual 247, 3, 47, 3, 1259), (124, .aload_n 0, 1, 0, 0, 0), (125, .sipush 388, 3, 0, 0, 0), (128, .iload_n 1, 1, 0, 0, 0), (129, .invokevirtual 244, 3, 45, 2, 1243), (132, .aload_n 0, 1, 0, 0, 0), (133, .sipush 391, 3, 0, 0, 0), (136, .iload_n 1, 1, 0, 0, 0), (137, .invokevirtual 244, 3, 45, 2, 1243), (140, .iinc 3 1, 3, 0, 0, 0), (143, .goto (-70), 3, 73, 0, 0), (146, .iinc 2 1, 3, 0, 0, 0), (149, .goto (-122), 3, 27, 0, 0), (152, .iconst 0, 1, 0, 0, 0), (153, .istore_n 2, 1, 0, 0, 0), (154, .iload_n 2, 1, 0, 0, 0), (155, .aload_n 0, 1, 0, 0, 0), (156, .getfield 235, 3, 11, 23, 981), (159, .if_icmp .ge 20, 3, 179, 0, 0), (162, .aload_n 0, 1, 0, 0, 0), (163, .iload_n 2, 1, 0, 0, 0), (164, .iload_n 1, 1, 0, 0, 0), (165, .invokevirtual 238, 3, 43, 2, 1251), (168, .ifCond .gt 5, 3, 173, 0, 0), (171, .iconst 0, 1, 0, 0, 0), (172, .ireturn, 1, 1, 0, 0), (173, .iinc 2 1, 3, 0, 0, 0), (176, .goto (-22), 3, 154, 0, 0), (179, .iconst 1, 1, 0, 0, 0), (180, .ireturn, 1, 1, 0, 0)]
def qt59 : List eRow := [(0, .iload_n 0, 1, 0, 0, 0), (1, .sipush (-1000), 3, 0, 0, 0), (4, .if_icmp .lt 14, 3, 18, 0, 0), (7, .iload_n 0, 1, 0, 0, 0), (8, .sipush 1000, 3, 0, 0, 0), (11, .if_icmp .gt 7, 3, 18, 0, 0), (14, .iconst 1, 1, 0, 0, 0), (15, .goto 4, 3, 19, 0, 0), (18, .iconst 0, 1, 0, 0, 0), (19, .ireturn, 1, 1, 0, 0)]
def qt60 : List eRow := [(0, .aload_n 0, 1, 0, 0, 0), (1, .iload_n 1, 1, 0, 0, 0), (2, .invokevirtual 155, 3, 55, 1, 1063), (5, .ifCond .eq 12, 3, 17, 0, 0), (8, .iload_n 2, 1, 0, 0, 0), (9, .ifCond .lt 8, 3, 17, 0, 0), (12, .iload_n 2, 1, 0, 0, 0), (13, .iconst 1, 1, 0, 0, 0), (14, .if_icmp .le 5, 3, 19, 0, 0), (17, .iconst 0, 1, 0, 0, 0), (18, .ireturn, 1, 1, 0, 0), (19, .aload_n 0, 1, 0, 0, 0), (20, .iconst 5, 1, 0, 0, 0), (21, .aload_n 0, 1, 0, 0, 0), (22, .iload_n 1, 1, 0, 0, 0), (23, .iload_n 2, 1, 0, 0, 0), (24, .iconst 1, 1, 0, 0, 0), (25, .invokevirtual 214, 3, 48, 3, 1199), (28, .invokevirtual 70, 3, 12, 2, 943), (31, .aload_n 0, 1, 0, 0, 0), (32, .bipush 6, 2, 0, 0, 0), (34, .lconst 1, 1, 0, 0, 0), (35, .invokevirtual 70, 3, 12, 2, 943), (38, .aload_n 0, 1, 0, 0, 0), (39, .iconst 5, 1, 0, 0, 0), (40, .bipush 6, 2, 0, 0, 0), (42, .invokevirtual 208, 3, 38, 2, 1163), (45, .iconst 1, 1, 0, 0, 0), (46, .ireturn, 1, 1, 0, 0)]
def qt61 : List eRow := [(0, .aload_n 0, 1, 0, 0, 0), (1, .iload_n 1, 1, 0, 0, 0), (2, .invokevirtual 155, 3, 55, 1, 1063), (5, .ifCond .ne 6, 3, 11, 0, 0), (8, .bipush (-2), 2, 0, 0, 0), (10, .ireturn, 1, 0, 0, 0), (11, .iload_n 2, 1, 0, 0, 0), (12, .invokestatic 158, 3, 59, 1, 1067), (15, .ifCond .eq 10, 3, 25, 0, 0), (18, .iload_n 3, 1, 0, 0, 0), (19, .invokestatic 158, 3, 59, 1, 1067), (22, .ifCond .ne 6, 3, 28, 0, 0), (25, .bipush (-4), 2, 0, 0, 0), (27, .ireturn, 1, 0, 0, 0), (28, .aload_n 0, 1, 0, 0, 0), (29, .getfield 37, 3, 11, 8, 966), (32, .iload_n 1, 1, 0, 0, 0), (33, .iload_n 2, 1, 0, 0, 0), (34, .iastore, 1, 0, 0, 0), (35, .aload_n 0, 1, 0, 0, 0), (36, .getfield 40, 3, 11, 9, 967), (39, .iload_n 1, 1, 0, 0, 0), (40, .iload_n 3, 1, 0, 0, 0), (41, .iastore, 1, 0, 0, 0), (42, .iconst 0, 1, 0, 0, 0), (43, .ireturn, 1, 0, 0, 0)]
def qt62 : List eRow := [(0, .aload_n 1, 1, 0, 0, 0), (1, .invokestatic 103, 3, 26, 1, 1134), (4, .istore_n 2, 1, 0, 0, 0), (5, .iload_n 2, 1, 0, 0, 0), (6, .ifCond .ne 7, 3, 13, 0, 0), (9, .iconst 1, 1, 0, 0, 0), (10, .goto 4, 3, 14, 0, 0), (13, .iload_n 2, 1, 0, 0, 0), (14, .ireturn, 1, 0, 0, 0)]
def qt63 : List eRow := [(0, .iload_n 1, 1, 0, 0, 0), (1, .ifCond .ne 9, 3, 10, 0, 0), (4, .aload_n 0, 1, 0, 0, 0), (5, .iconst 0, 1, 0, 0, 0), (6, .invokevirtual 232, 3, 42, 1, 1255), (9, .ireturn, 1, 0, 0, 0), (10, .iload_n 1, 1, 0, 0, 0), (11, .iconst 1, 1, 0, 0, 0), (12, .if_icmp .eq 10, 3, 22, 0, 0), (15, .iload_n 1, 1, 0, 0, 0), (16, .iconst 2, 1, 0, 0, 0), (17, .if_icmp .eq 5, 3, 22, 0, 0), (20, .iconst (-1), 1, 0, 0, 0), (21, .ireturn, 1, 0, 0, 0), (22, .aload_n 0, 1, 0, 0, 0), (23, .iload_n 1, 1, 0, 0, 0), (24, .iconst 1, 1, 0, 0, 0), (25, .if_icmp .ne 7, 3, 32, 0, 0), (28, .iconst 0, 1, 0, 0, 0), (29, .goto 4, 3, 33, 0, 0), (32, .iconst 1, 1, 0, 0, 0), (33, .aload_n 0, 1, 0, 0, 0), (34, .getfield 55, 3, 11, 15, 973), (37, .invokevirtual 99, 3, 19, 2, 1126), (40, .aload_n 0, 1, 0, 0, 0), (41, .aload_n 0, 1, 0, 0, 0), (42, .getfield 55, 3, 11, 15, 973), (45, .invokevirtual 267, 3, 62, 1, 1287), (48, .ireturn, 1, 0, 0, 0)]
def qt64 : List eRow := [(0, .aload_n 0, 1, 0, 0, 0), (1, .bipush 6, 2, 0, 0, 0), (3, .aload_n 0, 1, 0, 0, 0), (4, .iload_n 1, 1, 0, 0, 0), (5, .iload_n 3, 1, 0, 0, 0), (6, .invokevirtual 256, 3, 51, 2, 1271), (9, .aload_n 0, 1, 0, 0, 0), (10, .iload_n 2, 1, 0, 0, 0), (11, .iload 4, 2, 0, 0, 0), (13, .invokevirtual 256, 3, 51, 2, 1271), (16, .invokevirtual 180, 3, 27, 3, 1118), (19, .aload_n 0, 1, 0, 0, 0), (20, .bipush 7, 2, 0, 0, 0), (22, .aload_n 0, 1, 0, 0, 0), (23, .iload_n 1, 1, 0, 0, 0), (24, .iload 4, 2, 0, 0, 0), (26, .invokevirtual 256, 3, 51, 2, 1271), (29, .aload_n 0, 1, 0, 0, 0), (30, .iload_n 2, 1, 0, 0, 0), (31, .iload_n 3, 1, 0, 0, 0), (32, .invokevirtual 256, 3, 51, 2, 1271), (35, .invokevirtual 180, 3, 27, 3, 1118), (38, .aload_n 0, 1, 0, 0, 0), (39, .iload 5, 2, 0, 0, 0), (41, .bipush 6, 2, 0, 0, 0), (43, .invokevirtual 115, 3, 20, 2, 1110), (46, .aload_n 0, 1, 0, 0, 0), (47, .iload 5, 2, 0, 0, 0), (49, .bipush 7, 2, 0, 0, 0), (51, .ldc2_w 129, 3, 1, 1, 1137), (54, .invokevirtual 131, 3, 15, 3, 1138), (57, .return_, 1, 0, 0, 0)]
def qt65 : List eRow := [(0, .aload_n 0, 1, 0, 0, 0), (1, .aload_n 0, 1, 0, 0, 0), (2, .getfield 152, 3, 11, 10, 968), (5, .putfield 167, 3, 11, 19, 977), (8, .aload_n 0, 1, 0, 0, 0), (9, .iconst 2, 1, 0, 0, 0), (10, .aload_n 0, 1, 0, 0, 0), (11, .invokevirtual 184, 3, 23, 0, 1086), (14, .imul, 1, 0, 0, 0), (15, .putfield 174, 3, 11, 20, 978), (18, .iconst 0, 1, 0, 0, 0), (19, .istore_n 1, 1, 0, 0, 0), (20, .iload_n 1, 1, 0, 0, 0), (21, .aload_n 0, 1, 0, 0, 0), (22, .getfield 152, 3, 11, 10, 968), (25, .if_icmp .ge 73, 3, 98, 0, 0), (28, .iconst 0, 1, 0, 0, 0), (29, .istore_n 2, 1, 0, 0, 0), (30, .iload_n 2, 1, 0, 0, 0), (31, .aload_n 0, 1, 0, 0, 0), (32, .getfield 23, 3, 11, 4, 962), (35, .if_icmp .ge 57, 3, 92, 0, 0), (38, .iconst 0, 1, 0, 0, 0), (39, .istore_n 3, 1, 0, 0, 0), (40, .iload_n 3, 1, 0, 0, 0), (41, .iconst 2, 1, 0, 0, 0), (42, .if_icmp .ge 44, 3, 86, 0, 0), (45, .aload_n 0, 1, 0, 0, 0), (46, .getfield 33, 3, 11, 7, 965), (49, .iload_n 2, 1, 0, 0, 0), (50, .baload, 1, 0, 0, 0), (51, .ifCond .ne 35, 3, 86, 0, 0), (54, .aload_n 0, 1, 0, 0, 0), (55, .aload_n 0, 1, 0, 0, 0), (56, .iload_n 1, 1, 0, 0, 0), (57, .iconst 2, 1, 0, 0, 0), (58, .aload_n 0, 1, 0, 0, 0), (59, .iload_n 2, 1, 0, 0, 0), (60, .invokevirtual 188, 3, 13, 1, 1090), (63, .imul, 1, 0, 0, 0), (64, .iload_n 3, 1, 0, 0, 0), (65, .iadd, 1, 0, 0, 0), (66, .invokevirtual 170, 3, 21, 2, 1094), (69, .aload_n 0, 1, 0, 0, 0), (70, .iload_n 1, 1, 0, 0, 0), (71, .iload_n 2, 1, 0, 0, 0), (72, .iload_n 3, 1, 0, 0, 0), (73, .invokevirtual 192, 3, 24, 3, 1098), (76, .i2l, 1, 0, 0, 0), (77, .invokevirtual 70, 3, 12, 2, 943), (80, .iinc 3 1, 3, 0, 0, 0), (83, .goto (-43), 3, 40, 0, 0), (86, .iinc 2 1, 3, 0, 0, 0), (89, .goto (-59), 3, 30, 0, 0), (92, .iinc 1 1, 3, 0, 0, 0), (95, .goto (-75), 3, 20, 0, 0), (98, .aload_n 0, 1, 0, 0, 0), (99, .aload_n 0, 1, 0, 0, 0), (100, .getfield 174, 3, 11, 20, 978), (103, .invokevirtual 196, 3, 31, 1, 1102), (106, .return_, 1, 0, 0, 0)]
def qt66 : List eRow := [(0, .iload_n 1, 1, 0, 0, 0), (1, .invokestatic 138, 3, 57, 1, 1035), (4, .ifCond .ne 6, 3, 10, 0, 0), (7, .bipush (-2), 2, 0, 0, 0), (9, .ireturn, 1, 0, 0, 0), (10, .aload_n 0, 1, 0, 0, 0), (11, .getfield 13, 3, 11, 1, 959), (14, .iload_n 1, 1, 0, 0, 0), (15, .iaload, 1, 0, 0, 0), (16, .ifCond .ne 6, 3, 22, 0, 0), (19, .bipush (-5), 2, 0, 0, 0), (21, .ireturn, 1, 0, 0, 0), (22, .aload_n 0, 1, 0, 0, 0), (23, .getfield 13, 3, 11, 1, 959), (26, .iload_n 1, 1, 0, 0, 0), (27, .iaload, 1, 0, 0, 0), (28, .iconst 1, 1, 0, 0, 0), (29, .isub, 1, 0, 0, 0), (30, .istore_n 2, 1, 0, 0, 0), (31, .iconst 0, 1, 0, 0, 0), (32, .istore_n 3, 1, 0, 0, 0), (33, .iconst 0, 1, 0, 0, 0), (34, .istore 4, 2, 0, 0, 0), (36, .iconst 0, 1, 0, 0, 0), (37, .istore 5, 2, 0, 0, 0), (39, .iconst 1, 1, 0, 0, 0), (40, .iconst 3, 1, 0, 0, 0), (41, .iload 4, 2, 0, 0, 0), (43, .imul, 1, 0, 0, 0), (44, .iadd, 1, 0, 0, 0), (45, .istore 6, 2, 0, 0, 0), (47, .iload_n 3, 1, 0, 0, 0), (48, .ifCond .ne 7, 3, 55, 0, 0), (51, .iconst 1, 1, 0, 0, 0), (52, .goto 25, 3, 77, 0, 0), (55, .iload_n 3, 1, 0, 0, 0), (56, .iload 6, 2, 0, 0, 0), (58, .if_icmp .gt 10, 3, 68, 0, 0), (61, .iload 6, 2, 0, 0, 0), (63, .iconst 1, 1, 0, 0, 0), (64, .iadd, 1, 0, 0, 0), (65, .goto 12, 3, 77, 0, 0), (68, .iload 6, 2, 0, 0, 0), (70, .iconst 1, 1, 0, 0, 0), (71, .iadd, 1, 0, 0, 0), (72, .iconst 3, 1, 0, 0, 0), (73, .iload 5, 2, 0, 0, 0), (75, .imul, 1, 0, 0, 0), (76, .iadd, 1, 0, 0, 0), (77, .istore 7, 2, 0, 0, 0), (79, .iload_n 3, 1, 0, 0, 0), (80, .ifCond .le 12, 3, 92, 0, 0), (83, .iload_n 3, 1, 0, 0, 0), (84, .iload 7, 2, 0, 0, 0), (86, .if_icmp .lt 6, 3, 92, 0, 0), (89, .goto 356, 3, 445, 0, 0), (92, .iload_n 3, 1, 0, 0, 0), (93, .iload_n 2, 1, 0, 0, 0), (94, .if_icmp .lt 6, 3, 100, 0, 0), (97, .bipush (-6), 2, 0, 0, 0), (99, .ireturn, 1, 0, 0, 0), (100, .aload_n 0, 1, 0, 0, 0), (101, .getfield 20, 3, 11, 3, 961), (104, .bipush 60, 2, 0, 0, 0), (106, .iload_n 1, 1, 0, 0, 0), (107, .imul, 1, 0, 0, 0), (108, .iload_n 3, 1, 0, 0, 0), (109, .iadd, 1, 0, 0, 0), (110, .laload, 1, 0, 0, 0), (111, .lstore 8, 2, 0, 0, 0), (113, .iload_n 3, 1, 0, 0, 0), (114, .ifCond .ne 7, 3, 121, 0, 0), (117, .iconst 0, 1, 0, 0, 0), (118, .goto 39, 3, 157, 0, 0), (121, .iload_n 3, 1, 0, 0, 0), (122, .iload 6, 2, 0, 0, 0), (124, .if_icmp .ge 13, 3, 137, 0, 0), (127, .iconst 1, 1, 0, 0, 0), (128, .iload_n 3, 1, 0, 0, 0), (129, .iconst 1, 1, 0, 0, 0), (130, .isub, 1, 0, 0, 0), (131, .iconst 3, 1, 0, 0, 0), (132, .irem, 1, 0, 0, 0), (133, .iadd, 1, 0, 0, 0), (134, .goto 23, 3, 157, 0, 0), (137, .iload_n 3, 1, 0, 0, 0), (138, .iload 6, 2, 0, 0, 0), (140, .if_icmp .ne 7, 3, 147, 0, 0), (143, .iconst 4, 1, 0, 0, 0), (144, .goto 13, 3, 157, 0, 0), (147, .iconst 5, 1, 0, 0, 0), (148, .iload_n 3, 1, 0, 0, 0), (149, .iload 6, 2, 0, 0, 0), (151, .isub, 1, 0, 0, 0), (152, .iconst 1, 1, 0, 0, 0), (153, .isub, 1, 0, 0, 0), (154, .iconst 3, 1, 0, 0, 0), (155, .irem, 1, 0, 0, 0), (156, .iadd, 1, 0, 0, 0), (157, .istore 10, 2, 0, 0, 0), (159, .iload 10, 2, 0, 0, 0), (161, .tableswitch 217 0 6 #[43, 69, 69, 97, 121, 147, 173], 43, 0, 0, 0), (204, .lload 8, 2, 0, 0, 0), (206, .lconst 1, 1, 0, 0, 0), (207, .lcmp, 1, 0, 0, 0), (208, .ifCond .lt 16, 3, 224, 0, 0), (211, .lload 8, 2, 0, 0, 0), (213, .ldc2_w 141, 3, 8, 0, 1050), (216, .lcmp, 1, 0, 0, 0), (217, .ifCond .gt 7, 3, 224, 0, 0), (220, .iconst 1, 1, 0, 0, 0), (221, .goto 4, 3, 225, 0, 0), (224, .iconst 0, 1, 0, 0, 0), (225, .istore 11, 2, 0, 0, 0), (227, .goto 174, 3, 401, 0, 0), (230, .lload 8, 2, 0, 0, 0), (232, .ldc2_w 143, 3, 20, 1, 1051), (235, .lcmp, 1, 0, 0, 0), (236, .ifCond .lt 16, 3, 252, 0, 0), (239, .lload 8, 2, 0, 0, 0), (241, .ldc2_w 145, 3, 20, 0, 1052), (244, .lcmp, 1, 0, 0, 0), (245, .ifCond .gt 7, 3, 252, 0, 0), (248, .iconst 1, 1, 0, 0, 0), (249, .goto 4, 3, 253, 0, 0), (252, .iconst 0, 1, 0, 0, 0), (253, .istore 11, 2, 0, 0, 0), (255, .goto 146, 3, 401, 0, 0), (258, .lload 8, 2, 0, 0, 0), (260, .lconst 0, 1, 0, 0, 0), (261, .lcmp, 1, 0, 0, 0), (262, .ifCond .eq 10, 3, 272, 0, 0), (265, .lload 8, 2, 0, 0, 0), (267, .lconst 1, 1, 0, 0, 0), (268, .lcmp, 1, 0, 0, 0), (269, .ifCond .ne 7, 3, 276, 0, 0), (272, .iconst 1, 1, 0, 0, 0), (273, .goto 4, 3, 277, 0, 0), (276, .iconst 0, 1, 0, 0, 0), (277, .istore 11, 2, 0, 0, 0), (279, .goto 122, 3, 401, 0, 0), (282, .lload 8, 2, 0, 0, 0), (284, .lconst 0, 1, 0, 0, 0), (285, .lcmp, 1, 0, 0, 0), (286, .ifCond .lt 16, 3, 302, 0, 0), (289, .lload 8, 2, 0, 0, 0), (291, .ldc2_w 147, 3, 14, 0, 1053), (294, .lcmp, 1, 0, 0, 0), (295, .ifCond .gt 7, 3, 302, 0, 0), (298, .iconst 1, 1, 0, 0, 0), (299, .goto 4, 3, 303, 0, 0), (302, .iconst 0, 1, 0, 0, 0), (303, .istore 11, 2, 0, 0, 0), (305, .goto 96, 3, 401, 0, 0), (308, .lload 8, 2, 0, 0, 0), (310, .lconst 0, 1, 0, 0, 0), (311, .lcmp, 1, 0, 0, 0), (312, .ifCond .lt 16, 3, 328, 0, 0), (315, .lload 8, 2, 0, 0, 0), (317, .iload 4, 2, 0, 0, 0), (319, .i2l, 1, 0, 0, 0), (320, .lcmp, 1, 0, 0, 0), (321, .ifCond .ge 7, 3, 328, 0, 0), (324, .iconst 1, 1, 0, 0, 0), (325, .goto 4, 3, 329, 0, 0), (328, .iconst 0, 1, 0, 0, 0), (329, .istore 11, 2, 0, 0, 0), (331, .goto 70, 3, 401, 0, 0), (334, .lload 8, 2, 0, 0, 0), (336, .lconst 0, 1, 0, 0, 0), (337, .lcmp, 1, 0, 0, 0), (338, .ifCond .lt 34, 3, 372, 0, 0), (341, .lload 8, 2, 0, 0, 0), (343, .iload 4, 2, 0, 0, 0), (345, .i2l, 1, 0, 0, 0), (346, .lcmp, 1, 0, 0, 0), (347, .ifCond .ge 25, 3, 372, 0, 0), (350, .aload_n 0, 1, 0, 0, 0), (351, .aload_n 0, 1, 0, 0, 0), (352, .getfield 64, 3, 11, 18, 976), (355, .iload_n 3, 1, 0, 0, 0), (356, .iconst 1, 1, 0, 0, 0), (357, .isub, 1, 0, 0, 0), (358, .iaload, 1, 0, 0, 0), (359, .lload 8, 2, 0, 0, 0), (361, .l2i, 1, 0, 0, 0), (362, .invokevirtual 149, 3, 54, 2, 1054), (365, .ifCond .eq 7, 3, 372, 0, 0), (368, .iconst 1, 1, 0, 0, 0), (369, .goto 4, 3, 373, 0, 0), (372, .iconst 0, 1, 0, 0, 0), (373, .istore 11, 2, 0, 0, 0), (375, .goto 26, 3, 401, 0, 0), (378, .lload 8, 2, 0, 0, 0), (380, .lconst 0, 1, 0, 0, 0), (381, .lcmp, 1, 0, 0, 0), (382, .ifCond .lt 16, 3, 398, 0, 0), (385, .lload 8, 2, 0, 0, 0), (387, .ldc2_w 109, 3, 2, 0, 1058), (390, .lcmp, 1, 0, 0, 0), (391, .ifCond .gt 7, 3, 398, 0, 0), (394, .iconst 1, 1, 0, 0, 0), (395, .goto 4, 3, 399, 0, 0), (398, .iconst 0, 1, 0, 0, 0), (399, .istore 11, 2, 0, 0, 0), (401, .iload 11, 2, 0, 0, 0), (403, .ifCond .ne 6, 3, 409, 0, 0), (406, .bipush (-4), 2, 0, 0, 0), (408, .ireturn, 1, 0, 0, 0), (409, .aload_n 0, 1, 0, 0, 0), (410, .getfield 64, 3, 11, 18, 976), (413, .iload_n 3, 1, 0, 0, 0), (414, .lload 8, 2, 0, 0, 0), (416, .l2i, 1, 0, 0, 0), (417, .iastore, 1, 0, 0, 0), (418, .iload 10, 2, 0, 0, 0), (420, .ifCond .ne 8, 3, 428, 0, 0), (423, .lload 8, 2, 0, 0, 0), (425, .l2i, 1, 0, 0, 0), (426, .istore 4, 2, 0, 0, 0), (428, .iload 10, 2, 0, 0, 0), (430, .iconst 4, 1, 0, 0, 0), (431, .if_icmp .ne 8, 3, 439, 0, 0), (434, .lload 8, 2, 0, 0, 0), (436, .l2i, 1, 0, 0, 0), (437, .istore 5, 2, 0, 0, 0), (439, .iinc 3 1, 3, 0, 0, 0), (442, .goto (-403), 3, 39, 0, 0), (445, .aload_n 0, 1, 0, 0, 0), (446, .iload 4, 2, 0, 0, 0), (448, .putfield 23, 3, 11, 4, 962), (451, .iconst 0, 1, 0, 0, 0), (452, .istore 6, 2, 0, 0, 0), (454, .iload 6, 2, 0, 0, 0), (456, .iload 4, 2, 0, 0, 0), (458, .if_icmp .ge 88, 3, 546, 0, 0), (461, .aload_n 0, 1, 0, 0, 0), (462, .getfield 27, 3, 11, 5, 963), (465, .iload 6, 2, 0, 0, 0), (467, .aload_n 0, 1, 0, 0, 0), (468, .getfield 64, 3, 11, 18, 976), (471, .iconst 1, 1, 0, 0, 0), (472, .iconst 3, 1, 0, 0, 0), (473, .iload 6, 2, 0, 0, 0), (475, .imul, 1, 0, 0, 0), (476, .iadd, 1, 0, 0, 0), (477, .iaload, 1, 0, 0, 0), (478, .iastore, 1, 0, 0, 0), (479, .aload_n 0, 1, 0, 0, 0), (480, .getfield 30, 3, 11, 6, 964), (483, .iload 6, 2, 0, 0, 0), (485, .aload_n 0, 1, 0, 0, 0), (486, .getfield 64, 3, 11, 18, 976), (489, .iconst 2, 1, 0, 0, 0), (490, .iconst 3, 1, 0, 0, 0), (491, .iload 6, 2, 0, 0, 0), (493, .imul, 1, 0, 0, 0), (494, .iadd, 1, 0, 0, 0), (495, .iaload, 1, 0, 0, 0), (496, .iastore, 1, 0, 0, 0), (497, .aload_n 0, 1, 0, 0, 0), (498, .getfield 33, 3, 11, 7, 965), (501, .iload 6, 2, 0, 0, 0), (503, .aload_n 0, 1, 0, 0, 0), (504, .getfield 64, 3, 11, 18, 976), (507, .iconst 3, 1, 0, 0, 0), (508, .iconst 3, 1, 0, 0, 0), (509, .iload 6, 2, 0, 0, 0), (511, .imul, 1, 0, 0, 0), (512, .iadd, 1, 0, 0, 0), (513, .iaload, 1, 0, 0, 0), (514, .iconst 1, 1, 0, 0, 0), (515, .if_icmp .ne 7, 3, 522, 0, 0), (518, .iconst 1, 1, 0, 0, 0), (519, .goto 4, 3, 523, 0, 0), (522, .iconst 0, 1, 0, 0, 0), (523, .bastore, 1, 0, 0, 0), (524, .aload_n 0, 1, 0, 0, 0), (525, .getfield 37, 3, 11, 8, 966), (528, .iload 6, 2, 0, 0, 0), (530, .iconst 0, 1, 0, 0, 0), (531, .iastore, 1, 0, 0, 0), (532, .aload_n 0, 1, 0, 0, 0), (533, .getfield 40, 3, 11, 9, 967), (536, .iload 6, 2, 0, 0, 0), (538, .iconst 0, 1, 0, 0, 0), (539, .iastore, 1, 0, 0, 0), (540, .iinc 6 1, 3, 0, 0, 0), (543, .goto (-89), 3, 454, 0, 0), (546, .aload_n 0, 1, 0, 0, 0), (547, .iload 5, 2, 0, 0, 0), (549, .putfield 152, 3, 11, 10, 968), (552, .iconst 0, 1, 0, 0, 0), (553, .istore 6, 2, 0, 0, 0), (555, .iload 6, 2, 0, 0, 0), (557, .iload 5, 2, 0, 0, 0), (559, .if_icmp .ge 86, 3, 645, 0, 0), (562, .aload_n 0, 1, 0, 0, 0), (563, .getfield 43, 3, 11, 11, 969), (566, .iload 6, 2, 0, 0, 0), (568, .aload_n 0, 1, 0, 0, 0), (569, .getfield 64, 3, 11, 18, 976), (572, .iconst 2, 1, 0, 0, 0), (573, .iconst 3, 1, 0, 0, 0), (574, .iload 4, 2, 0, 0, 0), (576, .imul, 1, 0, 0, 0), (577, .iadd, 1, 0, 0, 0), (578, .iconst 3, 1, 0, 0, 0), (579, .iload 6, 2, 0, 0, 0), (581, .imul, 1, 0, 0, 0), (582, .iadd, 1, 0, 0, 0), (583, .iaload, 1, 0, 0, 0), (584, .iastore, 1, 0, 0, 0), (585, .aload_n 0, 1, 0, 0, 0), (586, .getfield 46, 3, 11, 12, 970), (589, .iload 6, 2, 0, 0, 0), (591, .aload_n 0, 1, 0, 0, 0), (592, .getfield 64, 3, 11, 18, 976), (595, .iconst 3, 1, 0, 0, 0), (596, .iconst 3, 1, 0, 0, 0), (597, .iload 4, 2, 0, 0, 0), (599, .imul, 1, 0, 0, 0), (600, .iadd, 1, 0, 0, 0), (601, .iconst 3, 1, 0, 0, 0), (602, .iload 6, 2, 0, 0, 0), (604, .imul, 1, 0, 0, 0), (605, .iadd, 1, 0, 0, 0), (606, .iaload, 1, 0, 0, 0), (607, .iastore, 1, 0, 0, 0), (608, .aload_n 0, 1, 0, 0, 0), (609, .getfield 49, 3, 11, 13, 971), (612, .iload 6, 2, 0, 0, 0), (614, .aload_n 0, 1, 0, 0, 0), (615, .getfield 64, 3, 11, 18, 976), (618, .iconst 4, 1, 0, 0, 0), (619, .iconst 3, 1, 0, 0, 0), (620, .iload 4, 2, 0, 0, 0), (622, .imul, 1, 0, 0, 0), (623, .iadd, 1, 0, 0, 0), (624, .iconst 3, 1, 0, 0, 0), (625, .iload 6, 2, 0, 0, 0), (627, .imul, 1, 0, 0, 0), (628, .iadd, 1, 0, 0, 0), (629, .iaload, 1, 0, 0, 0), (630, .iastore, 1, 0, 0, 0), (631, .aload_n 0, 1, 0, 0, 0), (632, .getfield 52, 3, 11, 14, 972), (635, .iload 6, 2, 0, 0, 0), (637, .iconst 0, 1, 0, 0, 0), (638, .iastore, 1, 0, 0, 0), (639, .iinc 6 1, 3, 0, 0, 0), (642, .goto (-87), 3, 555, 0, 0), (645, .iload 5, 2, 0, 0, 0), (647, .ireturn, 1, 0, 0, 0)]
def qt67 : List eRow := [(0, .aload_n 0, 1, 0, 0, 0), (1, .iload_n 1, 1, 0, 0, 0), (2, .ifCond .eq 7, 3, 9, 0, 0), (5, .iconst 1, 1, 0, 0, 0), (6, .goto 4, 3, 10, 0, 0), (9, .iconst 0, 1, 0, 0, 0), (10, .aload_n 0, 1, 0, 0, 0), (11, .getfield 55, 3, 11, 15, 973), (14, .invokevirtual 99, 3, 19, 2, 1126), (17, .iload_n 2, 1, 0, 0, 0), (18, .ifCond .lt 9, 3, 27, 0, 0), (21, .iload_n 2, 1, 0, 0, 0), (22, .bipush 24, 2, 0, 0, 0), (24, .if_icmp .lt 7, 3, 31, 0, 0), (27, .iconst 0, 1, 0, 0, 0), (28, .goto 10, 3, 38, 0, 0), (31, .aload_n 0, 1, 0, 0, 0), (32, .getfield 55, 3, 11, 15, 973), (35, .iload_n 2, 1, 0, 0, 0), (36, .laload, 1, 0, 0, 0), (37, .l2i, 1, 0, 0, 0), (38, .ireturn, 1, 0, 0, 0)]
def qt68 : List eRow := [(0, .aload_n 0, 1, 0, 0, 0), (1, .iload_n 1, 1, 0, 0, 0), (2, .invokevirtual 161, 3, 34, 1, 1074), (5, .ifCond .ne 6, 3, 11, 0, 0), (8, .bipush (-2), 2, 0, 0, 0), (10, .ireturn, 1, 0, 0, 0), (11, .iload_n 2, 1, 0, 0, 0), (12, .invokestatic 158, 3, 59, 1, 1067), (15, .ifCond .ne 6, 3, 21, 0, 0), (18, .bipush (-4), 2, 0, 0, 0), (20, .ireturn, 1, 0, 0, 0), (21, .aload_n 0, 1, 0, 0, 0), (22, .getfield 52, 3, 11, 14, 972), (25, .iload_n 1, 1, 0, 0, 0), (26, .iload_n 2, 1, 0, 0, 0), (27, .iastore, 1, 0, 0, 0), (28, .iconst 0, 1, 0, 0, 0), (29, .ireturn, 1, 0, 0, 0)]
def qt69 : List eRow := [(0, .iload_n 1, 1, 0, 0, 0), (1, .invokestatic 138, 3, 57, 1, 1035), (4, .ifCond .eq 18, 3, 22, 0, 0), (7, .iload_n 2, 1, 0, 0, 0), (8, .ifCond .lt 14, 3, 22, 0, 0), (11, .iload_n 2, 1, 0, 0, 0), (12, .iconst 3, 1, 0, 0, 0), (13, .if_icmp .gt 9, 3, 22, 0, 0), (16, .iload_n 3, 1, 0, 0, 0), (17, .bipush 60, 2, 0, 0, 0), (19, .if_icmp .le 6, 3, 25, 0, 0), (22, .bipush (-2), 2, 0, 0, 0), (24, .ireturn, 1, 0, 0, 0), (25, .iload_n 3, 1, 0, 0, 0), (26, .ifCond .ge 6, 3, 32, 0, 0), (29, .bipush (-3), 2, 0, 0, 0), (31, .ireturn, 1, 0, 0, 0), (32, .aload_n 0, 1, 0, 0, 0), (33, .getfield 13, 3, 11, 1, 959), (36, .iload_n 1, 1, 0, 0, 0), (37, .iload_n 3, 1, 0, 0, 0), (38, .iconst 1, 1, 0, 0, 0), (39, .iadd, 1, 0, 0, 0), (40, .iastore, 1, 0, 0, 0), (41, .aload_n 0, 1, 0, 0, 0), (42, .getfield 17, 3, 11, 2, 960), (45, .iload_n 1, 1, 0, 0, 0), (46, .iload_n 2, 1, 0, 0, 0), (47, .iastore, 1, 0, 0, 0), (48, .iconst 0, 1, 0, 0, 0), (49, .istore 4, 2, 0, 0, 0), (51, .iload 4, 2, 0, 0, 0), (53, .iload_n 3, 1, 0, 0, 0), (54, .if_icmp .ge 22, 3, 76, 0, 0), (57, .aload_n 0, 1, 0, 0, 0), (58, .getfield 20, 3, 11, 3, 961), (61, .bipush 60, 2, 0, 0, 0), (63, .iload_n 1, 1, 0, 0, 0), (64, .imul, 1, 0, 0, 0), (65, .iload 4, 2, 0, 0, 0), (67, .iadd, 1, 0, 0, 0), (68, .lconst 0, 1, 0, 0, 0), (69, .lastore, 1, 0, 0, 0), (70, .iinc 4 1, 3, 0, 0, 0), (73, .goto (-22), 3, 51, 0, 0), (76, .iconst 0, 1, 0, 0, 0), (77, .ireturn, 1, 0, 0, 0)]
def qt70 : List eRow := [(0, .aload_n 0, 1, 0, 0, 0), (1, .invokevirtual 226, 3, 56, 0, 1223), (4, .ifCond .eq 20, 3, 24, 0, 0), (7, .aload_n 0, 1, 0, 0, 0), (8, .iload_n 1, 1, 0, 0, 0), (9, .invokevirtual 155, 3, 55, 1, 1063), (12, .ifCond .eq 12, 3, 24, 0, 0), (15, .iload_n 2, 1, 0, 0, 0), (16, .ifCond .lt 8, 3, 24, 0, 0), (19, .iload_n 2, 1, 0, 0, 0), (20, .iconst 1, 1, 0, 0, 0), (21, .if_icmp .le 5, 3, 26, 0, 0), (24, .iconst 0, 1, 0, 0, 0), (25, .ireturn, 1, 1, 0, 0), (26, .aload_n 0, 1, 0, 0, 0), (27, .getfield 33, 3, 11, 7, 965), (30, .iload_n 1, 1, 0, 0, 0), (31, .baload, 1, 0, 0, 0), (32, .ifCond .eq 45, 3, 77, 0, 0), (35, .aload_n 0, 1, 0, 0, 0), (36, .iconst 5, 1, 0, 0, 0), (37, .iload_n 2, 1, 0, 0, 0), (38, .ifCond .ne 13, 3, 51, 0, 0), (41, .aload_n 0, 1, 0, 0, 0), (42, .getfield 27, 3, 11, 5, 963), (45, .iload_n 1, 1, 0, 0, 0), (46, .iaload, 1, 0, 0, 0), (47, .i2l, 1, 0, 0, 0), (48, .goto 10, 3, 58, 0, 0), (51, .aload_n 0, 1, 0, 0, 0), (52, .getfield 30, 3, 11, 6, 964), (55, .iload_n 1, 1, 0, 0, 0), (56, .iaload, 1, 0, 0, 0), (57, .i2l, 1, 0, 0, 0), (58, .invokevirtual 70, 3, 12, 2, 943), (61, .aload_n 0, 1, 0, 0, 0), (62, .bipush 6, 2, 0, 0, 0), (64, .lconst 1, 1, 0, 0, 0), (65, .invokevirtual 70, 3, 12, 2, 943), (68, .aload_n 0, 1, 0, 0, 0), (69, .iconst 5, 1, 0, 0, 0), (70, .bipush 6, 2, 0, 0, 0), (72, .invokevirtual 208, 3, 38, 2, 1163), (75, .iconst 1, 1, 0, 0, 0), (76, .ireturn, 1, 1, 0, 0), (77, .aload_n 0, 1, 0, 0, 0), (78, .iconst 5, 1, 0, 0, 0), (79, .aload_n 0, 1, 0, 0, 0), (80, .aload_n 0, 1, 0, 0, 0), (81, .getfield 67, 3, 11, 22, 980), (84, .aload_n 0, 1, 0, 0, 0), (85, .iload_n 1, 1, 0, 0, 0), (86, .invokevirtual 188, 3, 13, 1, 1090), (89, .iaload, 1, 0, 0, 0), (90, .aload_n 0, 1, 0, 0, 0), (91, .invokevirtual 184, 3, 23, 0, 1086), (94, .iload_n 2, 1, 0, 0, 0), (95, .iadd, 1, 0, 0, 0), (96, .invokevirtual 170, 3, 21, 2, 1094), (99, .invokevirtual 115, 3, 20, 2, 1110), (102, .aload_n 0, 1, 0, 0, 0), (103, .iconst 5, 1, 0, 0, 0), (104, .bipush 8, 2, 0, 0, 0), (106, .invokevirtual 208, 3, 38, 2, 1163), (109, .iconst 1, 1, 0, 0, 0), (110, .ireturn, 1, 1, 0, 0)]
def qt71 : List eRow := [(0, .aload_n 0, 1, 0, 0, 0), (1, .invokevirtual 226, 3, 56, 0, 1223), (4, .ireturn, 1, 1, 0, 0)]
def qt72 : List eRow := [(0, .aload_n 0, 1, 0, 0, 0), (1, .iconst 0, 1, 0, 0, 0), (2, .invokevirtual 218, 3, 49, 1, 1195), (5, .ifCond .ne 5, 3, 10, 0, 0), (8, .iconst 0, 1, 0, 0, 0), (9, .ireturn, 1, 0, 0, 0), (10, .aload_n 0, 1, 0, 0, 0), (11, .invokevirtual 211, 3, 65, 0, 1183), (14, .aload_n 0, 1, 0, 0, 0), (15, .getfield 174, 3, 11, 20, 978), (18, .aload_n 0, 1, 0, 0, 0), (19, .getfield 164, 3, 11, 21, 979), (22, .isub, 1, 0, 0, 0), (23, .istore_n 1, 1, 0, 0, 0), (24, .iload_n 1, 1, 0, 0, 0), (25, .iconst 3, 1, 0, 0, 0), (26, .if_icmp .le 6, 3, 32, 0, 0), (29, .bipush (-7), 2, 0, 0, 0), (31, .ireturn, 1, 0, 0, 0), (32, .iconst 0, 1, 0, 0, 0), (33, .istore_n 2, 1, 0, 0, 0), (34, .iload_n 2, 1, 0, 0, 0), (35, .iload_n 1, 1, 0, 0, 0), (36, .if_icmp .ge 56, 3, 92, 0, 0), (39, .aload_n 0, 1, 0, 0, 0), (40, .aload_n 0, 1, 0, 0, 0), (41, .getfield 174, 3, 11, 20, 978), (44, .iload_n 2, 1, 0, 0, 0), (45, .invokevirtual 202, 3, 52, 2, 1155), (48, .istore_n 3, 1, 0, 0, 0), (49, .iconst 0, 1, 0, 0, 0), (50, .istore 4, 2, 0, 0, 0), (52, .iload 4, 2, 0, 0, 0), (54, .aload_n 0, 1, 0, 0, 0), (55, .getfield 174, 3, 11, 20, 978), (58, .if_icmp .ge 28, 3, 86, 0, 0), (61, .aload_n 0, 1, 0, 0, 0), (62, .iload_n 3, 1, 0, 0, 0), (63, .iload 4, 2, 0, 0, 0), (65, .invokevirtual 205, 3, 22, 2, 1159), (68, .aload_n 0, 1, 0, 0, 0), (69, .aload_n 0, 1, 0, 0, 0), (70, .iload_n 2, 1, 0, 0, 0), (71, .iload 4, 2, 0, 0, 0), (73, .invokevirtual 253, 3, 14, 2, 1267), (76, .iconst 5, 1, 0, 0, 0), (77, .invokevirtual 115, 3, 20, 2, 1110), (80, .iinc 4 1, 3, 0, 0, 0), (83, .goto (-31), 3, 52, 0, 0), (86, .iinc 2 1, 3, 0, 0, 0), (89, .goto (-55), 3, 34, 0, 0), (92, .iconst 0, 1, 0, 0, 0), (93, .istore_n 2, 1, 0, 0, 0), (94, .iload_n 2, 1, 0, 0, 0), (95, .iload_n 1, 1, 0, 0, 0), (96, .if_icmp .ge 114, 3, 210, 0, 0), (99, .iconst 0, 1, 0, 0, 0), (100, .istore_n 3, 1, 0, 0, 0), (101, .iload_n 3, 1, 0, 0, 0), (102, .iload_n 1, 1, 0, 0, 0), (103, .if_icmp .ge 101, 3, 204, 0, 0), (106, .aload_n 0, 1, 0, 0, 0), (107, .aload_n 0, 1, 0, 0, 0), (108, .iload_n 2, 1, 0, 0, 0), (109, .iload_n 3, 1, 0, 0, 0), (110, .invokevirtual 256, 3, 51, 2, 1271), (113, .lconst 0, 1, 0, 0, 0), (114, .invokevirtual 70, 3, 12, 2, 943), (117, .iconst 0, 1, 0, 0, 0), (118, .istore 4, 2, 0, 0, 0), (120, .iload 4, 2, 0, 0, 0), (122, .aload_n 0, 1, 0, 0, 0), (123, .getfield 152, 3, 11, 10, 968), (126, .if_icmp .ge 72, 3, 198, 0, 0), (129, .iconst 0, 1, 0, 0, 0), (130, .istore 5, 2, 0, 0, 0), (132, .iload 5, 2, 0, 0, 0), (134, .iconst 2, 1, 0, 0, 0), (135, .if_icmp .ge 57, 3, 192, 0, 0), (138, .aload_n 0, 1, 0, 0, 0), (139, .iload_n 2, 1, 0, 0, 0), (140, .iload 4, 2, 0, 0, 0), (142, .iload 5, 2, 0, 0, 0), (144, .iconst 4, 1, 0, 0, 0), (145, .invokevirtual 259, 3, 16, 4, 1275), (148, .aload_n 0, 1, 0, 0, 0), (149, .iload_n 3, 1, 0, 0, 0), (150, .iload 4, 2, 0, 0, 0), (152, .iload 5, 2, 0, 0, 0), (154, .iconst 5, 1, 0, 0, 0), (155, .invokevirtual 259, 3, 16, 4, 1275), (158, .aload_n 0, 1, 0, 0, 0), (159, .bipush 6, 2, 0, 0, 0), (161, .iconst 4, 1, 0, 0, 0), (162, .iconst 5, 1, 0, 0, 0), (163, .invokevirtual 180, 3, 27, 3, 1118), (166, .aload_n 0, 1, 0, 0, 0), (167, .aload_n 0, 1, 0, 0, 0), (168, .iload_n 2, 1, 0, 0, 0), (169, .iload_n 3, 1, 0, 0, 0), (170, .invokevirtual 256, 3, 51, 2, 1271), (173, .bipush 6, 2, 0, 0, 0), (175, .aload_n 0, 1, 0, 0, 0), (176, .getfield 52, 3, 11, 14, 972), (179, .iload 4, 2, 0, 0, 0), (181, .iaload, 1, 0, 0, 0), (182, .i2l, 1, 0, 0, 0), (183, .invokevirtual 131, 3, 15, 3, 1138), (186, .iinc 5 1, 3, 0, 0, 0), (189, .goto (-57), 3, 132, 0, 0), (192, .iinc 4 1, 3, 0, 0, 0), (195, .goto (-75), 3, 120, 0, 0), (198, .iinc 3 1, 3, 0, 0, 0), (201, .goto (-100), 3, 101, 0, 0), (204, .iinc 2 1, 3, 0, 0, 0), (207, .goto (-113), 3, 94, 0, 0), (210, .iload_n 1, 1, 0, 0, 0), (211, .ifCond .le 18, 3, 229, 0, 0), (214, .aload_n 0, 1, 0, 0, 0), (215, .aload_n 0, 1, 0, 0, 0), (216, .iconst 0, 1, 0, 0, 0), (217, .iconst 0, 1, 0, 0, 0), (218, .invokevirtual 256, 3, 51, 2, 1271), (221, .invokevirtual 232, 3, 42, 1, 1255), (224, .ifCond .gt 5, 3, 229, 0, 0), (227, .iconst 0, 1, 0, 0, 0), (228, .ireturn, 1, 0, 0, 0), (229, .iload_n 1, 1, 0, 0, 0), (230, .iconst 1, 1, 0, 0, 0), (231, .if_icmp .le 26, 3, 257, 0, 0), (234, .aload_n 0, 1, 0, 0, 0), (235, .iconst 0, 1, 0, 0, 0), (236, .iconst 1, 1, 0, 0, 0), (237, .iconst 0, 1, 0, 0, 0), (238, .iconst 1, 1, 0, 0, 0), (239, .sipush 394, 3, 0, 0, 0), (242, .invokevirtual 263, 3, 64, 5, 1279), (245, .aload_n 0, 1, 0, 0, 0), (246, .sipush 394, 3, 0, 0, 0), (249, .invokevirtual 232, 3, 42, 1, 1255), (252, .ifCond .gt 5, 3, 257, 0, 0), (255, .iconst 0, 1, 0, 0, 0), (256, .ireturn, 1, 0, 0, 0), (257, .iload_n 1, 1, 0, 0, 0), (258, .iconst 2, 1, 0, 0, 0), (259, .if_icmp .le 80, 3, 339, 0, 0), (262, .aload_n 0, 1, 0, 0, 0), (263, .sipush 395, 3, 0, 0, 0), (266, .lconst 0, 1, 0, 0, 0), (267, .invokevirtual 70, 3, 12, 2, 943), (270, .iconst 0, 1, 0, 0, 0), (271, .istore_n 2, 1, 0, 0, 0), (272, .iload_n 2, 1, 0, 0, 0), (273, .iconst 3, 1, 0, 0, 0), (274, .if_icmp .ge 53, 3, 327, 0, 0), (277, .aload_n 0, 1, 0, 0, 0), (278, .iconst 1, 1, 0, 0, 0), (279, .iconst 2, 1, 0, 0, 0), (280, .iload_n 2, 1, 0, 0, 0), (281, .iconst 1, 1, 0, 0, 0), (282, .iadd, 1, 0, 0, 0), (283, .iconst 3, 1, 0, 0, 0), (284, .irem, 1, 0, 0, 0), (285, .iload_n 2, 1, 0, 0, 0), (286, .iconst 2, 1, 0, 0, 0), (287, .iadd, 1, 0, 0, 0), (288, .iconst 3, 1, 0, 0, 0), (289, .irem, 1, 0, 0, 0), (290, .sipush 394, 3, 0, 0, 0), (293, .invokevirtual 263, 3, 64, 5, 1279), (296, .aload_n 0, 1, 0, 0, 0), (297, .bipush 6, 2, 0, 0, 0), (299, .aload_n 0, 1, 0, 0, 0), (300, .iconst 0, 1, 0, 0, 0), (301, .iload_n 2, 1, 0, 0, 0), (302, .invokevirtual 256, 3, 51, 2, 1271), (305, .sipush 394, 3, 0, 0, 0), (308, .invokevirtual 180, 3, 27, 3, 1118), (311, .aload_n 0, 1, 0, 0, 0), (312, .sipush 395, 3, 0, 0, 0), (315, .bipush 6, 2, 0, 0, 0), (317, .lconst 1, 1, 0, 0, 0), (318, .invokevirtual 131, 3, 15, 3, 1138), (321, .iinc 2 1, 3, 0, 0, 0), (324, .goto (-52), 3, 272, 0, 0), (327, .aload_n 0, 1, 0, 0, 0), (328, .sipush 395, 3, 0, 0, 0), (331, .invokevirtual 232, 3, 42, 1, 1255), (334, .ifCond .gt 5, 3, 339, 0, 0), (337, .iconst 0, 1, 0, 0, 0), (338, .ireturn, 1, 0, 0, 0), (339, .iconst 1, 1, 0, 0, 0), (340, .ireturn, 1, 0, 0, 0)]
def qt73 : List eRow := [(0, .aload_n 0, 1, 0, 0, 0), (1, .invokevirtual 199, 3, 32, 0, 1082), (4, .iload_n 1, 1, 0, 0, 0), (5, .ifCond .ge 7, 3, 12, 0, 0), (8, .iconst (-1), 1, 0, 0, 0), (9, .goto 12, 3, 21, 0, 0), (12, .aload_n 0, 1, 0, 0, 0), (13, .aload_n 0, 1, 0, 0, 0), (14, .getfield 152, 3, 11, 10, 968), (17, .iload_n 1, 1, 0, 0, 0), (18, .invokevirtual 202, 3, 52, 2, 1155), (21, .istore_n 3, 1, 0, 0, 0), (22, .iload_n 3, 1, 0, 0, 0), (23, .iconst (-1), 1, 0, 0, 0), (24, .if_icmp .eq 11, 3, 35, 0, 0), (27, .aload_n 0, 1, 0, 0, 0), (28, .iload_n 2, 1, 0, 0, 0), (29, .invokevirtual 161, 3, 34, 1, 1074), (32, .ifCond .ne 5, 3, 37, 0, 0), (35, .iconst 0, 1, 0, 0, 0), (36, .ireturn, 1, 1, 0, 0), (37, .aload_n 0, 1, 0, 0, 0), (38, .iload_n 3, 1, 0, 0, 0), (39, .iload_n 2, 1, 0, 0, 0), (40, .invokevirtual 205, 3, 22, 2, 1159), (43, .aload_n 0, 1, 0, 0, 0), (44, .iconst 5, 1, 0, 0, 0), (45, .bipush 8, 2, 0, 0, 0), (47, .invokevirtual 208, 3, 38, 2, 1163), (50, .iconst 1, 1, 0, 0, 0), (51, .ireturn, 1, 1, 0, 0)]
def qt74 : List eRow := [(0, .aload_n 0, 1, 0, 0, 0), (1, .invokevirtual 199, 3, 32, 0, 1082), (4, .aload_n 0, 1, 0, 0, 0), (5, .getfield 152, 3, 11, 10, 968), (8, .aload_n 0, 1, 0, 0, 0), (9, .getfield 164, 3, 11, 21, 979), (12, .isub, 1, 0, 0, 0), (13, .ireturn, 1, 0, 0, 0)]
def qt75 : List eRow := [(0, .iload_n 1, 1, 0, 0, 0), (1, .invokestatic 138, 3, 57, 1, 1035), (4, .ifCond .eq 12, 3, 16, 0, 0), (7, .aload_n 0, 1, 0, 0, 0), (8, .getfield 13, 3, 11, 1, 959), (11, .iload_n 1, 1, 0, 0, 0), (12, .iaload, 1, 0, 0, 0), (13, .ifCond .ne 5, 3, 18, 0, 0), (16, .iconst 0, 1, 0, 0, 0), (17, .ireturn, 1, 1, 0, 0), (18, .aload_n 0, 1, 0, 0, 0), (19, .getfield 13, 3, 11, 1, 959), (22, .iload_n 1, 1, 0, 0, 0), (23, .iconst 0, 1, 0, 0, 0), (24, .iastore, 1, 0, 0, 0), (25, .iconst 1, 1, 0, 0, 0), (26, .ireturn, 1, 1, 0, 0)]
def qt76 : List eRow := [(0, .aload_n 0, 1, 0, 0, 0), (1, .invokevirtual 199, 3, 32, 0, 1082), (4, .aload_n 0, 1, 0, 0, 0), (5, .getfield 152, 3, 11, 10, 968), (8, .aload_n 0, 1, 0, 0, 0), (9, .getfield 164, 3, 11, 21, 979), (12, .isub, 1, 0, 0, 0), (13, .istore_n 1, 1, 0, 0, 0), (14, .iload_n 1, 1, 0, 0, 0), (15, .iconst 3, 1, 0, 0, 0), (16, .if_icmp .le 6, 3, 22, 0, 0), (19, .bipush (-7), 2, 0, 0, 0), (21, .ireturn, 1, 0, 0, 0), (22, .aload_n 0, 1, 0, 0, 0), (23, .iconst 0, 1, 0, 0, 0), (24, .putfield 235, 3, 11, 23, 981), (27, .iconst 0, 1, 0, 0, 0), (28, .istore_n 2, 1, 0, 0, 0), (29, .iload_n 2, 1, 0, 0, 0), (30, .aload_n 0, 1, 0, 0, 0), (31, .getfield 152, 3, 11, 10, 968), (34, .if_icmp .ge 117, 3, 151, 0, 0), (37, .aload_n 0, 1, 0, 0, 0), (38, .getfield 49, 3, 11, 13, 971), (41, .iload_n 2, 1, 0, 0, 0), (42, .iaload, 1, 0, 0, 0), (43, .ifCond .ne 6, 3, 49, 0, 0), (46, .goto 99, 3, 145, 0, 0), (49, .iconst 0, 1, 0, 0, 0), (50, .istore_n 3, 1, 0, 0, 0), (51, .iload_n 3, 1, 0, 0, 0), (52, .iconst 3, 1, 0, 0, 0), (53, .if_icmp .ge 82, 3, 135, 0, 0), (56, .iload_n 3, 1, 0, 0, 0), (57, .iload_n 1, 1, 0, 0, 0), (58, .if_icmp .ge 57, 3, 115, 0, 0), (61, .aload_n 0, 1, 0, 0, 0), (62, .aload_n 0, 1, 0, 0, 0), (63, .aload_n 0, 1, 0, 0, 0), (64, .getfield 152, 3, 11, 10, 968), (67, .iload_n 3, 1, 0, 0, 0), (68, .invokevirtual 202, 3, 52, 2, 1155), (71, .iload_n 2, 1, 0, 0, 0), (72, .invokevirtual 205, 3, 22, 2, 1159), (75, .aload_n 0, 1, 0, 0, 0), (76, .aload_n 0, 1, 0, 0, 0), (77, .aload_n 0, 1, 0, 0, 0), (78, .getfield 235, 3, 11, 23, 981), (81, .iload_n 3, 1, 0, 0, 0), (82, .invokevirtual 229, 3, 41, 2, 1235), (85, .iconst 5, 1, 0, 0, 0), (86, .invokevirtual 115, 3, 20, 2, 1110), (89, .aload_n 0, 1, 0, 0, 0), (90, .getfield 49, 3, 11, 13, 971), (93, .iload_n 2, 1, 0, 0, 0), (94, .iaload, 1, 0, 0, 0), (95, .iconst 2, 1, 0, 0, 0), (96, .if_icmp .ne 33, 3, 129, 0, 0), (99, .aload_n 0, 1, 0, 0, 0), (100, .aload_n 0, 1, 0, 0, 0), (101, .aload_n 0, 1, 0, 0, 0), (102, .getfield 235, 3, 11, 23, 981), (105, .iload_n 3, 1, 0, 0, 0), (106, .invokevirtual 229, 3, 41, 2, 1235), (109, .invokevirtual 96, 3, 18, 1, 1130), (112, .goto 17, 3, 129, 0, 0), (115, .aload_n 0, 1, 0, 0, 0), (116, .aload_n 0, 1, 0, 0, 0), (117, .aload_n 0, 1, 0, 0, 0), (118, .getfield 235, 3, 11, 23, 981), (121, .iload_n 3, 1, 0, 0, 0), (122, .invokevirtual 229, 3, 41, 2, 1235), (125, .lconst 0, 1, 0, 0, 0), (126, .invokevirtual 70, 3, 12, 2, 943), (129, .iinc 3 1, 3, 0, 0, 0), (132, .goto (-81), 3, 51, 0, 0), (135, .aload_n 0, 1, 0, 0, 0), (136, .dup, 1, 0, 0, 0), (137, .getfield 235, 3, 11, 23, 981), (140, .iconst 1, 1, 0, 0, 0), (141, .iadd, 1, 0, 0, 0), (142, .putfield 235, 3, 11, 23, 981), (145, .iinc 2 1, 3, 0, 0, 0), (148, .goto (-119), 3, 29, 0, 0), (151, .aload_n 0, 1, 0, 0, 0), (152, .invokevirtual 250, 3, 58, 0, 1239), (155, .ifCond .eq 7, 3, 162, 0, 0), (158, .iconst 1, 1, 0, 0, 0), (159, .goto 4, 3, 163, 0, 0), (162, .iconst 0, 1, 0, 0, 0), (163, .ireturn, 1, 0, 0, 0)]
def qt77 : List eRow := [(0, .iload_n 2, 1, 0, 0, 0), (1, .ifCond .lt 88, 3, 89, 0, 0), (4, .iload_n 2, 1, 0, 0, 0), (5, .iconst 4, 1, 0, 0, 0), (6, .if_icmp .gt 83, 3, 89, 0, 0), (9, .aload_n 0, 1, 0, 0, 0), (10, .iload_n 1, 1, 0, 0, 0), (11, .invokevirtual 155, 3, 55, 1, 1063), (14, .ifCond .ne 5, 3, 19, 0, 0), (17, .iconst 0, 1, 0, 0, 0), (18, .ireturn, 1, 0, 0, 0), (19, .iload_n 2, 1, 0, 0, 0), (20, .ifCond .ne 12, 3, 32, 0, 0), (23, .aload_n 0, 1, 0, 0, 0), (24, .getfield 27, 3, 11, 5, 963), (27, .iload_n 1, 1, 0, 0, 0), (28, .iaload, 1, 0, 0, 0), (29, .goto 59, 3, 88, 0, 0), (32, .iload_n 2, 1, 0, 0, 0), (33, .iconst 1, 1, 0, 0, 0), (34, .if_icmp .ne 12, 3, 46, 0, 0), (37, .aload_n 0, 1, 0, 0, 0), (38, .getfield 30, 3, 11, 6, 964), (41, .iload_n 1, 1, 0, 0, 0), (42, .iaload, 1, 0, 0, 0), (43, .goto 45, 3, 88, 0, 0), (46, .iload_n 2, 1, 0, 0, 0), (47, .iconst 2, 1, 0, 0, 0), (48, .if_icmp .ne 20, 3, 68, 0, 0), (51, .aload_n 0, 1, 0, 0, 0), (52, .getfield 33, 3, 11, 7, 965), (55, .iload_n 1, 1, 0, 0, 0), (56, .baload, 1, 0, 0, 0), (57, .ifCond .eq 7, 3, 64, 0, 0), (60, .iconst 1, 1, 0, 0, 0), (61, .goto 27, 3, 88, 0, 0), (64, .iconst 0, 1, 0, 0, 0), (65, .goto 23, 3, 88, 0, 0), (68, .iload_n 2, 1, 0, 0, 0), (69, .iconst 3, 1, 0, 0, 0), (70, .if_icmp .ne 12, 3, 82, 0, 0), (73, .aload_n 0, 1, 0, 0, 0), (74, .getfield 37, 3, 11, 8, 966), (77, .iload_n 1, 1, 0, 0, 0), (78, .iaload, 1, 0, 0, 0), (79, .goto 9, 3, 88, 0, 0), (82, .aload_n 0, 1, 0, 0, 0), (83, .getfield 40, 3, 11, 9, 967), (86, .iload_n 1, 1, 0, 0, 0), (87, .iaload, 1, 0, 0, 0), (88, .ireturn, 1, 0, 0, 0), (89, .iload_n 2, 1, 0, 0, 0), (90, .bipush 10, 2, 0, 0, 0), (92, .if_icmp .lt 17, 3, 109, 0, 0), (95, .iload_n 2, 1, 0, 0, 0), (96, .bipush 14, 2, 0, 0, 0), (98, .if_icmp .gt 11, 3, 109, 0, 0), (101, .aload_n 0, 1, 0, 0, 0), (102, .iload_n 1, 1, 0, 0, 0), (103, .invokevirtual 161, 3, 34, 1, 1074), (106, .ifCond .ne 5, 3, 111, 0, 0), (109, .iconst 0, 1, 0, 0, 0), (110, .ireturn, 1, 0, 0, 0), (111, .iload_n 2, 1, 0, 0, 0), (112, .bipush 14, 2, 0, 0, 0), (114, .if_icmp .ne 23, 3, 137, 0, 0), (117, .aload_n 0, 1, 0, 0, 0), (118, .invokevirtual 199, 3, 32, 0, 1082), (121, .aload_n 0, 1, 0, 0, 0), (122, .getfield 67, 3, 11, 22, 980), (125, .iload_n 1, 1, 0, 0, 0), (126, .iaload, 1, 0, 0, 0), (127, .iconst (-1), 1, 0, 0, 0), (128, .if_icmp .ne 7, 3, 135, 0, 0), (131, .iconst 0, 1, 0, 0, 0), (132, .goto 4, 3, 136, 0, 0), (135, .iconst 1, 1, 0, 0, 0), (136, .ireturn, 1, 0, 0, 0), (137, .iload_n 2, 1, 0, 0, 0), (138, .bipush 10, 2, 0, 0, 0), (140, .if_icmp .ne 12, 3, 152, 0, 0), (143, .aload_n 0, 1, 0, 0, 0), (144, .getfield 43, 3, 11, 11, 969), (147, .iload_n 1, 1, 0, 0, 0), (148, .iaload, 1, 0, 0, 0), (149, .goto 39, 3, 188, 0, 0), (152, .iload_n 2, 1, 0, 0, 0), (153, .bipush 11, 2, 0, 0, 0), (155, .if_icmp .ne 12, 3, 167, 0, 0), (158, .aload_n 0, 1, 0, 0, 0), (159, .getfield 46, 3, 11, 12, 970), (162, .iload_n 1, 1, 0, 0, 0), (163, .iaload, 1, 0, 0, 0), (164, .goto 24, 3, 188, 0, 0), (167, .iload_n 2, 1, 0, 0, 0), (168, .bipush 12, 2, 0, 0, 0), (170, .if_icmp .ne 12, 3, 182, 0, 0), (173, .aload_n 0, 1, 0, 0, 0), (174, .getfield 49, 3, 11, 13, 971), (177, .iload_n 1, 1, 0, 0, 0), (178, .iaload, 1, 0, 0, 0), (179, .goto 9, 3, 188, 0, 0), (182, .aload_n 0, 1, 0, 0, 0), (183, .getfield 52, 3, 11, 14, 972), (186, .iload_n 1, 1, 0, 0, 0), (187, .iaload, 1, 0, 0, 0), (188, .ireturn, 1, 0, 0, 0)]
def qt78 : List eRow := [(0, .aload_n 0, 1, 0, 0, 0), (1, .invokevirtual 211, 3, 65, 0, 1183), (4, .iload_n 1, 1, 0, 0, 0), (5, .ifCond .ge 7, 3, 12, 0, 0), (8, .iconst (-1), 1, 0, 0, 0), (9, .goto 12, 3, 21, 0, 0), (12, .aload_n 0, 1, 0, 0, 0), (13, .aload_n 0, 1, 0, 0, 0), (14, .getfield 174, 3, 11, 20, 978), (17, .iload_n 1, 1, 0, 0, 0), (18, .invokevirtual 202, 3, 52, 2, 1155), (21, .istore 4, 2, 0, 0, 0), (23, .iload 4, 2, 0, 0, 0), (25, .iconst (-1), 1, 0, 0, 0), (26, .if_icmp .eq 20, 3, 46, 0, 0), (29, .aload_n 0, 1, 0, 0, 0), (30, .iload_n 2, 1, 0, 0, 0), (31, .invokevirtual 155, 3, 55, 1, 1063), (34, .ifCond .eq 12, 3, 46, 0, 0), (37, .iload_n 3, 1, 0, 0, 0), (38, .ifCond .lt 8, 3, 46, 0, 0), (41, .iload_n 3, 1, 0, 0, 0), (42, .iconst 1, 1, 0, 0, 0), (43, .if_icmp .le 5, 3, 48, 0, 0), (46, .iconst 0, 1, 0, 0, 0), (47, .ireturn, 1, 1, 0, 0), (48, .aload_n 0, 1, 0, 0, 0), (49, .getfield 33, 3, 11, 7, 965), (52, .iload_n 2, 1, 0, 0, 0), (53, .baload, 1, 0, 0, 0), (54, .ifCond .eq 12, 3, 66, 0, 0), (57, .aload_n 0, 1, 0, 0, 0), (58, .iconst 5, 1, 0, 0, 0), (59, .lconst 0, 1, 0, 0, 0), (60, .invokevirtual 70, 3, 12, 2, 943), (63, .goto 18, 3, 81, 0, 0), (66, .aload_n 0, 1, 0, 0, 0), (67, .iload 4, 2, 0, 0, 0), (69, .iconst 2, 1, 0, 0, 0), (70, .aload_n 0, 1, 0, 0, 0), (71, .iload_n 2, 1, 0, 0, 0), (72, .invokevirtual 188, 3, 13, 1, 1090), (75, .imul, 1, 0, 0, 0), (76, .iload_n 3, 1, 0, 0, 0), (77, .iadd, 1, 0, 0, 0), (78, .invokevirtual 205, 3, 22, 2, 1159), (81, .aload_n 0, 1, 0, 0, 0), (82, .iconst 5, 1, 0, 0, 0), (83, .bipush 8, 2, 0, 0, 0), (85, .invokevirtual 208, 3, 38, 2, 1163), (88, .iconst 1, 1, 0, 0, 0), (89, .ireturn, 1, 1, 0, 0)]
def qt79 : List eRow := [(0, .aload_n 0, 1, 0, 0, 0), (1, .invokevirtual 211, 3, 65, 0, 1183), (4, .aload_n 0, 1, 0, 0, 0), (5, .getfield 174, 3, 11, 20, 978), (8, .aload_n 0, 1, 0, 0, 0), (9, .getfield 164, 3, 11, 21, 979), (12, .isub, 1, 0, 0, 0), (13, .ireturn, 1, 0, 0, 0)]
def qt80 : List eRow := [(0, .iload_n 1, 1, 0, 0, 0), (1, .invokestatic 138, 3, 57, 1, 1035), (4, .ifCond .ne 6, 3, 10, 0, 0), (7, .bipush (-2), 2, 0, 0, 0), (9, .ireturn, 1, 0, 0, 0), (10, .aload_n 0, 1, 0, 0, 0), (11, .getfield 13, 3, 11, 1, 959), (14, .iload_n 1, 1, 0, 0, 0), (15, .iaload, 1, 0, 0, 0), (16, .ifCond .ne 6, 3, 22, 0, 0), (19, .bipush (-5), 2, 0, 0, 0), (21, .ireturn, 1, 0, 0, 0), (22, .iload_n 2, 1, 0, 0, 0), (23, .ifCond .lt 15, 3, 38, 0, 0), (26, .iload_n 2, 1, 0, 0, 0), (27, .aload_n 0, 1, 0, 0, 0), (28, .getfield 13, 3, 11, 1, 959), (31, .iload_n 1, 1, 0, 0, 0), (32, .iaload, 1, 0, 0, 0), (33, .iconst 1, 1, 0, 0, 0), (34, .isub, 1, 0, 0, 0), (35, .if_icmp .lt 6, 3, 41, 0, 0), (38, .bipush (-6), 2, 0, 0, 0), (40, .ireturn, 1, 0, 0, 0), (41, .aload_n 0, 1, 0, 0, 0), (42, .getfield 17, 3, 11, 2, 960), (45, .iload_n 1, 1, 0, 0, 0), (46, .iaload, 1, 0, 0, 0), (47, .istore 5, 2, 0, 0, 0), (49, .aload_n 0, 1, 0, 0, 0), (50, .getfield 20, 3, 11, 3, 961), (53, .bipush 60, 2, 0, 0, 0), (55, .iload_n 1, 1, 0, 0, 0), (56, .imul, 1, 0, 0, 0), (57, .iload_n 2, 1, 0, 0, 0), (58, .iadd, 1, 0, 0, 0), (59, .iload 5, 2, 0, 0, 0), (61, .ifCond .ne 10, 3, 71, 0, 0), (64, .lload_n 3, 1, 0, 0, 0), (65, .l2i, 1, 0, 0, 0), (66, .i2b, 1, 0, 0, 0), (67, .i2l, 1, 0, 0, 0), (68, .goto 29, 3, 97, 0, 0), (71, .iload 5, 2, 0, 0, 0), (73, .iconst 1, 1, 0, 0, 0), (74, .if_icmp .ne 10, 3, 84, 0, 0), (77, .lload_n 3, 1, 0, 0, 0), (78, .l2i, 1, 0, 0, 0), (79, .i2s, 1, 0, 0, 0), (80, .i2l, 1, 0, 0, 0), (81, .goto 16, 3, 97, 0, 0), (84, .iload 5, 2, 0, 0, 0), (86, .iconst 2, 1, 0, 0, 0), (87, .if_icmp .ne 9, 3, 96, 0, 0), (90, .lload_n 3, 1, 0, 0, 0), (91, .l2i, 1, 0, 0, 0), (92, .i2l, 1, 0, 0, 0), (93, .goto 4, 3, 97, 0, 0), (96, .lload_n 3, 1, 0, 0, 0), (97, .lastore, 1, 0, 0, 0), (98, .iconst 0, 1, 0, 0, 0), (99, .ireturn, 1, 0, 0, 0)]
def qt81 : List eRow := [(0, .iconst 1, 1, 0, 0, 0), (1, .istore_n 1, 1, 0, 0, 0), (2, .iconst 0, 1, 0, 0, 0), (3, .istore_n 2, 1, 0, 0, 0), (4, .iload_n 2, 1, 0, 0, 0), (5, .aload_n 0, 1, 0, 0, 0), (6, .getfield 49, 3, 0, 7, 322), (9, .if_icmp .ge 28, 3, 37, 0, 0), (12, .iload_n 1, 1, 0, 0, 0), (13, .ifCond .eq 16, 3, 29, 0, 0), (16, .aload_n 0, 1, 0, 0, 0), (17, .getfield 41, 3, 0, 6, 321), (20, .iload_n 2, 1, 0, 0, 0), (21, .baload, 1, 0, 0, 0), (22, .ifCond .eq 7, 3, 29, 0, 0), (25, .iconst 1, 1, 0, 0, 0), (26, .goto 4, 3, 30, 0, 0), (29, .iconst 0, 1, 0, 0, 0), (30, .istore_n 1, 1, 0, 0, 0), (31, .iinc 2 1, 3, 0, 0, 0), (34, .goto (-30), 3, 4, 0, 0), (37, .iload_n 1, 1, 0, 0, 0), (38, .ireturn, 1, 1, 0, 0)]
def qt82 : List eRow := [(0, .aload_n 0, 1, 0, 0, 0), (1, .iconst 0, 1, 0, 0, 0), (2, .putfield 21, 3, 9, 1, 144), (5, .aload_n 0, 1, 0, 0, 0), (6, .iconst 0, 1, 0, 0, 0), (7, .putfield 25, 3, 9, 2, 150), (10, .return_, 1, 0, 0, 0)]
def qt83 : List eRow := [(0, .iconst 0, 1, 0, 0, 0), (1, .istore_n 2, 1, 0, 0, 0), (2, .iconst 0, 1, 0, 0, 0), (3, .istore_n 3, 1, 0, 0, 0), (4, .iload_n 3, 1, 0, 0, 0), (5, .aload_n 0, 1, 0, 0, 0), (6, .getfield 56, 3, 5, 7, 256), (9, .if_icmp .ge 29, 3, 38, 0, 0), (12, .aload_n 0, 1, 0, 0, 0), (13, .getfield 41, 3, 5, 10, 259), (16, .iload_n 3, 1, 0, 0, 0), (17, .iaload, 1, 0, 0, 0), (18, .iconst (-1), 1, 0, 0, 0), (19, .if_icmp .ne 13, 3, 32, 0, 0), (22, .iload_n 2, 1, 0, 0, 0), (23, .iload_n 1, 1, 0, 0, 0), (24, .if_icmp .ne 5, 3, 29, 0, 0), (27, .iload_n 3, 1, 0, 0, 0), (28, .ireturn, 1, 0, 0, 0), (29, .iinc 2 1, 3, 0, 0, 0), (32, .iinc 3 1, 3, 0, 0, 0), (35, .goto (-31), 3, 4, 0, 0), (38, .iconst (-1), 1, 0, 0, 0), (39, .ireturn, 1, 0, 0, 0)]
def qt84 : List eRow := [(0, .aload_n 0, 1, 0, 0, 0), (1, .aload_n 1, 1, 0, 0, 0), (2, .getfield 21, 3, 9, 1, 144), (5, .aload_n 0, 1, 0, 0, 0), (6, .getfield 15, 3, 9, 0, 141), (9, .arraylength, 1, 0, 0, 0), (10, .invokestatic 33, 3, 9, 2, 687), (13, .putfield 21, 3, 9, 1, 144), (16, .aload_n 0, 1, 0, 0, 0), (17, .aload_n 1, 1, 0, 0, 0), (18, .getfield 25, 3, 9, 2, 150), (21, .putfield 25, 3, 9, 2, 150), (24, .aload_n 1, 1, 0, 0, 0), (25, .getfield 15, 3, 9, 0, 141), (28, .iconst 0, 1, 0, 0, 0), (29, .aload_n 0, 1, 0, 0, 0), (30, .getfield 15, 3, 9, 0, 141), (33, .iconst 0, 1, 0, 0, 0), (34, .aload_n 0, 1, 0, 0, 0), (35, .getfield 21, 3, 9, 1, 144), (38, .invokestatic 36, 3, 9998, 0, 688), (41, .return_, 1, 0, 0, 0)]
def qt85 : List eRow := [(0, .iload_n 1, 1, 0, 0, 0), (1, .ifCond .lt 27, 3, 28, 0, 0), (4, .iload_n 1, 1, 0, 0, 0), (5, .aload_n 0, 1, 0, 0, 0), (6, .getfield 50, 3, 5, 6, 255), (9, .if_icmp .ge 19, 3, 28, 0, 0), (12, .iload_n 2, 1, 0, 0, 0), (13, .ifCond .lt 15, 3, 28, 0, 0), (16, .iload_n 2, 1, 0, 0, 0), (17, .aload_n 0, 1, 0, 0, 0), (18, .getfield 53, 3, 5, 8, 257), (21, .if_icmp .ge 7, 3, 28, 0, 0), (24, .iconst 1, 1, 0, 0, 0), (25, .goto 4, 3, 29, 0, 0), (28, .iconst 0, 1, 0, 0, 0), (29, .ireturn, 1, 1, 0, 0)]
def qt86 : List eRow := [(0, .aload_n 1, 1, 0, 0, 0), (1, .invokevirtual 65, 3, 82, 0, 622), (4, .aload_n 0, 1, 0, 0, 0), (5, .iload_n 2, 1, 0, 0, 0), (6, .iload_n 3, 1, 0, 0, 0), (7, .invokevirtual 68, 3, 85, 2, 601), (10, .ifCond .ne 4, 3, 14, 0, 0), (13, .return_, 1, 0, 0, 0), (14, .iload_n 2, 1, 0, 0, 0), (15, .aload_n 0, 1, 0, 0, 0), (16, .getfield 24, 3, 5, 1, 250), (19, .imul, 1, 0, 0, 0), (20, .iload_n 3, 1, 0, 0, 0), (21, .iadd, 1, 0, 0, 0), (22, .istore 4, 2, 0, 0, 0), (24, .aload_n 1, 1, 0, 0, 0), (25, .aload_n 0, 1, 0, 0, 0), (26, .getfield 38, 3, 5, 4, 253), (29, .iload 4, 2, 0, 0, 0), (31, .iaload, 1, 0, 0, 0), (32, .invokestatic 72, 3, 5, 1, 608), (35, .aload_n 1, 1, 0, 0, 0), (36, .getfield 76, 3, 9, 0, 143), (39, .arraylength, 1, 0, 0, 0), (40, .invokestatic 44, 3, 9, 2, 585), (43, .putfield 77, 3, 9, 1, 148), (46, .aload_n 1, 1, 0, 0, 0), (47, .aload_n 0, 1, 0, 0, 0), (48, .getfield 38, 3, 5, 4, 253), (51, .iload 4, 2, 0, 0, 0), (53, .iaload, 1, 0, 0, 0), (54, .ifCond .ge 7, 3, 61, 0, 0), (57, .iconst 1, 1, 0, 0, 0), (58, .goto 4, 3, 62, 0, 0), (61, .iconst 0, 1, 0, 0, 0), (62, .putfield 80, 3, 9, 2, 153), (65, .aload_n 0, 1, 0, 0, 0), (66, .getfield 34, 3, 5, 3, 252), (69, .iload 4, 2, 0, 0, 0), (71, .aload_n 0, 1, 0, 0, 0), (72, .getfield 27, 3, 5, 2, 251), (75, .imul, 1, 0, 0, 0), (76, .aload_n 1, 1, 0, 0, 0), (77, .getfield 76, 3, 9, 0, 143), (80, .iconst 0, 1, 0, 0, 0), (81, .aload_n 1, 1, 0, 0, 0), (82, .getfield 77, 3, 9, 1, 148), (85, .invokestatic 84, 3, 9998, 0, 626), (88, .return_, 1, 0, 0, 0)]
def qt87 : List eRow := [(0, .aload_n 0, 1, 0, 0, 0), (1, .aload_n 0, 1, 0, 0, 0), (2, .getfield 21, 3, 9, 1, 144), (5, .ifCond .le 14, 3, 19, 0, 0), (8, .aload_n 0, 1, 0, 0, 0), (9, .getfield 25, 3, 9, 2, 150), (12, .ifCond .ne 7, 3, 19, 0, 0), (15, .iconst 1, 1, 0, 0, 0), (16, .goto 4, 3, 20, 0, 0), (19, .iconst 0, 1, 0, 0, 0), (20, .putfield 25, 3, 9, 2, 150), (23, .return_, 1, 0, 0, 0)]
def qt88 : List eRow := [(0, .aload_n 1, 1, 0, 0, 0), (1, .invokevirtual 65, 3, 82, 0, 622), (4, .aload_n 0, 1, 0, 0, 0), (5, .iload_n 2, 1, 0, 0, 0), (6, .invokevirtual 169, 3, 83, 1, 727), (9, .istore 4, 2, 0, 0, 0), (11, .iload 4, 2, 0, 0, 0), (13, .iconst (-1), 1, 0, 0, 0), (14, .if_icmp .eq 15, 3, 29, 0, 0), (17, .iload_n 3, 1, 0, 0, 0), (18, .ifCond .lt 11, 3, 29, 0, 0), (21, .iload_n 3, 1, 0, 0, 0), (22, .aload_n 0, 1, 0, 0, 0), (23, .getfield 56, 3, 5, 7, 256), (26, .if_icmp .lt 4, 3, 30, 0, 0), (29, .return_, 1, 0, 0, 0), (30, .iload_n 3, 1, 0, 0, 0), (31, .iload 4, 2, 0, 0, 0), (33, .if_icmp .ne 14, 3, 47, 0, 0), (36, .aload_n 1, 1, 0, 0, 0), (37, .aload_n 0, 1, 0, 0, 0), (38, .getfield 14, 3, 5, 11, 261), (41, .invokevirtual 127, 3, 84, 1, 714), (44, .goto 30, 3, 74, 0, 0), (47, .aload_n 0, 1, 0, 0, 0), (48, .getfield 41, 3, 5, 10, 259), (51, .iload_n 3, 1, 0, 0, 0), (52, .iaload, 1, 0, 0, 0), (53, .iconst (-1), 1, 0, 0, 0), (54, .if_icmp .eq 20, 3, 74, 0, 0), (57, .aload_n 0, 1, 0, 0, 0), (58, .aload_n 1, 1, 0, 0, 0), (59, .aload_n 0, 1, 0, 0, 0), (60, .getfield 41, 3, 5, 10, 259), (63, .iload_n 3, 1, 0, 0, 0), (64, .iaload, 1, 0, 0, 0), (65, .iload 4, 2, 0, 0, 0), (67, .invokevirtual 112, 3, 86, 3, 618), (70, .aload_n 1, 1, 0, 0, 0), (71, .invokevirtual 172, 3, 87, 0, 731), (74, .return_, 1, 0, 0, 0)]
def qt89 : List eRow := [(0, .aload_n 0, 1, 0, 0, 0), (1, .aload_n 1, 1, 0, 0, 0), (2, .getfield 71, 3, 6, 2, 384), (5, .putfield 49, 3, 0, 7, 322), (8, .iconst 0, 1, 0, 0, 0), (9, .istore_n 3, 1, 0, 0, 0), (10, .iload_n 3, 1, 0, 0, 0), (11, .aload_n 0, 1, 0, 0, 0), (12, .getfield 49, 3, 0, 7, 322), (15, .if_icmp .ge 120, 3, 135, 0, 0), (18, .aload_n 1, 1, 0, 0, 0), (19, .getfield 74, 3, 6, 8, 399), (22, .iload_n 3, 1, 0, 0, 0), (23, .iaload, 1, 0, 0, 0), (24, .iconst 1, 1, 0, 0, 0), (25, .if_icmp .eq 13, 3, 38, 0, 0), (28, .aload_n 1, 1, 0, 0, 0), (29, .getfield 74, 3, 6, 8, 399), (32, .iload_n 3, 1, 0, 0, 0), (33, .iaload, 1, 0, 0, 0), (34, .iconst 2, 1, 0, 0, 0), (35, .if_icmp .ne 7, 3, 42, 0, 0), (38, .iconst 1, 1, 0, 0, 0), (39, .goto 4, 3, 43, 0, 0), (42, .iconst 0, 1, 0, 0, 0), (43, .istore 4, 2, 0, 0, 0), (45, .aload_n 0, 1, 0, 0, 0), (46, .getfield 41, 3, 0, 6, 321), (49, .iload_n 3, 1, 0, 0, 0), (50, .iload 4, 2, 0, 0, 0), (52, .ifCond .ne 7, 3, 59, 0, 0), (55, .iconst 1, 1, 0, 0, 0), (56, .goto 4, 3, 60, 0, 0), (59, .iconst 0, 1, 0, 0, 0), (60, .bastore, 1, 0, 0, 0), (61, .iconst 0, 1, 0, 0, 0), (62, .istore 5, 2, 0, 0, 0), (64, .iload 5, 2, 0, 0, 0), (66, .iconst 3, 1, 0, 0, 0), (67, .if_icmp .ge 62, 3, 129, 0, 0), (70, .aload_n 2, 1, 0, 0, 0), (71, .aload_n 0, 1, 0, 0, 0), (72, .getfield 11, 3, 0, 0, 315), (75, .iload_n 3, 1, 0, 0, 0), (76, .aaload, 1, 0, 0, 0), (77, .getfield 77, 3, 8, 0, 309), (80, .iload 5, 2, 0, 0, 0), (82, .aaload, 1, 0, 0, 0), (83, .iload 4, 2, 0, 0, 0), (85, .ifCond .eq 8, 3, 93, 0, 0), (88, .iload 5, 2, 0, 0, 0), (90, .goto 4, 3, 94, 0, 0), (93, .iconst (-1), 1, 0, 0, 0), (94, .iload_n 3, 1, 0, 0, 0), (95, .invokevirtual 81, 3, 88, 3, 845), (98, .aload_n 1, 1, 0, 0, 0), (99, .getfield 74, 3, 6, 8, 399), (102, .iload_n 3, 1, 0, 0, 0), (103, .iaload, 1, 0, 0, 0), (104, .iconst 2, 1, 0, 0, 0), (105, .if_icmp .ne 18, 3, 123, 0, 0), (108, .aload_n 0, 1, 0, 0, 0), (109, .getfield 11, 3, 0, 0, 315), (112, .iload_n 3, 1, 0, 0, 0), (113, .aaload, 1, 0, 0, 0), (114, .getfield 77, 3, 8, 0, 309), (117, .iload 5, 2, 0, 0, 0), (119, .aaload, 1, 0, 0, 0), (120, .invokevirtual 87, 3, 87, 0, 846), (123, .iinc 5 1, 3, 0, 0, 0), (126, .goto (-62), 3, 64, 0, 0), (129, .iinc 3 1, 3, 0, 0, 0), (132, .goto (-122), 3, 10, 0, 0), (135, .return_, 1, 0, 0, 0)]
def qt90 : List eRow := [(0, .aload_n 0, 1, 0, 0, 0), (1, .invokespecial 3, 3, 9999, 0, 137), (4, .aload_n 0, 1, 0, 0, 0), (5, .iconst 1, 1, 0, 0, 0), (6, .iload_n 1, 1, 0, 0, 0), (7, .invokestatic 9, 3, 8, 2, 138), (10, .newarray .int, 2, 0, 0, 125), (12, .putfield 15, 3, 9, 0, 141), (15, .return_, 1, 0, 0, 0)]
def qt91 : List eRow := [(0, .aload_n 0, 1, 0, 0, 0), (1, .invokespecial 3, 3, 9999, 0, 304), (4, .aload_n 0, 1, 0, 0, 0), (5, .iconst 3, 1, 0, 0, 0), (6, .anewarray 9, 3, 3, 0, 305), (9, .putfield 11, 3, 8, 0, 308), (12, .iconst 0, 1, 0, 0, 0), (13, .istore_n 2, 1, 0, 0, 0), (14, .iload_n 2, 1, 0, 0, 0), (15, .iconst 3, 1, 0, 0, 0), (16, .if_icmp .ge 23, 3, 39, 0, 0), (19, .aload_n 0, 1, 0, 0, 0), (20, .getfield 11, 3, 8, 0, 308), (23, .iload_n 2, 1, 0, 0, 0), (24, .new 9, 3, 9, 0, 305), (27, .dup, 1, 0, 0, 0), (28, .iload_n 1, 1, 0, 0, 0), (29, .invokespecial 17, 3, 90, 1, 307), (32, .aastore, 1, 0, 0, 0), (33, .iinc 2 1, 3, 0, 0, 0), (36, .goto (-22), 3, 14, 0, 0), (39, .return_, 1, 0, 0, 0)]
def qt92 : List eRow := [(0, .aload_n 0, 1, 0, 0, 0), (1, .invokespecial 3, 3, 9999, 0, 297), (4, .aload_n 0, 1, 0, 0, 0), (5, .bipush 14, 2, 0, 0, 0), (7, .anewarray 9, 3, 4, 0, 298), (10, .putfield 11, 3, 0, 0, 315), (13, .aload_n 0, 1, 0, 0, 0), (14, .new 9, 3, 8, 0, 298), (17, .dup, 1, 0, 0, 0), (18, .bipush 36, 2, 0, 0, 0), (20, .invokespecial 17, 3, 91, 1, 301), (23, .putfield 20, 3, 0, 1, 316), (26, .aload_n 0, 1, 0, 0, 0), (27, .new 9, 3, 8, 0, 298), (30, .dup, 1, 0, 0, 0), (31, .bipush 36, 2, 0, 0, 0), (33, .invokespecial 17, 3, 91, 1, 301), (36, .putfield 24, 3, 0, 2, 317), (39, .aload_n 0, 1, 0, 0, 0), (40, .new 27, 3, 9, 0, 313), (43, .dup, 1, 0, 0, 0), (44, .bipush 36, 2, 0, 0, 0), (46, .invokespecial 29, 3, 90, 1, 314), (49, .putfield 30, 3, 0, 3, 318), (52, .aload_n 0, 1, 0, 0, 0), (53, .new 27, 3, 9, 0, 313), (56, .dup, 1, 0, 0, 0), (57, .bipush 36, 2, 0, 0, 0), (59, .invokespecial 29, 3, 90, 1, 314), (62, .putfield 34, 3, 0, 4, 319), (65, .aload_n 0, 1, 0, 0, 0), (66, .bipush 14, 2, 0, 0, 0), (68, .newarray .int, 2, 0, 0, 125), (70, .putfield 37, 3, 0, 5, 320), (73, .aload_n 0, 1, 0, 0, 0), (74, .bipush 14, 2, 0, 0, 0), (76, .newarray .boolean, 2, 0, 0, 340), (78, .putfield 41, 3, 0, 6, 321), (81, .iconst 0, 1, 0, 0, 0), (82, .istore_n 1, 1, 0, 0, 0), (83, .iload_n 1, 1, 0, 0, 0), (84, .bipush 14, 2, 0, 0, 0), (86, .if_icmp .ge 23, 3, 109, 0, 0), (89, .aload_n 0, 1, 0, 0, 0), (90, .getfield 11, 3, 0, 0, 315), (93, .iload_n 1, 1, 0, 0, 0), (94, .new 9, 3, 8, 0, 298), (97, .dup, 1, 0, 0, 0), (98, .iconst 5, 1, 0, 0, 0), (99, .invokespecial 17, 3, 91, 1, 301), (102, .aastore, 1, 0, 0, 0), (103, .iinc 1 1, 3, 0, 0, 0), (106, .goto (-23), 3, 83, 0, 0), (109, .return_, 1, 0, 0, 0)]
def qt93 : List eRow := [(0, .iconst 1, 1, 0, 0, 0), (1, .istore_n 1, 1, 0, 0, 0), (2, .iconst 0, 1, 0, 0, 0), (3, .istore_n 2, 1, 0, 0, 0), (4, .iload_n 2, 1, 0, 0, 0), (5, .iconst 3, 1, 0, 0, 0), (6, .if_icmp .ge 31, 3, 37, 0, 0), (9, .iload_n 1, 1, 0, 0, 0), (10, .ifCond .eq 19, 3, 29, 0, 0), (13, .aload_n 0, 1, 0, 0, 0), (14, .getfield 11, 3, 8, 0, 308), (17, .iload_n 2, 1, 0, 0, 0), (18, .aaload, 1, 0, 0, 0), (19, .getfield 20, 3, 9, 1, 146), (22, .ifCond .ne 7, 3, 29, 0, 0), (25, .iconst 1, 1, 0, 0, 0), (26, .goto 4, 3, 30, 0, 0), (29, .iconst 0, 1, 0, 0, 0), (30, .istore_n 1, 1, 0, 0, 0), (31, .iinc 2 1, 3, 0, 0, 0), (34, .goto (-30), 3, 4, 0, 0), (37, .iload_n 1, 1, 0, 0, 0), (38, .ireturn, 1, 1, 0, 0)]
def qt94 : List eRow := [(0, .iload_n 1, 1, 0, 0, 0), (1, .aload_n 0, 1, 0, 0, 0), (2, .getfield 15, 3, 9, 0, 141), (5, .arraylength, 1, 0, 0, 0), (6, .if_icmp .ge 7, 3, 13, 0, 0), (9, .iload_n 1, 1, 0, 0, 0), (10, .goto 8, 3, 18, 0, 0), (13, .aload_n 0, 1, 0, 0, 0), (14, .getfield 15, 3, 9, 0, 141), (17, .arraylength, 1, 0, 0, 0), (18, .ireturn, 1, 0, 0, 0)]
def qt95 : List eRow := [(0, .aload_n 0, 1, 0, 0, 0), (1, .iload_n 1, 1, 0, 0, 0), (2, .aload_n 0, 1, 0, 0, 0), (3, .getfield 15, 3, 9, 0, 141), (6, .arraylength, 1, 0, 0, 0), (7, .if_icmp .ge 7, 3, 14, 0, 0), (10, .iload_n 1, 1, 0, 0, 0), (11, .goto 8, 3, 19, 0, 0), (14, .aload_n 0, 1, 0, 0, 0), (15, .getfield 15, 3, 9, 0, 141), (18, .arraylength, 1, 0, 0, 0), (19, .putfield 21, 3, 9, 1, 144), (22, .aload_n 0, 1, 0, 0, 0), (23, .getfield 21, 3, 9, 1, 144), (26, .iconst 1, 1, 0, 0, 0), (27, .isub, 1, 0, 0, 0), (28, .istore_n 2, 1, 0, 0, 0), (29, .iload_n 2, 1, 0, 0, 0), (30, .ifCond .lt 23, 3, 53, 0, 0), (33, .aload_n 0, 1, 0, 0, 0), (34, .getfield 15, 3, 9, 0, 141), (37, .iload_n 2, 1, 0, 0, 0), (38, .iaload, 1, 0, 0, 0), (39, .ifCond .ne 14, 3, 53, 0, 0), (42, .aload_n 0, 1, 0, 0, 0), (43, .iload_n 2, 1, 0, 0, 0), (44, .putfield 21, 3, 9, 1, 144), (47, .iinc 2 (-1), 3, 0, 0, 0), (50, .goto (-21), 3, 29, 0, 0), (53, .aload_n 0, 1, 0, 0, 0), (54, .aload_n 0, 1, 0, 0, 0), (55, .getfield 25, 3, 9, 2, 150), (58, .ifCond .eq 14, 3, 72, 0, 0), (61, .aload_n 0, 1, 0, 0, 0), (62, .getfield 21, 3, 9, 1, 144), (65, .ifCond .le 7, 3, 72, 0, 0), (68, .iconst 1, 1, 0, 0, 0), (69, .goto 4, 3, 73, 0, 0), (72, .iconst 0, 1, 0, 0, 0), (73, .putfield 25, 3, 9, 2, 150), (76, .return_, 1, 0, 0, 0)]
def qt96 : List eRow := [(0, .aload_n 0, 1, 0, 0, 0), (1, .aload_n 1, 1, 0, 0, 0), (2, .getfield 21, 3, 9, 1, 144), (5, .aload_n 2, 1, 0, 0, 0), (6, .getfield 21, 3, 9, 1, 144), (9, .iadd, 1, 0, 0, 0), (10, .invokevirtual 42, 3, 94, 1, 649), (13, .istore_n 3, 1, 0, 0, 0), (14, .aload_n 0, 1, 0, 0, 0), (15, .getfield 15, 3, 9, 0, 141), (18, .iconst 0, 1, 0, 0, 0), (19, .iload_n 3, 1, 0, 0, 0), (20, .iconst 0, 1, 0, 0, 0), (21, .invokestatic 45, 3, 4, 4, 653), (24, .iconst 0, 1, 0, 0, 0), (25, .istore 4, 2, 0, 0, 0), (27, .iload 4, 2, 0, 0, 0), (29, .aload_n 1, 1, 0, 0, 0), (30, .getfield 21, 3, 9, 1, 144), (33, .if_icmp .ge 124, 3, 157, 0, 0), (36, .lconst 0, 1, 0, 0, 0), (37, .lstore 5, 2, 0, 0, 0), (39, .iconst 0, 1, 0, 0, 0), (40, .istore 7, 2, 0, 0, 0), (42, .iload 7, 2, 0, 0, 0), (44, .aload_n 2, 1, 0, 0, 0), (45, .getfield 21, 3, 9, 1, 144), (48, .if_icmp .ge 77, 3, 125, 0, 0), (51, .iload 4, 2, 0, 0, 0), (53, .iload 7, 2, 0, 0, 0), (55, .iadd, 1, 0, 0, 0), (56, .iload_n 3, 1, 0, 0, 0), (57, .if_icmp .ge 68, 3, 125, 0, 0), (60, .aload_n 0, 1, 0, 0, 0), (61, .getfield 15, 3, 9, 0, 141), (64, .iload 4, 2, 0, 0, 0), (66, .iload 7, 2, 0, 0, 0), (68, .iadd, 1, 0, 0, 0), (69, .iaload, 1, 0, 0, 0), (70, .i2l, 1, 0, 0, 0), (71, .lload 5, 2, 0, 0, 0), (73, .ladd, 1, 0, 0, 0), (74, .aload_n 1, 1, 0, 0, 0), (75, .getfield 15, 3, 9, 0, 141), (78, .iload 4, 2, 0, 0, 0), (80, .iaload, 1, 0, 0, 0), (81, .i2l, 1, 0, 0, 0), (82, .aload_n 2, 1, 0, 0, 0), (83, .getfield 15, 3, 9, 0, 141), (86, .iload 7, 2, 0, 0, 0), (88, .iaload, 1, 0, 0, 0), (89, .i2l, 1, 0, 0, 0), (90, .lmul, 1, 0, 0, 0), (91, .ladd, 1, 0, 0, 0), (92, .lstore 8, 2, 0, 0, 0), (94, .aload_n 0, 1, 0, 0, 0), (95, .getfield 15, 3, 9, 0, 141), (98, .iload 4, 2, 0, 0, 0), (100, .iload 7, 2, 0, 0, 0), (102, .iadd, 1, 0, 0, 0), (103, .lload 8, 2, 0, 0, 0), (105, .ldc2_w 51, 3, 1000000000, 0, 659), (108, .lrem, 1, 0, 0, 0), (109, .l2i, 1, 0, 0, 0), (110, .iastore, 1, 0, 0, 0), (111, .lload 8, 2, 0, 0, 0), (113, .ldc2_w 51, 3, 1000000000, 0, 659), (116, .ldiv, 1, 0, 0, 0), (117, .lstore 5, 2, 0, 0, 0), (119, .iinc 7 1, 3, 0, 0, 0), (122, .goto (-80), 3, 42, 0, 0), (125, .iload 4, 2, 0, 0, 0), (127, .aload_n 2, 1, 0, 0, 0), (128, .getfield 21, 3, 9, 1, 144), (131, .iadd, 1, 0, 0, 0), (132, .iload_n 3, 1, 0, 0, 0), (133, .if_icmp .ge 18, 3, 151, 0, 0), (136, .aload_n 0, 1, 0, 0, 0), (137, .getfield 15, 3, 9, 0, 141), (140, .iload 4, 2, 0, 0, 0), (142, .aload_n 2, 1, 0, 0, 0), (143, .getfield 21, 3, 9, 1, 144), (146, .iadd, 1, 0, 0, 0), (147, .lload 5, 2, 0, 0, 0), (149, .l2i, 1, 0, 0, 0), (150, .iastore, 1, 0, 0, 0), (151, .iinc 4 1, 3, 0, 0, 0), (154, .goto (-127), 3, 27, 0, 0), (157, .aload_n 0, 1, 0, 0, 0), (158, .aload_n 1, 1, 0, 0, 0), (159, .getfield 25, 3, 9, 2, 150), (162, .aload_n 2, 1, 0, 0, 0), (163, .getfield 25, 3, 9, 2, 150), (166, .if_icmp .eq 7, 3, 173, 0, 0), (169, .iconst 1, 1, 0, 0, 0), (170, .goto 4, 3, 174, 0, 0), (173, .iconst 0, 1, 0, 0, 0), (174, .putfield 25, 3, 9, 2, 150), (177, .aload_n 0, 1, 0, 0, 0), (178, .iload_n 3, 1, 0, 0, 0), (179, .invokevirtual 53, 3, 95, 1, 660), (182, .return_, 1, 0, 0, 0)]
def qt97 : List eRow := [(0, .aload_n 0, 1, 0, 0, 0), (1, .getfield 21, 3, 9, 1, 144), (4, .aload_n 1, 1, 0, 0, 0), (5, .getfield 21, 3, 9, 1, 144), (8, .if_icmp .eq 13, 3, 21, 0, 0), (11, .aload_n 0, 1, 0, 0, 0), (12, .getfield 21, 3, 9, 1, 144), (15, .aload_n 1, 1, 0, 0, 0), (16, .getfield 21, 3, 9, 1, 144), (19, .isub, 1, 0, 0, 0), (20, .ireturn, 1, 0, 0, 0), (21, .aload_n 0, 1, 0, 0, 0), (22, .getfield 21, 3, 9, 1, 144), (25, .iconst 1, 1, 0, 0, 0), (26, .isub, 1, 0, 0, 0), (27, .istore_n 2, 1, 0, 0, 0), (28, .iload_n 2, 1, 0, 0, 0), (29, .ifCond .lt 38, 3, 67, 0, 0), (32, .aload_n 0, 1, 0, 0, 0), (33, .getfield 15, 3, 9, 0, 141), (36, .iload_n 2, 1, 0, 0, 0), (37, .iaload, 1, 0, 0, 0), (38, .aload_n 1, 1, 0, 0, 0), (39, .getfield 15, 3, 9, 0, 141), (42, .iload_n 2, 1, 0, 0, 0), (43, .iaload, 1, 0, 0, 0), (44, .if_icmp .eq 17, 3, 61, 0, 0), (47, .aload_n 0, 1, 0, 0, 0), (48, .getfield 15, 3, 9, 0, 141), (51, .iload_n 2, 1, 0, 0, 0), (52, .iaload, 1, 0, 0, 0), (53, .aload_n 1, 1, 0, 0, 0), (54, .getfield 15, 3, 9, 0, 141), (57, .iload_n 2, 1, 0, 0, 0), (58, .iaload, 1, 0, 0, 0), (59, .isub, 1, 0, 0, 0), (60, .ireturn, 1, 0, 0, 0), (61, .iinc 2 (-1), 3, 0, 0, 0), (64, .goto (-36), 3, 28, 0, 0), (67, .iconst 0, 1, 0, 0, 0), (68, .ireturn, 1, 0, 0, 0)]
def qt98 : List eRow := [(0, .iload_n 1, 1, 0, 0, 0), (1, .ifCond .lt 20, 3, 21, 0, 0), (4, .iload_n 1, 1, 0, 0, 0), (5, .aload_n 0, 1, 0, 0, 0), (6, .getfield 21, 3, 9, 1, 144), (9, .if_icmp .ge 12, 3, 21, 0, 0), (12, .aload_n 0, 1, 0, 0, 0), (13, .getfield 15, 3, 9, 0, 141), (16, .iload_n 1, 1, 0, 0, 0), (17, .iaload, 1, 0, 0, 0), (18, .goto 4, 3, 22, 0, 0), (21, .iconst 0, 1, 0, 0, 0), (22, .ireturn, 1, 0, 0, 0)]
def qt99 : List eRow := [(0, .aload_n 1, 1, 0, 0, 0), (1, .getfield 25, 3, 9, 2, 150), (4, .iload_n 2, 1, 0, 0, 0), (5, .if_icmp .eq 7, 3, 12, 0, 0), (8, .iconst 1, 1, 0, 0, 0), (9, .goto 4, 3, 13, 0, 0), (12, .iconst 0, 1, 0, 0, 0), (13, .istore_n 3, 1, 0, 0, 0), (14, .aload_n 0, 1, 0, 0, 0), (15, .getfield 25, 3, 9, 2, 150), (18, .iload_n 3, 1, 0, 0, 0), (19, .if_icmp .ne 7, 3, 26, 0, 0), (22, .iconst 1, 1, 0, 0, 0), (23, .goto 4, 3, 27, 0, 0), (26, .iconst (-1), 1, 0, 0, 0), (27, .istore 4, 2, 0, 0, 0), (29, .aload_n 0, 1, 0, 0, 0), (30, .aload_n 1, 1, 0, 0, 0), (31, .invokevirtual 57, 3, 97, 1, 668), (34, .ifCond .ge 7, 3, 41, 0, 0), (37, .iconst 1, 1, 0, 0, 0), (38, .goto 4, 3, 42, 0, 0), (41, .iconst 0, 1, 0, 0, 0), (42, .istore 5, 2, 0, 0, 0), (44, .iload 5, 2, 0, 0, 0), (46, .ifCond .eq 7, 3, 53, 0, 0), (49, .aload_n 1, 1, 0, 0, 0), (50, .goto 4, 3, 54, 0, 0), (53, .aload_n 0, 1, 0, 0, 0), (54, .astore 6, 2, 0, 0, 0), (56, .iload 5, 2, 0, 0, 0), (58, .ifCond .eq 7, 3, 65, 0, 0), (61, .aload_n 0, 1, 0, 0, 0), (62, .goto 4, 3, 66, 0, 0), (65, .aload_n 1, 1, 0, 0, 0), (66, .astore 7, 2, 0, 0, 0), (68, .aload_n 0, 1, 0, 0, 0), (69, .aload 6, 2, 0, 0, 0), (71, .getfield 21, 3, 9, 1, 144), (74, .iconst 1, 1, 0, 0, 0), (75, .iadd, 1, 0, 0, 0), (76, .invokevirtual 42, 3, 94, 1, 649), (79, .istore 8, 2, 0, 0, 0), (81, .iconst 0, 1, 0, 0, 0), (82, .istore 9, 2, 0, 0, 0), (84, .iconst 0, 1, 0, 0, 0), (85, .istore 10, 2, 0, 0, 0), (87, .iload 10, 2, 0, 0, 0), (89, .iload 8, 2, 0, 0, 0), (91, .if_icmp .ge 63, 3, 154, 0, 0), (94, .aload 6, 2, 0, 0, 0), (96, .iload 10, 2, 0, 0, 0), (98, .invokevirtual 61, 3, 98, 1, 672), (101, .iload 4, 2, 0, 0, 0), (103, .aload 7, 2, 0, 0, 0), (105, .iload 10, 2, 0, 0, 0), (107, .invokevirtual 61, 3, 98, 1, 672), (110, .imul, 1, 0, 0, 0), (111, .iadd, 1, 0, 0, 0), (112, .iload 9, 2, 0, 0, 0), (114, .iadd, 1, 0, 0, 0), (115, .istore 11, 2, 0, 0, 0), (117, .iload 11, 2, 0, 0, 0), (119, .ifCond .ge 7, 3, 126, 0, 0), (122, .iconst (-1), 1, 0, 0, 0), (123, .goto 8, 3, 131, 0, 0), (126, .iload 11, 2, 0, 0, 0), (128, .ldc 64, 2, 1000000000, 0, 676), (130, .idiv, 1, 0, 0, 0), (131, .istore 9, 2, 0, 0, 0), (133, .aload_n 0, 1, 0, 0, 0), (134, .getfield 15, 3, 9, 0, 141), (137, .iload 10, 2, 0, 0, 0), (139, .iload 11, 2, 0, 0, 0), (141, .iload 9, 2, 0, 0, 0), (143, .ldc 64, 2, 1000000000, 0, 676), (145, .imul, 1, 0, 0, 0), (146, .isub, 1, 0, 0, 0), (147, .iastore, 1, 0, 0, 0), (148, .iinc 10 1, 3, 0, 0, 0), (151, .goto (-64), 3, 87, 0, 0), (154, .aload_n 0, 1, 0, 0, 0), (155, .iload 5, 2, 0, 0, 0), (157, .ifCond .eq 7, 3, 164, 0, 0), (160, .iload_n 3, 1, 0, 0, 0), (161, .goto 7, 3, 168, 0, 0), (164, .aload_n 0, 1, 0, 0, 0), (165, .getfield 25, 3, 9, 2, 150), (168, .putfield 25, 3, 9, 2, 150), (171, .aload_n 0, 1, 0, 0, 0), (172, .iload 8, 2, 0, 0, 0), (174, .invokevirtual 53, 3, 95, 1, 660), (177, .return_, 1, 0, 0, 0)]
def qt100 : List eRow := [(0, .aload_n 0, 1, 0, 0, 0), (1, .getfield 21, 3, 9, 1, 144), (4, .ifCond .ne 5, 3, 9, 0, 0), (7, .iconst 0, 1, 0, 0, 0), (8, .ireturn, 1, 0, 0, 0), (9, .aload_n 0, 1, 0, 0, 0), (10, .getfield 25, 3, 9, 2, 150), (13, .ifCond .eq 7, 3, 20, 0, 0), (16, .iconst (-1), 1, 0, 0, 0), (17, .goto 4, 3, 21, 0, 0), (20, .iconst 1, 1, 0, 0, 0), (21, .ireturn, 1, 0, 0, 0)]
def qt101 : List eRow := [(0, .aload_n 0, 1, 0, 0, 0), (1, .getfield 30, 3, 0, 3, 318), (4, .invokevirtual 94, 3, 82, 0, 863), (7, .iconst 0, 1, 0, 0, 0), (8, .istore_n 3, 1, 0, 0, 0), (9, .iload_n 3, 1, 0, 0, 0), (10, .iconst 3, 1, 0, 0, 0), (11, .if_icmp .ge 40, 3, 51, 0, 0), (14, .aload_n 0, 1, 0, 0, 0), (15, .getfield 34, 3, 0, 4, 319), (18, .aload_n 1, 1, 0, 0, 0), (19, .getfield 77, 3, 8, 0, 309), (22, .iload_n 3, 1, 0, 0, 0), (23, .aaload, 1, 0, 0, 0), (24, .aload_n 2, 1, 0, 0, 0), (25, .getfield 77, 3, 8, 0, 309), (28, .iload_n 3, 1, 0, 0, 0), (29, .aaload, 1, 0, 0, 0), (30, .invokevirtual 97, 3, 96, 2, 864), (33, .aload_n 0, 1, 0, 0, 0), (34, .getfield 30, 3, 0, 3, 318), (37, .aload_n 0, 1, 0, 0, 0), (38, .getfield 34, 3, 0, 4, 319), (41, .iconst 0, 1, 0, 0, 0), (42, .invokevirtual 101, 3, 99, 2, 865), (45, .iinc 3 1, 3, 0, 0, 0), (48, .goto (-39), 3, 9, 0, 0), (51, .aload_n 0, 1, 0, 0, 0), (52, .getfield 30, 3, 0, 3, 318), (55, .invokevirtual 105, 3, 100, 0, 866), (58, .ireturn, 1, 0, 0, 0)]
def qt102 : List eRow := [(0, .aload_n 1, 1, 0, 0, 0), (1, .invokevirtual 65, 3, 93, 0, 855), (4, .ifCond .eq 4, 3, 8, 0, 0), (7, .return_, 1, 0, 0, 0), (8, .iconst 0, 1, 0, 0, 0), (9, .istore_n 2, 1, 0, 0, 0), (10, .iconst 0, 1, 0, 0, 0), (11, .istore_n 3, 1, 0, 0, 0), (12, .iload_n 3, 1, 0, 0, 0), (13, .aload_n 0, 1, 0, 0, 0), (14, .getfield 49, 3, 0, 7, 322), (17, .if_icmp .ge 58, 3, 75, 0, 0), (20, .aload_n 0, 1, 0, 0, 0), (21, .getfield 37, 3, 0, 5, 320), (24, .iload_n 3, 1, 0, 0, 0), (25, .aload_n 0, 1, 0, 0, 0), (26, .aload_n 0, 1, 0, 0, 0), (27, .getfield 11, 3, 0, 0, 315), (30, .iload_n 3, 1, 0, 0, 0), (31, .aaload, 1, 0, 0, 0), (32, .aload_n 1, 1, 0, 0, 0), (33, .invokevirtual 90, 3, 101, 2, 859), (36, .iastore, 1, 0, 0, 0), (37, .aload_n 0, 1, 0, 0, 0), (38, .getfield 37, 3, 0, 5, 320), (41, .iload_n 3, 1, 0, 0, 0), (42, .iaload, 1, 0, 0, 0), (43, .iload_n 2, 1, 0, 0, 0), (44, .imul, 1, 0, 0, 0), (45, .ifCond .ge 4, 3, 49, 0, 0), (48, .return_, 1, 0, 0, 0), (49, .aload_n 0, 1, 0, 0, 0), (50, .getfield 37, 3, 0, 5, 320), (53, .iload_n 3, 1, 0, 0, 0), (54, .iaload, 1, 0, 0, 0), (55, .ifCond .ne 7, 3, 62, 0, 0), (58, .iload_n 2, 1, 0, 0, 0), (59, .goto 9, 3, 68, 0, 0), (62, .aload_n 0, 1, 0, 0, 0), (63, .getfield 37, 3, 0, 5, 320), (66, .iload_n 3, 1, 0, 0, 0), (67, .iaload, 1, 0, 0, 0), (68, .istore_n 2, 1, 0, 0, 0), (69, .iinc 3 1, 3, 0, 0, 0), (72, .goto (-60), 3, 12, 0, 0), (75, .iconst 0, 1, 0, 0, 0), (76, .istore_n 3, 1, 0, 0, 0), (77, .iload_n 3, 1, 0, 0, 0), (78, .aload_n 0, 1, 0, 0, 0), (79, .getfield 49, 3, 0, 7, 322), (82, .if_icmp .ge 38, 3, 120, 0, 0), (85, .aload_n 0, 1, 0, 0, 0), (86, .getfield 41, 3, 0, 6, 321), (89, .iload_n 3, 1, 0, 0, 0), (90, .aload_n 0, 1, 0, 0, 0), (91, .getfield 41, 3, 0, 6, 321), (94, .iload_n 3, 1, 0, 0, 0), (95, .baload, 1, 0, 0, 0), (96, .ifCond .ne 12, 3, 108, 0, 0), (99, .aload_n 0, 1, 0, 0, 0), (100, .getfield 37, 3, 0, 5, 320), (103, .iload_n 3, 1, 0, 0, 0), (104, .iaload, 1, 0, 0, 0), (105, .ifCond .eq 7, 3, 112, 0, 0), (108, .iconst 1, 1, 0, 0, 0), (109, .goto 4, 3, 113, 0, 0), (112, .iconst 0, 1, 0, 0, 0), (113, .bastore, 1, 0, 0, 0), (114, .iinc 3 1, 3, 0, 0, 0), (117, .goto (-40), 3, 77, 0, 0), (120, .return_, 1, 0, 0, 0)]
def qt103 : List eRow := [(0, .iconst 0, 1, 0, 0, 0), (1, .istore 4, 2, 0, 0, 0), (3, .iload 4, 2, 0, 0, 0), (5, .iconst 3, 1, 0, 0, 0), (6, .if_icmp .ge 79, 3, 85, 0, 0), (9, .iload 4, 2, 0, 0, 0), (11, .iconst 1, 1, 0, 0, 0), (12, .iadd, 1, 0, 0, 0), (13, .iconst 3, 1, 0, 0, 0), (14, .irem, 1, 0, 0, 0), (15, .istore 5, 2, 0, 0, 0), (17, .iload 4, 2, 0, 0, 0), (19, .iconst 2, 1, 0, 0, 0), (20, .iadd, 1, 0, 0, 0), (21, .iconst 3, 1, 0, 0, 0), (22, .irem, 1, 0, 0, 0), (23, .istore 6, 2, 0, 0, 0), (25, .aload_n 0, 1, 0, 0, 0), (26, .getfield 11, 3, 8, 0, 308), (29, .iload 4, 2, 0, 0, 0), (31, .aaload, 1, 0, 0, 0), (32, .aload_n 1, 1, 0, 0, 0), (33, .getfield 11, 3, 8, 0, 308), (36, .iload 5, 2, 0, 0, 0), (38, .aaload, 1, 0, 0, 0), (39, .aload_n 2, 1, 0, 0, 0), (40, .getfield 11, 3, 8, 0, 308), (43, .iload 6, 2, 0, 0, 0), (45, .aaload, 1, 0, 0, 0), (46, .invokevirtual 24, 3, 96, 2, 871), (49, .aload_n 3, 1, 0, 0, 0), (50, .aload_n 1, 1, 0, 0, 0), (51, .getfield 11, 3, 8, 0, 308), (54, .iload 6, 2, 0, 0, 0), (56, .aaload, 1, 0, 0, 0), (57, .aload_n 2, 1, 0, 0, 0), (58, .getfield 11, 3, 8, 0, 308), (61, .iload 5, 2, 0, 0, 0), (63, .aaload, 1, 0, 0, 0), (64, .invokevirtual 24, 3, 96, 2, 871), (67, .aload_n 0, 1, 0, 0, 0), (68, .getfield 11, 3, 8, 0, 308), (71, .iload 4, 2, 0, 0, 0), (73, .aaload, 1, 0, 0, 0), (74, .aload_n 3, 1, 0, 0, 0), (75, .iconst 1, 1, 0, 0, 0), (76, .invokevirtual 28, 3, 99, 2, 872), (79, .iinc 4 1, 3, 0, 0, 0), (82, .goto (-79), 3, 3, 0, 0), (85, .return_, 1, 0, 0, 0)]
def qt104 : List eRow := [(0, .iconst 0, 1, 0, 0, 0), (1, .istore_n 1, 1, 0, 0, 0), (2, .iload_n 1, 1, 0, 0, 0), (3, .aload_n 0, 1, 0, 0, 0), (4, .getfield 49, 3, 0, 7, 322), (7, .if_icmp .ge 38, 3, 45, 0, 0), (10, .aload_n 0, 1, 0, 0, 0), (11, .getfield 24, 3, 0, 2, 317), (14, .aload_n 0, 1, 0, 0, 0), (15, .getfield 20, 3, 0, 1, 316), (18, .aload_n 0, 1, 0, 0, 0), (19, .getfield 11, 3, 0, 0, 315), (22, .iload_n 1, 1, 0, 0, 0), (23, .aaload, 1, 0, 0, 0), (24, .aload_n 0, 1, 0, 0, 0), (25, .getfield 34, 3, 0, 4, 319), (28, .invokevirtual 61, 3, 103, 3, 867), (31, .aload_n 0, 1, 0, 0, 0), (32, .aload_n 0, 1, 0, 0, 0), (33, .getfield 24, 3, 0, 2, 317), (36, .invokevirtual 57, 3, 102, 1, 851), (39, .iinc 1 1, 3, 0, 0, 0), (42, .goto (-40), 3, 2, 0, 0), (45, .return_, 1, 0, 0, 0)]
def qt105 : List eRow := [(0, .aload_n 0, 1, 0, 0, 0), (1, .aload_n 1, 1, 0, 0, 0), (2, .aload_n 2, 1, 0, 0, 0), (3, .invokevirtual 45, 3, 89, 2, 841), (6, .iconst 0, 1, 0, 0, 0), (7, .istore_n 3, 1, 0, 0, 0), (8, .iconst 0, 1, 0, 0, 0), (9, .istore 4, 2, 0, 0, 0), (11, .iload 4, 2, 0, 0, 0), (13, .aload_n 0, 1, 0, 0, 0), (14, .getfield 49, 3, 0, 7, 322), (17, .if_icmp .ge 96, 3, 113, 0, 0), (20, .aload_n 0, 1, 0, 0, 0), (21, .invokevirtual 53, 3, 81, 0, 847), (24, .ifCond .ne 89, 3, 113, 0, 0), (27, .aload_n 0, 1, 0, 0, 0), (28, .aload_n 0, 1, 0, 0, 0), (29, .getfield 11, 3, 0, 0, 315), (32, .iload 4, 2, 0, 0, 0), (34, .aaload, 1, 0, 0, 0), (35, .invokevirtual 57, 3, 102, 1, 851), (38, .iconst 0, 1, 0, 0, 0), (39, .istore 5, 2, 0, 0, 0), (41, .iload 5, 2, 0, 0, 0), (43, .iload 4, 2, 0, 0, 0), (45, .if_icmp .ge 62, 3, 107, 0, 0), (48, .aload_n 0, 1, 0, 0, 0), (49, .getfield 20, 3, 0, 1, 316), (52, .aload_n 0, 1, 0, 0, 0), (53, .getfield 11, 3, 0, 0, 315), (56, .iload 4, 2, 0, 0, 0), (58, .aaload, 1, 0, 0, 0), (59, .aload_n 0, 1, 0, 0, 0), (60, .getfield 11, 3, 0, 0, 315), (63, .iload 5, 2, 0, 0, 0), (65, .aaload, 1, 0, 0, 0), (66, .aload_n 0, 1, 0, 0, 0), (67, .getfield 34, 3, 0, 4, 319), (70, .invokevirtual 61, 3, 103, 3, 867), (73, .aload_n 0, 1, 0, 0, 0), (74, .aload_n 0, 1, 0, 0, 0), (75, .getfield 20, 3, 0, 1, 316), (78, .invokevirtual 57, 3, 102, 1, 851), (81, .iload_n 3, 1, 0, 0, 0), (82, .ifCond .ne 19, 3, 101, 0, 0), (85, .aload_n 0, 1, 0, 0, 0), (86, .getfield 20, 3, 0, 1, 316), (89, .invokevirtual 65, 3, 93, 0, 855), (92, .ifCond .ne 9, 3, 101, 0, 0), (95, .aload_n 0, 1, 0, 0, 0), (96, .invokevirtual 68, 3, 104, 0, 873), (99, .iconst 1, 1, 0, 0, 0), (100, .istore_n 3, 1, 0, 0, 0), (101, .iinc 5 1, 3, 0, 0, 0), (104, .goto (-63), 3, 41, 0, 0), (107, .iinc 4 1, 3, 0, 0, 0), (110, .goto (-99), 3, 11, 0, 0), (113, .aload_n 0, 1, 0, 0, 0), (114, .invokevirtual 53, 3, 81, 0, 847), (117, .ireturn, 1, 1, 0, 0)]
def qt106 : List eRow := [(0, .aload_n 0, 1, 0, 0, 0), (1, .iload_n 1, 1, 0, 0, 0), (2, .aload_n 0, 1, 0, 0, 0), (3, .getfield 20, 3, 5, 0, 249), (6, .invokestatic 44, 3, 9, 2, 585), (9, .putfield 50, 3, 5, 6, 255), (12, .aload_n 0, 1, 0, 0, 0), (13, .iload_n 2, 1, 0, 0, 0), (14, .iload_n 3, 1, 0, 0, 0), (15, .iadd, 1, 0, 0, 0), (16, .aload_n 0, 1, 0, 0, 0), (17, .getfield 24, 3, 5, 1, 250), (20, .invokestatic 44, 3, 9, 2, 585), (23, .putfield 53, 3, 5, 8, 257), (26, .aload_n 0, 1, 0, 0, 0), (27, .iload_n 2, 1, 0, 0, 0), (28, .aload_n 0, 1, 0, 0, 0), (29, .getfield 53, 3, 5, 8, 257), (32, .invokestatic 44, 3, 9, 2, 585), (35, .putfield 56, 3, 5, 7, 256), (38, .aload_n 0, 1, 0, 0, 0), (39, .getfield 38, 3, 5, 4, 253), (42, .iconst 0, 1, 0, 0, 0), (43, .invokestatic 59, 3, 1, 2, 588), (46, .return_, 1, 0, 0, 0)]
def qt107 : List eRow := [(0, .aload_n 0, 1, 0, 0, 0), (1, .getfield 26, 3, 6, 5, 392), (4, .iload_n 1, 1, 0, 0, 0), (5, .iaload, 1, 0, 0, 0), (6, .iconst (-1), 1, 0, 0, 0), (7, .if_icmp .ne 7, 3, 14, 0, 0), (10, .iconst 1, 1, 0, 0, 0), (11, .goto 4, 3, 15, 0, 0), (14, .iconst 0, 1, 0, 0, 0), (15, .ireturn, 1, 1, 0, 0)]
def qt108 : List eRow := [(0, .aload_n 0, 1, 0, 0, 0), (1, .iload_n 1, 1, 0, 0, 0), (2, .invokevirtual 70, 3, 107, 1, 593), (5, .ifCond .eq 7, 3, 12, 0, 0), (8, .iconst (-1), 1, 0, 0, 0), (9, .goto 13, 3, 22, 0, 0), (12, .iconst 2, 1, 0, 0, 0), (13, .aload_n 0, 1, 0, 0, 0), (14, .getfield 26, 3, 6, 5, 392), (17, .iload_n 1, 1, 0, 0, 0), (18, .iaload, 1, 0, 0, 0), (19, .imul, 1, 0, 0, 0), (20, .iload_n 2, 1, 0, 0, 0), (21, .iadd, 1, 0, 0, 0), (22, .ireturn, 1, 0, 0, 0)]
def qt109 : List eRow := [(0, .aload_n 0, 1, 0, 0, 0), (1, .getfield 20, 3, 6, 3, 388), (4, .iload_n 2, 1, 0, 0, 0), (5, .aaload, 1, 0, 0, 0), (6, .aload_n 0, 1, 0, 0, 0), (7, .getfield 33, 3, 6, 7, 396), (10, .iload_n 1, 1, 0, 0, 0), (11, .iaload, 1, 0, 0, 0), (12, .iaload, 1, 0, 0, 0), (13, .aload_n 0, 1, 0, 0, 0), (14, .getfield 20, 3, 6, 3, 388), (17, .iload_n 2, 1, 0, 0, 0), (18, .aaload, 1, 0, 0, 0), (19, .aload_n 0, 1, 0, 0, 0), (20, .getfield 30, 3, 6, 6, 394), (23, .iload_n 1, 1, 0, 0, 0), (24, .iaload, 1, 0, 0, 0), (25, .iaload, 1, 0, 0, 0), (26, .isub, 1, 0, 0, 0), (27, .ireturn, 1, 0, 0, 0)]
def qt110 : List eRow := [(0, .aload_n 0, 1, 0, 0, 0), (1, .iload_n 1, 1, 0, 0, 0), (2, .iload_n 2, 1, 0, 0, 0), (3, .invokevirtual 68, 3, 85, 2, 601), (6, .ifCond .eq 66, 3, 72, 0, 0), (9, .iload_n 1, 1, 0, 0, 0), (10, .aload_n 0, 1, 0, 0, 0), (11, .getfield 24, 3, 5, 1, 250), (14, .imul, 1, 0, 0, 0), (15, .iload_n 2, 1, 0, 0, 0), (16, .iadd, 1, 0, 0, 0), (17, .istore 4, 2, 0, 0, 0), (19, .aload_n 0, 1, 0, 0, 0), (20, .getfield 38, 3, 5, 4, 253), (23, .iload 4, 2, 0, 0, 0), (25, .iaload, 1, 0, 0, 0), (26, .aload_n 0, 1, 0, 0, 0), (27, .getfield 34, 3, 5, 3, 252), (30, .iload 4, 2, 0, 0, 0), (32, .aload_n 0, 1, 0, 0, 0), (33, .getfield 27, 3, 5, 2, 251), (36, .imul, 1, 0, 0, 0), (37, .iaload, 1, 0, 0, 0), (38, .imul, 1, 0, 0, 0), (39, .iload_n 3, 1, 0, 0, 0), (40, .iadd, 1, 0, 0, 0), (41, .istore 5, 2, 0, 0, 0), (43, .aload_n 0, 1, 0, 0, 0), (44, .getfield 38, 3, 5, 4, 253), (47, .iload 4, 2, 0, 0, 0), (49, .iload 5, 2, 0, 0, 0), (51, .invokestatic 90, 3, 0, 1, 605), (54, .iastore, 1, 0, 0, 0), (55, .aload_n 0, 1, 0, 0, 0), (56, .getfield 34, 3, 5, 3, 252), (59, .iload 4, 2, 0, 0, 0), (61, .aload_n 0, 1, 0, 0, 0), (62, .getfield 27, 3, 5, 2, 251), (65, .imul, 1, 0, 0, 0), (66, .iload 5, 2, 0, 0, 0), (68, .invokestatic 72, 3, 5, 1, 608), (71, .iastore, 1, 0, 0, 0), (72, .return_, 1, 0, 0, 0)]
def qt111 : List eRow := [(0, .aload_n 1, 1, 0, 0, 0), (1, .iconst 2, 1, 0, 0, 0), (2, .aload_n 0, 1, 0, 0, 0), (3, .getfield 15, 3, 6, 1, 382), (6, .imul, 1, 0, 0, 0), (7, .aload_n 0, 1, 0, 0, 0), (8, .getfield 42, 3, 6, 2, 385), (11, .iconst 1, 1, 0, 0, 0), (12, .invokevirtual 77, 3, 106, 3, 581), (15, .iconst 0, 1, 0, 0, 0), (16, .istore_n 2, 1, 0, 0, 0), (17, .iload_n 2, 1, 0, 0, 0), (18, .iconst 2, 1, 0, 0, 0), (19, .if_icmp .ge 109, 3, 128, 0, 0), (22, .iconst 0, 1, 0, 0, 0), (23, .istore_n 3, 1, 0, 0, 0), (24, .iload_n 3, 1, 0, 0, 0), (25, .aload_n 0, 1, 0, 0, 0), (26, .getfield 42, 3, 6, 2, 385), (29, .if_icmp .ge 54, 3, 83, 0, 0), (32, .aload_n 1, 1, 0, 0, 0), (33, .aload_n 0, 1, 0, 0, 0), (34, .aload_n 0, 1, 0, 0, 0), (35, .getfield 30, 3, 6, 6, 394), (38, .iload_n 3, 1, 0, 0, 0), (39, .iaload, 1, 0, 0, 0), (40, .iload_n 2, 1, 0, 0, 0), (41, .invokevirtual 83, 3, 108, 2, 589), (44, .iload_n 3, 1, 0, 0, 0), (45, .aload_n 0, 1, 0, 0, 0), (46, .iload_n 3, 1, 0, 0, 0), (47, .iload_n 2, 1, 0, 0, 0), (48, .invokevirtual 64, 3, 109, 2, 537), (51, .invokevirtual 86, 3, 110, 3, 597), (54, .aload_n 1, 1, 0, 0, 0), (55, .aload_n 0, 1, 0, 0, 0), (56, .aload_n 0, 1, 0, 0, 0), (57, .getfield 33, 3, 6, 7, 396), (60, .iload_n 3, 1, 0, 0, 0), (61, .iaload, 1, 0, 0, 0), (62, .iload_n 2, 1, 0, 0, 0), (63, .invokevirtual 83, 3, 108, 2, 589), (66, .iload_n 3, 1, 0, 0, 0), (67, .aload_n 0, 1, 0, 0, 0), (68, .iload_n 3, 1, 0, 0, 0), (69, .iload_n 2, 1, 0, 0, 0), (70, .invokevirtual 64, 3, 109, 2, 537), (73, .ineg, 1, 0, 0, 0), (74, .invokevirtual 86, 3, 110, 3, 597), (77, .iinc 3 1, 3, 0, 0, 0), (80, .goto (-56), 3, 24, 0, 0), (83, .iconst 0, 1, 0, 0, 0), (84, .istore_n 3, 1, 0, 0, 0), (85, .iload_n 3, 1, 0, 0, 0), (86, .aload_n 0, 1, 0, 0, 0), (87, .getfield 9, 3, 6, 0, 380), (90, .if_icmp .ge 32, 3, 122, 0, 0), (93, .aload_n 1, 1, 0, 0, 0), (94, .aload_n 0, 1, 0, 0, 0), (95, .iload_n 3, 1, 0, 0, 0), (96, .iload_n 2, 1, 0, 0, 0), (97, .invokevirtual 83, 3, 108, 2, 589), (100, .aload_n 0, 1, 0, 0, 0), (101, .getfield 42, 3, 6, 2, 385), (104, .aload_n 0, 1, 0, 0, 0), (105, .getfield 23, 3, 6, 4, 390), (108, .iload_n 2, 1, 0, 0, 0), (109, .aaload, 1, 0, 0, 0), (110, .iload_n 3, 1, 0, 0, 0), (111, .iaload, 1, 0, 0, 0), (112, .ineg, 1, 0, 0, 0), (113, .invokevirtual 86, 3, 110, 3, 597), (116, .iinc 3 1, 3, 0, 0, 0), (119, .goto (-34), 3, 85, 0, 0), (122, .iinc 2 1, 3, 0, 0, 0), (125, .goto (-108), 3, 17, 0, 0), (128, .return_, 1, 0, 0, 0)]
def qt112 : List eRow := [(0, .aload_n 0, 1, 0, 0, 0), (1, .getfield 15, 3, 9, 0, 141), (4, .iconst 0, 1, 0, 0, 0), (5, .iload_n 1, 1, 0, 0, 0), (6, .invokestatic 29, 3, 5, 1, 165), (9, .iastore, 1, 0, 0, 0), (10, .aload_n 0, 1, 0, 0, 0), (11, .iload_n 1, 1, 0, 0, 0), (12, .ifCond .ne 7, 3, 19, 0, 0), (15, .iconst 0, 1, 0, 0, 0), (16, .goto 4, 3, 20, 0, 0), (19, .iconst 1, 1, 0, 0, 0), (20, .putfield 21, 3, 9, 1, 144), (23, .aload_n 0, 1, 0, 0, 0), (24, .iload_n 1, 1, 0, 0, 0), (25, .ifCond .ge 7, 3, 32, 0, 0), (28, .iconst 1, 1, 0, 0, 0), (29, .goto 4, 3, 33, 0, 0), (32, .iconst 0, 1, 0, 0, 0), (33, .putfield 25, 3, 9, 2, 150), (36, .return_, 1, 0, 0, 0)]
def qt113 : List eRow := [(0, .aload_n 0, 1, 0, 0, 0), (1, .getfield 95, 3, 5, 9, 258), (4, .istore_n 2, 1, 0, 0, 0), (5, .iload_n 2, 1, 0, 0, 0), (6, .aload_n 0, 1, 0, 0, 0), (7, .getfield 50, 3, 5, 6, 255), (10, .if_icmp .ge 27, 3, 37, 0, 0), (13, .aload_n 0, 1, 0, 0, 0), (14, .getfield 38, 3, 5, 4, 253), (17, .iload_n 2, 1, 0, 0, 0), (18, .aload_n 0, 1, 0, 0, 0), (19, .getfield 24, 3, 5, 1, 250), (22, .imul, 1, 0, 0, 0), (23, .iload_n 1, 1, 0, 0, 0), (24, .iadd, 1, 0, 0, 0), (25, .iaload, 1, 0, 0, 0), (26, .ifCond .eq 5, 3, 31, 0, 0), (29, .iload_n 2, 1, 0, 0, 0), (30, .ireturn, 1, 0, 0, 0), (31, .iinc 2 1, 3, 0, 0, 0), (34, .goto (-29), 3, 5, 0, 0), (37, .iconst (-1), 1, 0, 0, 0), (38, .ireturn, 1, 0, 0, 0)]
def qt114 : List eRow := [(0, .aload_n 0, 1, 0, 0, 0), (1, .iload_n 1, 1, 0, 0, 0), (2, .iload_n 2, 1, 0, 0, 0), (3, .invokevirtual 68, 3, 85, 2, 601), (6, .ifCond .ne 4, 3, 10, 0, 0), (9, .return_, 1, 0, 0, 0), (10, .iload_n 1, 1, 0, 0, 0), (11, .aload_n 0, 1, 0, 0, 0), (12, .getfield 24, 3, 5, 1, 250), (15, .imul, 1, 0, 0, 0), (16, .iload_n 2, 1, 0, 0, 0), (17, .iadd, 1, 0, 0, 0), (18, .istore 4, 2, 0, 0, 0), (20, .aload_n 3, 1, 0, 0, 0), (21, .getfield 77, 3, 9, 1, 148), (24, .aload_n 0, 1, 0, 0, 0), (25, .getfield 27, 3, 5, 2, 251), (28, .invokestatic 44, 3, 9, 2, 585), (31, .istore 5, 2, 0, 0, 0), (33, .aload_n 0, 1, 0, 0, 0), (34, .getfield 38, 3, 5, 4, 253), (37, .iload 4, 2, 0, 0, 0), (39, .aload_n 3, 1, 0, 0, 0), (40, .getfield 80, 3, 9, 2, 153), (43, .ifCond .eq 9, 3, 52, 0, 0), (46, .iload 5, 2, 0, 0, 0), (48, .ineg, 1, 0, 0, 0), (49, .goto 5, 3, 54, 0, 0), (52, .iload 5, 2, 0, 0, 0), (54, .iastore, 1, 0, 0, 0), (55, .aload_n 3, 1, 0, 0, 0), (56, .getfield 76, 3, 9, 0, 143), (59, .iconst 0, 1, 0, 0, 0), (60, .aload_n 0, 1, 0, 0, 0), (61, .getfield 34, 3, 5, 3, 252), (64, .iload 4, 2, 0, 0, 0), (66, .aload_n 0, 1, 0, 0, 0), (67, .getfield 27, 3, 5, 2, 251), (70, .imul, 1, 0, 0, 0), (71, .iload 5, 2, 0, 0, 0), (73, .invokestatic 84, 3, 9998, 0, 626), (76, .return_, 1, 0, 0, 0)]
def qt115 : List eRow := [(0, .iconst 0, 1, 0, 0, 0), (1, .istore_n 3, 1, 0, 0, 0), (2, .iload_n 3, 1, 0, 0, 0), (3, .aload_n 0, 1, 0, 0, 0), (4, .getfield 53, 3, 5, 8, 257), (7, .if_icmp .ge 66, 3, 73, 0, 0), (10, .iload_n 1, 1, 0, 0, 0), (11, .iload_n 2, 1, 0, 0, 0), (12, .if_icmp .eq 61, 3, 73, 0, 0), (15, .aload_n 0, 1, 0, 0, 0), (16, .aload_n 0, 1, 0, 0, 0), (17, .getfield 30, 3, 5, 5, 254), (20, .getfield 130, 3, 1, 3, 219), (23, .iload_n 1, 1, 0, 0, 0), (24, .iload_n 3, 1, 0, 0, 0), (25, .invokevirtual 112, 3, 86, 3, 618), (28, .aload_n 0, 1, 0, 0, 0), (29, .aload_n 0, 1, 0, 0, 0), (30, .getfield 30, 3, 5, 5, 254), (33, .getfield 133, 3, 1, 4, 221), (36, .iload_n 2, 1, 0, 0, 0), (37, .iload_n 3, 1, 0, 0, 0), (38, .invokevirtual 112, 3, 86, 3, 618), (41, .aload_n 0, 1, 0, 0, 0), (42, .iload_n 1, 1, 0, 0, 0), (43, .iload_n 3, 1, 0, 0, 0), (44, .aload_n 0, 1, 0, 0, 0), (45, .getfield 30, 3, 5, 5, 254), (48, .getfield 133, 3, 1, 4, 221), (51, .invokevirtual 136, 3, 114, 3, 637), (54, .aload_n 0, 1, 0, 0, 0), (55, .iload_n 2, 1, 0, 0, 0), (56, .iload_n 3, 1, 0, 0, 0), (57, .aload_n 0, 1, 0, 0, 0), (58, .getfield 30, 3, 5, 5, 254), (61, .getfield 130, 3, 1, 3, 219), (64, .invokevirtual 136, 3, 114, 3, 637), (67, .iinc 3 1, 3, 0, 0, 0), (70, .goto (-68), 3, 2, 0, 0), (73, .return_, 1, 0, 0, 0)]
def qt116 : List eRow := [(0, .lconst 0, 1, 0, 0, 0), (1, .lstore_n 2, 1, 0, 0, 0), (2, .aload_n 0, 1, 0, 0, 0), (3, .getfield 21, 3, 9, 1, 144), (6, .iconst 1, 1, 0, 0, 0), (7, .isub, 1, 0, 0, 0), (8, .istore 4, 2, 0, 0, 0), (10, .iload 4, 2, 0, 0, 0), (12, .ifCond .lt 48, 3, 60, 0, 0), (15, .iload_n 1, 1, 0, 0, 0), (16, .ifCond .le 44, 3, 60, 0, 0), (19, .lload_n 2, 1, 0, 0, 0), (20, .ldc2_w 51, 3, 1000000000, 0, 659), (23, .lmul, 1, 0, 0, 0), (24, .aload_n 0, 1, 0, 0, 0), (25, .getfield 15, 3, 9, 0, 141), (28, .iload 4, 2, 0, 0, 0), (30, .iaload, 1, 0, 0, 0), (31, .i2l, 1, 0, 0, 0), (32, .ladd, 1, 0, 0, 0), (33, .lstore 5, 2, 0, 0, 0), (35, .aload_n 0, 1, 0, 0, 0), (36, .getfield 15, 3, 9, 0, 141), (39, .iload 4, 2, 0, 0, 0), (41, .lload 5, 2, 0, 0, 0), (43, .iload_n 1, 1, 0, 0, 0), (44, .i2l, 1, 0, 0, 0), (45, .ldiv, 1, 0, 0, 0), (46, .l2i, 1, 0, 0, 0), (47, .iastore, 1, 0, 0, 0), (48, .lload 5, 2, 0, 0, 0), (50, .iload_n 1, 1, 0, 0, 0), (51, .i2l, 1, 0, 0, 0), (52, .lrem, 1, 0, 0, 0), (53, .lstore_n 2, 1, 0, 0, 0), (54, .iinc 4 (-1), 3, 0, 0, 0), (57, .goto (-47), 3, 10, 0, 0), (60, .aload_n 0, 1, 0, 0, 0), (61, .aload_n 0, 1, 0, 0, 0), (62, .getfield 21, 3, 9, 1, 144), (65, .invokevirtual 53, 3, 95, 1, 660), (68, .lload_n 2, 1, 0, 0, 0), (69, .l2i, 1, 0, 0, 0), (70, .ireturn, 1, 0, 0, 0)]
def qt117 : List eRow := [(0, .aload_n 0, 1, 0, 0, 0), (1, .aload_n 0, 1, 0, 0, 0), (2, .getfield 21, 3, 9, 1, 144), (5, .iconst 1, 1, 0, 0, 0), (6, .iadd, 1, 0, 0, 0), (7, .invokevirtual 42, 3, 94, 1, 649), (10, .istore_n 2, 1, 0, 0, 0), (11, .lconst 0, 1, 0, 0, 0), (12, .lstore_n 3, 1, 0, 0, 0), (13, .iconst 0, 1, 0, 0, 0), (14, .istore 5, 2, 0, 0, 0), (16, .iload 5, 2, 0, 0, 0), (18, .iload_n 2, 1, 0, 0, 0), (19, .if_icmp .ge 44, 3, 63, 0, 0), (22, .aload_n 0, 1, 0, 0, 0), (23, .iload 5, 2, 0, 0, 0), (25, .invokevirtual 61, 3, 98, 1, 672), (28, .i2l, 1, 0, 0, 0), (29, .iload_n 1, 1, 0, 0, 0), (30, .i2l, 1, 0, 0, 0), (31, .lmul, 1, 0, 0, 0), (32, .lload_n 3, 1, 0, 0, 0), (33, .ladd, 1, 0, 0, 0), (34, .lstore 6, 2, 0, 0, 0), (36, .aload_n 0, 1, 0, 0, 0), (37, .getfield 15, 3, 9, 0, 141), (40, .iload 5, 2, 0, 0, 0), (42, .lload 6, 2, 0, 0, 0), (44, .ldc2_w 51, 3, 1000000000, 0, 659), (47, .lrem, 1, 0, 0, 0), (48, .l2i, 1, 0, 0, 0), (49, .iastore, 1, 0, 0, 0), (50, .lload 6, 2, 0, 0, 0), (52, .ldc2_w 51, 3, 1000000000, 0, 659), (55, .ldiv, 1, 0, 0, 0), (56, .lstore_n 3, 1, 0, 0, 0), (57, .iinc 5 1, 3, 0, 0, 0), (60, .goto (-44), 3, 16, 0, 0), (63, .aload_n 0, 1, 0, 0, 0), (64, .iload_n 2, 1, 0, 0, 0), (65, .invokevirtual 53, 3, 95, 1, 660), (68, .return_, 1, 0, 0, 0)]
def qt118 : List eRow := [(0, .iconst 0, 1, 0, 0, 0), (1, .istore_n 3, 1, 0, 0, 0), (2, .iconst 0, 1, 0, 0, 0), (3, .istore 4, 2, 0, 0, 0), (5, .iload 4, 2, 0, 0, 0), (7, .aload_n 0, 1, 0, 0, 0), (8, .getfield 20, 3, 2, 1, 197), (11, .getfield 32, 3, 9, 1, 145), (14, .if_icmp .ge 56, 3, 70, 0, 0), (17, .aload_n 1, 1, 0, 0, 0), (18, .iload_n 2, 1, 0, 0, 0), (19, .iload 4, 2, 0, 0, 0), (21, .iadd, 1, 0, 0, 0), (22, .iaload, 1, 0, 0, 0), (23, .aload_n 0, 1, 0, 0, 0), (24, .getfield 20, 3, 2, 1, 197), (27, .getfield 48, 3, 9, 0, 142), (30, .iload 4, 2, 0, 0, 0), (32, .iaload, 1, 0, 0, 0), (33, .iadd, 1, 0, 0, 0), (34, .iload_n 3, 1, 0, 0, 0), (35, .iadd, 1, 0, 0, 0), (36, .istore 5, 2, 0, 0, 0), (38, .iload 5, 2, 0, 0, 0), (40, .ldc 58, 2, 1000000000, 0, 694), (42, .if_icmp .lt 7, 3, 49, 0, 0), (45, .iconst 1, 1, 0, 0, 0), (46, .goto 4, 3, 50, 0, 0), (49, .iconst 0, 1, 0, 0, 0), (50, .istore_n 3, 1, 0, 0, 0), (51, .aload_n 1, 1, 0, 0, 0), (52, .iload_n 2, 1, 0, 0, 0), (53, .iload 4, 2, 0, 0, 0), (55, .iadd, 1, 0, 0, 0), (56, .iload 5, 2, 0, 0, 0), (58, .iload_n 3, 1, 0, 0, 0), (59, .ldc 58, 2, 1000000000, 0, 694), (61, .imul, 1, 0, 0, 0), (62, .isub, 1, 0, 0, 0), (63, .iastore, 1, 0, 0, 0), (64, .iinc 4 1, 3, 0, 0, 0), (67, .goto (-62), 3, 5, 0, 0), (70, .aload_n 1, 1, 0, 0, 0), (71, .iload_n 2, 1, 0, 0, 0), (72, .aload_n 0, 1, 0, 0, 0), (73, .getfield 20, 3, 2, 1, 197), (76, .getfield 32, 3, 9, 1, 145), (79, .iadd, 1, 0, 0, 0), (80, .dup2, 1, 0, 0, 0), (81, .iaload, 1, 0, 0, 0), (82, .iload_n 3, 1, 0, 0, 0), (83, .iadd, 1, 0, 0, 0), (84, .iastore, 1, 0, 0, 0), (85, .return_, 1, 0, 0, 0)]
def qt119 : List eRow := [(0, .aload_n 0, 1, 0, 0, 0), (1, .getfield 20, 3, 2, 1, 197), (4, .getfield 32, 3, 9, 1, 145), (7, .istore_n 3, 1, 0, 0, 0), (8, .iload_n 2, 1, 0, 0, 0), (9, .iload_n 3, 1, 0, 0, 0), (10, .iadd, 1, 0, 0, 0), (11, .istore 4, 2, 0, 0, 0), (13, .iload_n 3, 1, 0, 0, 0), (14, .iconst 1, 1, 0, 0, 0), (15, .if_icmp .lt 25, 3, 40, 0, 0), (18, .aload_n 0, 1, 0, 0, 0), (19, .getfield 20, 3, 2, 1, 197), (22, .getfield 48, 3, 9, 0, 142), (25, .iload_n 3, 1, 0, 0, 0), (26, .iconst 1, 1, 0, 0, 0), (27, .isub, 1, 0, 0, 0), (28, .iaload, 1, 0, 0, 0), (29, .iconst 1, 1, 0, 0, 0), (30, .if_icmp .lt 10, 3, 40, 0, 0), (33, .iload 4, 2, 0, 0, 0), (35, .aload_n 1, 1, 0, 0, 0), (36, .arraylength, 1, 0, 0, 0), (37, .if_icmp .lt 5, 3, 42, 0, 0), (40, .iconst 0, 1, 0, 0, 0), (41, .ireturn, 1, 0, 0, 0), (42, .aload_n 1, 1, 0, 0, 0), (43, .iload 4, 2, 0, 0, 0), (45, .iaload, 1, 0, 0, 0), (46, .i2l, 1, 0, 0, 0), (47, .ldc2_w 75, 3, 1000000000, 0, 704), (50, .lmul, 1, 0, 0, 0), (51, .aload_n 1, 1, 0, 0, 0), (52, .iload 4, 2, 0, 0, 0), (54, .iconst 1, 1, 0, 0, 0), (55, .isub, 1, 0, 0, 0), (56, .iaload, 1, 0, 0, 0), (57, .i2l, 1, 0, 0, 0), (58, .ladd, 1, 0, 0, 0), (59, .lstore 5, 2, 0, 0, 0), (61, .lload 5, 2, 0, 0, 0), (63, .aload_n 0, 1, 0, 0, 0), (64, .getfield 20, 3, 2, 1, 197), (67, .getfield 48, 3, 9, 0, 142), (70, .iload_n 3, 1, 0, 0, 0), (71, .iconst 1, 1, 0, 0, 0), (72, .isub, 1, 0, 0, 0), (73, .iaload, 1, 0, 0, 0), (74, .i2l, 1, 0, 0, 0), (75, .ldiv, 1, 0, 0, 0), (76, .ldc2_w 77, 3, 999999999, 0, 705), (79, .invokestatic 79, 3, 10, 2, 706), (82, .lstore 7, 2, 0, 0, 0), (84, .lconst 0, 1, 0, 0, 0), (85, .lstore 9, 2, 0, 0, 0), (87, .iconst 0, 1, 0, 0, 0), (88, .istore 11, 2, 0, 0, 0), (90, .iload 11, 2, 0, 0, 0), (92, .iload_n 3, 1, 0, 0, 0), (93, .if_icmp .ge 75, 3, 168, 0, 0), (96, .aload_n 1, 1, 0, 0, 0), (97, .iload_n 2, 1, 0, 0, 0), (98, .iload 11, 2, 0, 0, 0), (100, .iadd, 1, 0, 0, 0), (101, .iaload, 1, 0, 0, 0), (102, .i2l, 1, 0, 0, 0), (103, .lload 7, 2, 0, 0, 0), (105, .aload_n 0, 1, 0, 0, 0), (106, .getfield 20, 3, 2, 1, 197), (109, .getfield 48, 3, 9, 0, 142), (112, .iload 11, 2, 0, 0, 0), (114, .iaload, 1, 0, 0, 0), (115, .i2l, 1, 0, 0, 0), (116, .lmul, 1, 0, 0, 0), (117, .lsub, 1, 0, 0, 0), (118, .lload 9, 2, 0, 0, 0), (120, .lsub, 1, 0, 0, 0), (121, .lstore 12, 2, 0, 0, 0), (123, .lload 12, 2, 0, 0, 0), (125, .lconst 0, 1, 0, 0, 0), (126, .lcmp, 1, 0, 0, 0), (127, .ifCond .ge 16, 3, 143, 0, 0), (130, .ldc2_w 77, 3, 999999999, 0, 705), (133, .lload 12, 2, 0, 0, 0), (135, .lsub, 1, 0, 0, 0), (136, .ldc2_w 75, 3, 1000000000, 0, 704), (139, .ldiv, 1, 0, 0, 0), (140, .goto 4, 3, 144, 0, 0), (143, .lconst 0, 1, 0, 0, 0), (144, .lstore 9, 2, 0, 0, 0), (146, .aload_n 1, 1, 0, 0, 0), (147, .iload_n 2, 1, 0, 0, 0), (148, .iload 11, 2, 0, 0, 0), (150, .iadd, 1, 0, 0, 0), (151, .lload 12, 2, 0, 0, 0), (153, .lload 9, 2, 0, 0, 0), (155, .ldc2_w 75, 3, 1000000000, 0, 704), (158, .lmul, 1, 0, 0, 0), (159, .ladd, 1, 0, 0, 0), (160, .l2i, 1, 0, 0, 0), (161, .iastore, 1, 0, 0, 0), (162, .iinc 11 1, 3, 0, 0, 0), (165, .goto (-75), 3, 90, 0, 0), (168, .aload_n 1, 1, 0, 0, 0), (169, .iload 4, 2, 0, 0, 0), (171, .dup2, 1, 0, 0, 0), (172, .iaload, 1, 0, 0, 0), (173, .lload 9, 2, 0, 0, 0), (175, .l2i, 1, 0, 0, 0), (176, .isub, 1, 0, 0, 0), (177, .iastore, 1, 0, 0, 0), (178, .iconst 0, 1, 0, 0, 0), (179, .istore 11, 2, 0, 0, 0), (181, .iload 11, 2, 0, 0, 0), (183, .iconst 2, 1, 0, 0, 0), (184, .if_icmp .ge 28, 3, 212, 0, 0), (187, .aload_n 1, 1, 0, 0, 0), (188, .iload 4, 2, 0, 0, 0), (190, .iaload, 1, 0, 0, 0), (191, .ifCond .ge 21, 3, 212, 0, 0), (194, .aload_n 0, 1, 0, 0, 0), (195, .aload_n 1, 1, 0, 0, 0), (196, .iload_n 2, 1, 0, 0, 0), (197, .invokevirtual 82, 3, 118, 2, 709), (200, .lload 7, 2, 0, 0, 0), (202, .lconst 1, 1, 0, 0, 0), (203, .lsub, 1, 0, 0, 0), (204, .lstore 7, 2, 0, 0, 0), (206, .iinc 11 1, 3, 0, 0, 0), (209, .goto (-28), 3, 181, 0, 0), (212, .lload 7, 2, 0, 0, 0), (214, .l2i, 1, 0, 0, 0), (215, .ireturn, 1, 0, 0, 0)]
def qt120 : List eRow := [(0, .aload_n 0, 1, 0, 0, 0), (1, .getfield 14, 3, 2, 0, 194), (4, .invokevirtual 29, 3, 82, 0, 681), (7, .aload_n 2, 1, 0, 0, 0), (8, .getfield 32, 3, 9, 1, 145), (11, .ifCond .eq 11, 3, 22, 0, 0), (14, .aload_n 1, 1, 0, 0, 0), (15, .aload_n 2, 1, 0, 0, 0), (16, .invokevirtual 36, 3, 97, 1, 682), (19, .ifCond .ge 4, 3, 23, 0, 0), (22, .return_, 1, 0, 0, 0), (23, .aload_n 1, 1, 0, 0, 0), (24, .getfield 40, 3, 9, 2, 151), (27, .aload_n 2, 1, 0, 0, 0), (28, .getfield 40, 3, 9, 2, 151), (31, .if_icmp .eq 7, 3, 38, 0, 0), (34, .iconst 1, 1, 0, 0, 0), (35, .goto 4, 3, 39, 0, 0), (38, .iconst 0, 1, 0, 0, 0), (39, .istore_n 3, 1, 0, 0, 0), (40, .aload_n 2, 1, 0, 0, 0), (41, .getfield 32, 3, 9, 1, 145), (44, .iconst 1, 1, 0, 0, 0), (45, .if_icmp .ne 37, 3, 82, 0, 0), (48, .aload_n 0, 1, 0, 0, 0), (49, .getfield 14, 3, 2, 0, 194), (52, .aload_n 1, 1, 0, 0, 0), (53, .invokevirtual 44, 3, 84, 1, 683), (56, .aload_n 1, 1, 0, 0, 0), (57, .aload_n 0, 1, 0, 0, 0), (58, .getfield 14, 3, 2, 0, 194), (61, .aload_n 2, 1, 0, 0, 0), (62, .getfield 48, 3, 9, 0, 142), (65, .iconst 0, 1, 0, 0, 0), (66, .iaload, 1, 0, 0, 0), (67, .invokevirtual 52, 3, 116, 1, 689), (70, .invokevirtual 56, 3, 112, 1, 693), (73, .aload_n 0, 1, 0, 0, 0), (74, .getfield 14, 3, 2, 0, 194), (77, .iload_n 3, 1, 0, 0, 0), (78, .putfield 40, 3, 9, 2, 151), (81, .return_, 1, 0, 0, 0), (82, .ldc 58, 2, 1000000000, 0, 694), (84, .aload_n 2, 1, 0, 0, 0), (85, .getfield 48, 3, 9, 0, 142), (88, .aload_n 2, 1, 0, 0, 0), (89, .getfield 32, 3, 9, 1, 145), (92, .iconst 1, 1, 0, 0, 0), (93, .isub, 1, 0, 0, 0), (94, .iaload, 1, 0, 0, 0), (95, .iconst 1, 1, 0, 0, 0), (96, .iadd, 1, 0, 0, 0), (97, .idiv, 1, 0, 0, 0), (98, .istore 4, 2, 0, 0, 0), (100, .aload_n 0, 1, 0, 0, 0), (101, .getfield 20, 3, 2, 1, 197), (104, .aload_n 2, 1, 0, 0, 0), (105, .invokevirtual 44, 3, 84, 1, 683), (108, .aload_n 0, 1, 0, 0, 0), (109, .getfield 20, 3, 2, 1, 197), (112, .iload 4, 2, 0, 0, 0), (114, .invokevirtual 59, 3, 117, 1, 695), (117, .aload_n 1, 1, 0, 0, 0), (118, .iload 4, 2, 0, 0, 0), (120, .invokevirtual 59, 3, 117, 1, 695), (123, .aload_n 1, 1, 0, 0, 0), (124, .getfield 32, 3, 9, 1, 145), (127, .aload_n 1, 1, 0, 0, 0), (128, .getfield 48, 3, 9, 0, 142), (131, .arraylength, 1, 0, 0, 0), (132, .iconst 1, 1, 0, 0, 0), (133, .isub, 1, 0, 0, 0), (134, .invokestatic 62, 3, 9, 2, 699), (137, .istore 5, 2, 0, 0, 0), (139, .aload_n 1, 1, 0, 0, 0), (140, .getfield 48, 3, 9, 0, 142), (143, .iload 5, 2, 0, 0, 0), (145, .iconst 0, 1, 0, 0, 0), (146, .iastore, 1, 0, 0, 0), (147, .iload 5, 2, 0, 0, 0), (149, .aload_n 0, 1, 0, 0, 0), (150, .getfield 20, 3, 2, 1, 197), (153, .getfield 32, 3, 9, 1, 145), (156, .isub, 1, 0, 0, 0), (157, .iconst 1, 1, 0, 0, 0), (158, .iadd, 1, 0, 0, 0), (159, .istore 6, 2, 0, 0, 0), (161, .iload 6, 2, 0, 0, 0), (163, .iconst 1, 1, 0, 0, 0), (164, .isub, 1, 0, 0, 0), (165, .istore 7, 2, 0, 0, 0), (167, .iload 7, 2, 0, 0, 0), (169, .ifCond .lt 29, 3, 198, 0, 0), (172, .aload_n 0, 1, 0, 0, 0), (173, .getfield 14, 3, 2, 0, 194), (176, .getfield 48, 3, 9, 0, 142), (179, .iload 7, 2, 0, 0, 0), (181, .aload_n 0, 1, 0, 0, 0), (182, .aload_n 1, 1, 0, 0, 0), (183, .getfield 48, 3, 9, 0, 142), (186, .iload 7, 2, 0, 0, 0), (188, .invokevirtual 68, 3, 119, 2, 700), (191, .iastore, 1, 0, 0, 0), (192, .iinc 7 (-1), 3, 0, 0, 0), (195, .goto (-28), 3, 167, 0, 0), (198, .aload_n 0, 1, 0, 0, 0), (199, .getfield 14, 3, 2, 0, 194), (202, .iload 6, 2, 0, 0, 0), (204, .invokevirtual 72, 3, 95, 1, 713), (207, .aload_n 0, 1, 0, 0, 0), (208, .getfield 14, 3, 2, 0, 194), (211, .iload_n 3, 1, 0, 0, 0), (212, .putfield 40, 3, 9, 2, 151), (215, .aload_n 1, 1, 0, 0, 0), (216, .iload 5, 2, 0, 0, 0), (218, .invokevirtual 72, 3, 95, 1, 713), (221, .aload_n 1, 1, 0, 0, 0), (222, .iload 4, 2, 0, 0, 0), (224, .invokevirtual 52, 3, 116, 1, 689), (227, .pop, 1, 0, 0, 0), (228, .return_, 1, 0, 0, 0)]
def qt121 : List eRow := [(0, .aload_n 0, 1, 0, 0, 0), (1, .aload_n 0, 1, 0, 0, 0), (2, .getfield 30, 3, 5, 5, 254), (5, .getfield 140, 3, 1, 2, 217), (8, .iload_n 1, 1, 0, 0, 0), (9, .iload_n 2, 1, 0, 0, 0), (10, .invokevirtual 112, 3, 86, 3, 618), (13, .iconst 0, 1, 0, 0, 0), (14, .istore_n 3, 1, 0, 0, 0), (15, .iload_n 3, 1, 0, 0, 0), (16, .aload_n 0, 1, 0, 0, 0), (17, .getfield 53, 3, 5, 8, 257), (20, .if_icmp .ge 188, 3, 208, 0, 0), (23, .iload_n 1, 1, 0, 0, 0), (24, .aload_n 0, 1, 0, 0, 0), (25, .getfield 95, 3, 5, 9, 258), (28, .if_icmp .eq 180, 3, 208, 0, 0), (31, .aload_n 0, 1, 0, 0, 0), (32, .aload_n 0, 1, 0, 0, 0), (33, .getfield 30, 3, 5, 5, 254), (36, .getfield 130, 3, 1, 3, 219), (39, .iload_n 1, 1, 0, 0, 0), (40, .iload_n 3, 1, 0, 0, 0), (41, .invokevirtual 112, 3, 86, 3, 618), (44, .aload_n 0, 1, 0, 0, 0), (45, .aload_n 0, 1, 0, 0, 0), (46, .getfield 30, 3, 5, 5, 254), (49, .getfield 133, 3, 1, 4, 221), (52, .aload_n 0, 1, 0, 0, 0), (53, .getfield 95, 3, 5, 9, 258), (56, .iload_n 3, 1, 0, 0, 0), (57, .invokevirtual 112, 3, 86, 3, 618), (60, .aload_n 0, 1, 0, 0, 0), (61, .getfield 30, 3, 5, 5, 254), (64, .getfield 130, 3, 1, 3, 219), (67, .getfield 77, 3, 9, 1, 148), (70, .ifCond .gt 29, 3, 99, 0, 0), (73, .aload_n 0, 1, 0, 0, 0), (74, .getfield 30, 3, 5, 5, 254), (77, .getfield 133, 3, 1, 4, 221), (80, .getfield 77, 3, 9, 1, 148), (83, .ifCond .le 119, 3, 202, 0, 0), (86, .aload_n 0, 1, 0, 0, 0), (87, .getfield 30, 3, 5, 5, 254), (90, .getfield 140, 3, 1, 2, 217), (93, .getfield 77, 3, 9, 1, 148), (96, .ifCond .le 106, 3, 202, 0, 0), (99, .aload_n 0, 1, 0, 0, 0), (100, .getfield 30, 3, 5, 5, 254), (103, .getfield 143, 3, 1, 5, 223), (106, .aload_n 0, 1, 0, 0, 0), (107, .getfield 30, 3, 5, 5, 254), (110, .getfield 107, 3, 1, 1, 215), (113, .aload_n 0, 1, 0, 0, 0), (114, .getfield 30, 3, 5, 5, 254), (117, .getfield 130, 3, 1, 3, 219), (120, .invokevirtual 146, 3, 96, 2, 645), (123, .aload_n 0, 1, 0, 0, 0), (124, .getfield 30, 3, 5, 5, 254), (127, .getfield 150, 3, 1, 6, 225), (130, .aload_n 0, 1, 0, 0, 0), (131, .getfield 30, 3, 5, 5, 254), (134, .getfield 140, 3, 1, 2, 217), (137, .aload_n 0, 1, 0, 0, 0), (138, .getfield 30, 3, 5, 5, 254), (141, .getfield 133, 3, 1, 4, 221), (144, .invokevirtual 146, 3, 96, 2, 645), (147, .aload_n 0, 1, 0, 0, 0), (148, .getfield 30, 3, 5, 5, 254), (151, .getfield 143, 3, 1, 5, 223), (154, .aload_n 0, 1, 0, 0, 0), (155, .getfield 30, 3, 5, 5, 254), (158, .getfield 150, 3, 1, 6, 225), (161, .iconst 1, 1, 0, 0, 0), (162, .invokevirtual 153, 3, 99, 2, 664), (165, .aload_n 0, 1, 0, 0, 0), (166, .getfield 30, 3, 5, 5, 254), (169, .getfield 157, 3, 1, 0, 213), (172, .aload_n 0, 1, 0, 0, 0), (173, .getfield 30, 3, 5, 5, 254), (176, .getfield 143, 3, 1, 5, 223), (179, .aload_n 0, 1, 0, 0, 0), (180, .getfield 14, 3, 5, 11, 261), (183, .invokevirtual 161, 3, 120, 2, 677), (186, .aload_n 0, 1, 0, 0, 0), (187, .iload_n 1, 1, 0, 0, 0), (188, .iload_n 3, 1, 0, 0, 0), (189, .aload_n 0, 1, 0, 0, 0), (190, .getfield 30, 3, 5, 5, 254), (193, .getfield 157, 3, 1, 0, 213), (196, .getfield 166, 3, 2, 0, 196), (199, .invokevirtual 136, 3, 114, 3, 637), (202, .iinc 3 1, 3, 0, 0, 0), (205, .goto (-190), 3, 15, 0, 0), (208, .return_, 1, 0, 0, 0)]
def qt122 : List eRow := [(0, .aload_n 0, 1, 0, 0, 0), (1, .iconst 0, 1, 0, 0, 0), (2, .putfield 95, 3, 5, 9, 258), (5, .aload_n 0, 1, 0, 0, 0), (6, .getfield 14, 3, 5, 11, 261), (9, .iconst 1, 1, 0, 0, 0), (10, .invokevirtual 98, 3, 112, 1, 613), (13, .aload_n 0, 1, 0, 0, 0), (14, .iconst 1, 1, 0, 0, 0), (15, .putfield 101, 3, 5, 12, 264), (18, .iconst 0, 1, 0, 0, 0), (19, .istore_n 1, 1, 0, 0, 0), (20, .iload_n 1, 1, 0, 0, 0), (21, .aload_n 0, 1, 0, 0, 0), (22, .getfield 56, 3, 5, 7, 256), (25, .if_icmp .ge 144, 3, 169, 0, 0), (28, .aload_n 0, 1, 0, 0, 0), (29, .iload_n 1, 1, 0, 0, 0), (30, .invokevirtual 104, 3, 113, 1, 614), (33, .istore_n 2, 1, 0, 0, 0), (34, .aload_n 0, 1, 0, 0, 0), (35, .getfield 41, 3, 5, 10, 259), (38, .iload_n 1, 1, 0, 0, 0), (39, .iload_n 2, 1, 0, 0, 0), (40, .iconst (-1), 1, 0, 0, 0), (41, .if_icmp .ne 7, 3, 48, 0, 0), (44, .iconst (-1), 1, 0, 0, 0), (45, .goto 7, 3, 52, 0, 0), (48, .aload_n 0, 1, 0, 0, 0), (49, .getfield 95, 3, 5, 9, 258), (52, .iastore, 1, 0, 0, 0), (53, .aload_n 0, 1, 0, 0, 0), (54, .aload_n 0, 1, 0, 0, 0), (55, .getfield 30, 3, 5, 5, 254), (58, .getfield 107, 3, 1, 1, 215), (61, .iload_n 2, 1, 0, 0, 0), (62, .iload_n 1, 1, 0, 0, 0), (63, .invokevirtual 112, 3, 86, 3, 618), (66, .aload_n 0, 1, 0, 0, 0), (67, .aload_n 0, 1, 0, 0, 0), (68, .getfield 101, 3, 5, 12, 264), (71, .ifCond .eq 28, 3, 99, 0, 0), (74, .iload_n 2, 1, 0, 0, 0), (75, .aload_n 0, 1, 0, 0, 0), (76, .getfield 95, 3, 5, 9, 258), (79, .if_icmp .ne 20, 3, 99, 0, 0), (82, .aload_n 0, 1, 0, 0, 0), (83, .getfield 30, 3, 5, 5, 254), (86, .getfield 107, 3, 1, 1, 215), (89, .invokevirtual 116, 3, 100, 0, 629), (92, .ifCond .le 7, 3, 99, 0, 0), (95, .iconst 1, 1, 0, 0, 0), (96, .goto 4, 3, 100, 0, 0), (99, .iconst 0, 1, 0, 0, 0), (100, .putfield 101, 3, 5, 12, 264), (103, .iload_n 2, 1, 0, 0, 0), (104, .iconst (-1), 1, 0, 0, 0), (105, .if_icmp .eq 58, 3, 163, 0, 0), (108, .aload_n 0, 1, 0, 0, 0), (109, .iload_n 2, 1, 0, 0, 0), (110, .aload_n 0, 1, 0, 0, 0), (111, .getfield 95, 3, 5, 9, 258), (114, .invokevirtual 120, 3, 115, 2, 633), (117, .iconst 0, 1, 0, 0, 0), (118, .istore_n 3, 1, 0, 0, 0), (119, .iload_n 3, 1, 0, 0, 0), (120, .aload_n 0, 1, 0, 0, 0), (121, .getfield 50, 3, 5, 6, 255), (124, .if_icmp .ge 15, 3, 139, 0, 0), (127, .aload_n 0, 1, 0, 0, 0), (128, .iload_n 3, 1, 0, 0, 0), (129, .iload_n 1, 1, 0, 0, 0), (130, .invokevirtual 124, 3, 121, 2, 641), (133, .iinc 3 1, 3, 0, 0, 0), (136, .goto (-17), 3, 119, 0, 0), (139, .aload_n 0, 1, 0, 0, 0), (140, .getfield 14, 3, 5, 11, 261), (143, .aload_n 0, 1, 0, 0, 0), (144, .getfield 30, 3, 5, 5, 254), (147, .getfield 107, 3, 1, 1, 215), (150, .invokevirtual 127, 3, 84, 1, 714), (153, .aload_n 0, 1, 0, 0, 0), (154, .dup, 1, 0, 0, 0), (155, .getfield 95, 3, 5, 9, 258), (158, .iconst 1, 1, 0, 0, 0), (159, .iadd, 1, 0, 0, 0), (160, .putfield 95, 3, 5, 9, 258), (163, .iinc 1 1, 3, 0, 0, 0), (166, .goto (-146), 3, 20, 0, 0), (169, .return_, 1, 0, 0, 0)]
def qt123 : List eRow := [(0, .aload_n 0, 1, 0, 0, 0), (1, .getfield 246, 3, 10, 11, 435), (4, .ifCond .eq 14, 3, 18, 0, 0), (7, .iload_n 1, 1, 0, 0, 0), (8, .ifCond .eq 38, 3, 46, 0, 0), (11, .aload_n 0, 1, 0, 0, 0), (12, .getfield 125, 3, 10, 12, 436), (15, .ifCond .ne 31, 3, 46, 0, 0), (18, .aload_n 0, 1, 0, 0, 0), (19, .getfield 73, 3, 10, 9, 433), (22, .aload_n 0, 1, 0, 0, 0), (23, .getfield 35, 3, 10, 3, 427), (26, .invokevirtual 252, 3, 111, 1, 577), (29, .aload_n 0, 1, 0, 0, 0), (30, .getfield 35, 3, 10, 3, 427), (33, .invokevirtual 256, 3, 122, 0, 609), (36, .aload_n 0, 1, 0, 0, 0), (37, .iconst 1, 1, 0, 0, 0), (38, .putfield 246, 3, 10, 11, 435), (41, .aload_n 0, 1, 0, 0, 0), (42, .iconst 1, 1, 0, 0, 0), (43, .putfield 125, 3, 10, 12, 436), (46, .return_, 1, 0, 0, 0)]
def qt124 : List eRow := [(0, .iload_n 1, 1, 0, 0, 0), (1, .ifCond .lt 15, 3, 16, 0, 0), (4, .iload_n 1, 1, 0, 0, 0), (5, .aload_n 0, 1, 0, 0, 0), (6, .getfield 42, 3, 6, 2, 385), (9, .if_icmp .ge 7, 3, 16, 0, 0), (12, .iconst 1, 1, 0, 0, 0), (13, .goto 4, 3, 17, 0, 0), (16, .iconst 0, 1, 0, 0, 0), (17, .ireturn, 1, 1, 0, 0)]
def qt125 : List eRow := [(0, .aload_n 0, 1, 0, 0, 0), (1, .getfield 95, 3, 5, 9, 258), (4, .istore_n 2, 1, 0, 0, 0), (5, .iload_n 2, 1, 0, 0, 0), (6, .aload_n 0, 1, 0, 0, 0), (7, .getfield 50, 3, 5, 6, 255), (10, .if_icmp .ge 36, 3, 46, 0, 0), (13, .aload_n 0, 1, 0, 0, 0), (14, .iload_n 2, 1, 0, 0, 0), (15, .iload_n 1, 1, 0, 0, 0), (16, .invokevirtual 68, 3, 85, 2, 601), (19, .ifCond .eq 21, 3, 40, 0, 0), (22, .aload_n 0, 1, 0, 0, 0), (23, .getfield 38, 3, 5, 4, 253), (26, .iload_n 2, 1, 0, 0, 0), (27, .aload_n 0, 1, 0, 0, 0), (28, .getfield 24, 3, 5, 1, 250), (31, .imul, 1, 0, 0, 0), (32, .iload_n 1, 1, 0, 0, 0), (33, .iadd, 1, 0, 0, 0), (34, .iaload, 1, 0, 0, 0), (35, .ifCond .eq 5, 3, 40, 0, 0), (38, .iconst 0, 1, 0, 0, 0), (39, .ireturn, 1, 1, 0, 0), (40, .iinc 2 1, 3, 0, 0, 0), (43, .goto (-38), 3, 5, 0, 0), (46, .iconst 1, 1, 0, 0, 0), (47, .ireturn, 1, 1, 0, 0)]
def qt126 : List eRow := [(0, .aload_n 1, 1, 0, 0, 0), (1, .invokevirtual 65, 3, 82, 0, 622), (4, .iload_n 2, 1, 0, 0, 0), (5, .ifCond .lt 23, 3, 28, 0, 0), (8, .iload_n 2, 1, 0, 0, 0), (9, .aload_n 0, 1, 0, 0, 0), (10, .getfield 56, 3, 5, 7, 256), (13, .if_icmp .ge 15, 3, 28, 0, 0), (16, .aload_n 0, 1, 0, 0, 0), (17, .aload_n 1, 1, 0, 0, 0), (18, .aload_n 0, 1, 0, 0, 0), (19, .getfield 41, 3, 5, 10, 259), (22, .iload_n 2, 1, 0, 0, 0), (23, .iaload, 1, 0, 0, 0), (24, .iload_n 3, 1, 0, 0, 0), (25, .invokevirtual 112, 3, 86, 3, 618), (28, .return_, 1, 0, 0, 0)]
def qt127 : List eRow := [(0, .aload_n 0, 1, 0, 0, 0), (1, .getfield 23, 3, 2, 2, 198), (4, .aload_n 1, 1, 0, 0, 0), (5, .invokevirtual 44, 3, 84, 1, 683), (8, .aload_n 0, 1, 0, 0, 0), (9, .getfield 26, 3, 2, 3, 199), (12, .aload_n 2, 1, 0, 0, 0), (13, .invokevirtual 44, 3, 84, 1, 683), (16, .aload_n 0, 1, 0, 0, 0), (17, .getfield 23, 3, 2, 2, 198), (20, .astore_n 3, 1, 0, 0, 0), (21, .aload_n 0, 1, 0, 0, 0), (22, .getfield 26, 3, 2, 3, 199), (25, .astore 4, 2, 0, 0, 0), (27, .iconst 0, 1, 0, 0, 0), (28, .istore 5, 2, 0, 0, 0), (30, .iload 5, 2, 0, 0, 0), (32, .sipush 2000, 3, 0, 0, 0), (35, .if_icmp .ge 34, 3, 69, 0, 0), (38, .aload 4, 2, 0, 0, 0), (40, .getfield 32, 3, 9, 1, 145), (43, .ifCond .le 26, 3, 69, 0, 0), (46, .aload_n 0, 1, 0, 0, 0), (47, .aload_n 3, 1, 0, 0, 0), (48, .aload 4, 2, 0, 0, 0), (50, .invokevirtual 86, 3, 120, 2, 745), (53, .aload_n 3, 1, 0, 0, 0), (54, .astore 6, 2, 0, 0, 0), (56, .aload 4, 2, 0, 0, 0), (58, .astore_n 3, 1, 0, 0, 0), (59, .aload 6, 2, 0, 0, 0), (61, .astore 4, 2, 0, 0, 0), (63, .iinc 5 1, 3, 0, 0, 0), (66, .goto (-36), 3, 30, 0, 0), (69, .aload_n 3, 1, 0, 0, 0), (70, .iconst 0, 1, 0, 0, 0), (71, .putfield 40, 3, 9, 2, 151), (74, .aload_n 3, 1, 0, 0, 0), (75, .areturn, 1, 0, 0, 0)]
def qt128 : List eRow := [(0, .aload_n 0, 1, 0, 0, 0), (1, .getfield 21, 3, 9, 1, 144), (4, .iconst 1, 1, 0, 0, 0), (5, .if_icmp .ne 17, 3, 22, 0, 0), (8, .aload_n 0, 1, 0, 0, 0), (9, .getfield 15, 3, 9, 0, 141), (12, .iconst 0, 1, 0, 0, 0), (13, .iaload, 1, 0, 0, 0), (14, .iconst 1, 1, 0, 0, 0), (15, .if_icmp .ne 7, 3, 22, 0, 0), (18, .iconst 1, 1, 0, 0, 0), (19, .goto 4, 3, 23, 0, 0), (22, .iconst 0, 1, 0, 0, 0), (23, .ireturn, 1, 1, 0, 0)]
def qt129 : List eRow := [(0, .aload_n 0, 1, 0, 0, 0), (1, .getfield 23, 3, 4, 2, 172), (4, .aload_n 1, 1, 0, 0, 0), (5, .invokevirtual 29, 3, 84, 1, 739), (8, .aload_n 3, 1, 0, 0, 0), (9, .aload_n 0, 1, 0, 0, 0), (10, .getfield 23, 3, 4, 2, 172), (13, .aload_n 2, 1, 0, 0, 0), (14, .invokevirtual 53, 3, 120, 2, 754), (17, .aload_n 1, 1, 0, 0, 0), (18, .aload_n 3, 1, 0, 0, 0), (19, .getfield 57, 3, 2, 0, 195), (22, .invokevirtual 29, 3, 84, 1, 739), (25, .return_, 1, 0, 0, 0)]
def qt130 : List eRow := [(0, .aload_n 0, 1, 0, 0, 0), (1, .getfield 14, 3, 4, 0, 168), (4, .aload_n 1, 1, 0, 0, 0), (5, .invokevirtual 29, 3, 84, 1, 739), (8, .aload_n 0, 1, 0, 0, 0), (9, .getfield 20, 3, 4, 1, 170), (12, .aload_n 2, 1, 0, 0, 0), (13, .invokevirtual 29, 3, 84, 1, 739), (16, .aload_n 0, 1, 0, 0, 0), (17, .getfield 20, 3, 4, 1, 170), (20, .getfield 32, 3, 9, 2, 152), (23, .ifCond .eq 17, 3, 40, 0, 0), (26, .aload_n 0, 1, 0, 0, 0), (27, .getfield 14, 3, 4, 0, 168), (30, .invokevirtual 36, 3, 87, 0, 740), (33, .aload_n 0, 1, 0, 0, 0), (34, .getfield 20, 3, 4, 1, 170), (37, .invokevirtual 36, 3, 87, 0, 740), (40, .aload_n 3, 1, 0, 0, 0), (41, .aload_n 0, 1, 0, 0, 0), (42, .getfield 14, 3, 4, 0, 168), (45, .aload_n 0, 1, 0, 0, 0), (46, .getfield 20, 3, 4, 1, 170), (49, .invokevirtual 39, 3, 127, 2, 741), (52, .astore 4, 2, 0, 0, 0), (54, .aload 4, 2, 0, 0, 0), (56, .invokevirtual 45, 3, 128, 0, 746), (59, .ifCond .ne 25, 3, 84, 0, 0), (62, .aload_n 0, 1, 0, 0, 0), (63, .aload_n 0, 1, 0, 0, 0), (64, .getfield 14, 3, 4, 0, 168), (67, .aload 4, 2, 0, 0, 0), (69, .aload_n 3, 1, 0, 0, 0), (70, .invokevirtual 49, 3, 129, 3, 750), (73, .aload_n 0, 1, 0, 0, 0), (74, .aload_n 0, 1, 0, 0, 0), (75, .getfield 20, 3, 4, 1, 170), (78, .aload 4, 2, 0, 0, 0), (80, .aload_n 3, 1, 0, 0, 0), (81, .invokevirtual 49, 3, 129, 3, 750), (84, .return_, 1, 0, 0, 0)]
def qt131 : List eRow := [(0, .aload_n 0, 1, 0, 0, 0), (1, .iconst 1, 1, 0, 0, 0), (2, .invokevirtual 139, 3, 123, 1, 573), (5, .aload_n 0, 1, 0, 0, 0), (6, .getfield 73, 3, 10, 9, 433), (9, .iload_n 1, 1, 0, 0, 0), (10, .invokevirtual 132, 3, 124, 1, 565), (13, .ifCond .eq 20, 3, 33, 0, 0), (16, .aload_n 0, 1, 0, 0, 0), (17, .getfield 35, 3, 10, 3, 427), (20, .aload_n 0, 1, 0, 0, 0), (21, .getfield 73, 3, 10, 9, 433), (24, .getfield 112, 3, 6, 2, 387), (27, .invokevirtual 181, 3, 125, 1, 800), (30, .ifCond .ne 5, 3, 35, 0, 0), (33, .iconst 0, 1, 0, 0, 0), (34, .ireturn, 1, 1, 0, 0), (35, .aload_n 0, 1, 0, 0, 0), (36, .getfield 35, 3, 10, 3, 427), (39, .aload_n 0, 1, 0, 0, 0), (40, .getfield 66, 3, 10, 8, 432), (43, .iload_n 1, 1, 0, 0, 0), (44, .aload_n 0, 1, 0, 0, 0), (45, .getfield 73, 3, 10, 9, 433), (48, .getfield 112, 3, 6, 2, 387), (51, .invokevirtual 184, 3, 126, 3, 808), (54, .aload_n 0, 1, 0, 0, 0), (55, .getfield 19, 3, 10, 1, 425), (58, .aload_n 0, 1, 0, 0, 0), (59, .getfield 66, 3, 10, 8, 432), (62, .aload_n 0, 1, 0, 0, 0), (63, .getfield 35, 3, 10, 3, 427), (66, .getfield 151, 3, 5, 11, 262), (69, .aload_n 0, 1, 0, 0, 0), (70, .getfield 26, 3, 10, 2, 426), (73, .getfield 154, 3, 1, 0, 212), (76, .invokevirtual 158, 3, 130, 3, 735), (79, .iconst 1, 1, 0, 0, 0), (80, .ireturn, 1, 1, 0, 0)]
def qt132 : List eRow := [(0, .aload_n 0, 1, 0, 0, 0), (1, .getfield 56, 3, 5, 7, 256), (4, .aload_n 0, 1, 0, 0, 0), (5, .getfield 95, 3, 5, 9, 258), (8, .isub, 1, 0, 0, 0), (9, .ireturn, 1, 0, 0, 0)]
def qt133 : List eRow := [(0, .aload_n 0, 1, 0, 0, 0), (1, .iconst 1, 1, 0, 0, 0), (2, .invokevirtual 139, 3, 123, 1, 573), (5, .aload_n 0, 1, 0, 0, 0), (6, .getfield 35, 3, 10, 3, 427), (9, .aload_n 0, 1, 0, 0, 0), (10, .getfield 73, 3, 10, 9, 433), (13, .getfield 112, 3, 6, 2, 387), (16, .invokevirtual 181, 3, 125, 1, 800), (19, .ifCond .ne 5, 3, 24, 0, 0), (22, .iconst 0, 1, 0, 0, 0), (23, .ireturn, 1, 0, 0, 0), (24, .aload_n 0, 1, 0, 0, 0), (25, .getfield 35, 3, 10, 3, 427), (28, .invokevirtual 143, 3, 132, 0, 715), (31, .ifCond .ne 7, 3, 38, 0, 0), (34, .iconst 1, 1, 0, 0, 0), (35, .goto 4, 3, 39, 0, 0), (38, .iconst 2, 1, 0, 0, 0), (39, .ireturn, 1, 0, 0, 0)]
def qt134 : List eRow := [(0, .aload_n 0, 1, 0, 0, 0), (1, .getfield 20, 3, 7, 2, 106), (4, .iload_n 1, 1, 0, 0, 0), (5, .iaload, 1, 0, 0, 0), (6, .iconst (-1), 1, 0, 0, 0), (7, .if_icmp .eq 7, 3, 14, 0, 0), (10, .iconst 1, 1, 0, 0, 0), (11, .goto 4, 3, 15, 0, 0), (14, .iconst 0, 1, 0, 0, 0), (15, .ireturn, 1, 1, 0, 0)]
def qt135 : List eRow := [(0, .iconst 0, 1, 0, 0, 0), (1, .istore_n 1, 1, 0, 0, 0), (2, .iconst 0, 1, 0, 0, 0), (3, .istore_n 2, 1, 0, 0, 0), (4, .iload_n 2, 1, 0, 0, 0), (5, .bipush 8, 2, 0, 0, 0), (7, .if_icmp .ge 25, 3, 32, 0, 0), (10, .iload_n 1, 1, 0, 0, 0), (11, .aload_n 0, 1, 0, 0, 0), (12, .iload_n 2, 1, 0, 0, 0), (13, .invokevirtual 32, 3, 134, 1, 936), (16, .ifCond .eq 7, 3, 23, 0, 0), (19, .iconst 1, 1, 0, 0, 0), (20, .goto 4, 3, 24, 0, 0), (23, .iconst 0, 1, 0, 0, 0), (24, .iadd, 1, 0, 0, 0), (25, .istore_n 1, 1, 0, 0, 0), (26, .iinc 2 1, 3, 0, 0, 0), (29, .goto (-25), 3, 4, 0, 0), (32, .iload_n 1, 1, 0, 0, 0), (33, .ireturn, 1, 0, 0, 0)]
def qt136 : List eRow := [(0, .iload_n 1, 1, 0, 0, 0), (1, .tableswitch 63 0 3 #[31, 39, 47, 55], 31, 0, 0, 0), (32, .aload_n 0, 1, 0, 0, 0), (33, .getfield 73, 3, 10, 9, 433), (36, .getfield 240, 3, 6, 0, 381), (39, .ireturn, 1, 0, 0, 0), (40, .aload_n 0, 1, 0, 0, 0), (41, .getfield 73, 3, 10, 9, 433), (44, .getfield 198, 3, 6, 1, 383), (47, .ireturn, 1, 0, 0, 0), (48, .aload_n 0, 1, 0, 0, 0), (49, .getfield 73, 3, 10, 9, 433), (52, .getfield 112, 3, 6, 2, 387), (55, .ireturn, 1, 0, 0, 0), (56, .aload_n 0, 1, 0, 0, 0), (57, .getfield 12, 3, 10, 0, 424), (60, .invokevirtual 243, 3, 135, 0, 932), (63, .ireturn, 1, 0, 0, 0), (64, .iconst (-1), 1, 0, 0, 0), (65, .ireturn, 1, 0, 0, 0)]
def qt137 : List eRow := [(0, .iconst 0, 1, 0, 0, 0), (1, .istore_n 3, 1, 0, 0, 0), (2, .iconst 0, 1, 0, 0, 0), (3, .istore 4, 2, 0, 0, 0), (5, .iload 4, 2, 0, 0, 0), (7, .aload_n 0, 1, 0, 0, 0), (8, .getfield 42, 3, 6, 2, 385), (11, .if_icmp .ge 67, 3, 78, 0, 0), (14, .aload_n 0, 1, 0, 0, 0), (15, .getfield 30, 3, 6, 6, 394), (18, .iload 4, 2, 0, 0, 0), (20, .iaload, 1, 0, 0, 0), (21, .iload_n 1, 1, 0, 0, 0), (22, .if_icmp .ne 21, 3, 43, 0, 0), (25, .iload_n 3, 1, 0, 0, 0), (26, .aload_n 0, 1, 0, 0, 0), (27, .getfield 39, 3, 6, 9, 400), (30, .iload 4, 2, 0, 0, 0), (32, .iaload, 1, 0, 0, 0), (33, .aload_n 0, 1, 0, 0, 0), (34, .iload 4, 2, 0, 0, 0), (36, .iload_n 2, 1, 0, 0, 0), (37, .invokevirtual 64, 3, 109, 2, 537), (40, .imul, 1, 0, 0, 0), (41, .iadd, 1, 0, 0, 0), (42, .istore_n 3, 1, 0, 0, 0), (43, .aload_n 0, 1, 0, 0, 0), (44, .getfield 33, 3, 6, 7, 396), (47, .iload 4, 2, 0, 0, 0), (49, .iaload, 1, 0, 0, 0), (50, .iload_n 1, 1, 0, 0, 0), (51, .if_icmp .ne 21, 3, 72, 0, 0), (54, .iload_n 3, 1, 0, 0, 0), (55, .aload_n 0, 1, 0, 0, 0), (56, .getfield 39, 3, 6, 9, 400), (59, .iload 4, 2, 0, 0, 0), (61, .iaload, 1, 0, 0, 0), (62, .aload_n 0, 1, 0, 0, 0), (63, .iload 4, 2, 0, 0, 0), (65, .iload_n 2, 1, 0, 0, 0), (66, .invokevirtual 64, 3, 109, 2, 537), (69, .imul, 1, 0, 0, 0), (70, .isub, 1, 0, 0, 0), (71, .istore_n 3, 1, 0, 0, 0), (72, .iinc 4 1, 3, 0, 0, 0), (75, .goto (-70), 3, 5, 0, 0), (78, .iload_n 3, 1, 0, 0, 0), (79, .ireturn, 1, 0, 0, 0)]
def qt138 : List eRow := [(0, .iconst 0, 1, 0, 0, 0), (1, .istore_n 2, 1, 0, 0, 0), (2, .iload_n 2, 1, 0, 0, 0), (3, .aload_n 0, 1, 0, 0, 0), (4, .getfield 9, 3, 6, 0, 380), (7, .if_icmp .ge 62, 3, 69, 0, 0), (10, .iconst 0, 1, 0, 0, 0), (11, .istore_n 3, 1, 0, 0, 0), (12, .iload_n 3, 1, 0, 0, 0), (13, .iconst 2, 1, 0, 0, 0), (14, .if_icmp .ge 49, 3, 63, 0, 0), (17, .aload_n 0, 1, 0, 0, 0), (18, .iload_n 2, 1, 0, 0, 0), (19, .invokevirtual 70, 3, 107, 1, 593), (22, .ifCond .ne 41, 3, 63, 0, 0), (25, .aload_n 0, 1, 0, 0, 0), (26, .iload_n 2, 1, 0, 0, 0), (27, .iload_n 3, 1, 0, 0, 0), (28, .invokevirtual 74, 3, 137, 2, 783), (31, .iload_n 1, 1, 0, 0, 0), (32, .ifCond .eq 14, 3, 46, 0, 0), (35, .aload_n 0, 1, 0, 0, 0), (36, .getfield 23, 3, 6, 4, 390), (39, .iload_n 3, 1, 0, 0, 0), (40, .aaload, 1, 0, 0, 0), (41, .iload_n 2, 1, 0, 0, 0), (42, .iaload, 1, 0, 0, 0), (43, .goto 4, 3, 47, 0, 0), (46, .iconst 0, 1, 0, 0, 0), (47, .iadd, 1, 0, 0, 0), (48, .istore 4, 2, 0, 0, 0), (50, .iload 4, 2, 0, 0, 0), (52, .ifCond .eq 5, 3, 57, 0, 0), (55, .iconst 0, 1, 0, 0, 0), (56, .ireturn, 1, 1, 0, 0), (57, .iinc 3 1, 3, 0, 0, 0), (60, .goto (-48), 3, 12, 0, 0), (63, .iinc 2 1, 3, 0, 0, 0), (66, .goto (-64), 3, 2, 0, 0), (69, .iconst 1, 1, 0, 0, 0), (70, .ireturn, 1, 1, 0, 0)]
def qt139 : List eRow := [(0, .aload_n 0, 1, 0, 0, 0), (1, .getfield 73, 3, 10, 9, 433), (4, .iconst 1, 1, 0, 0, 0), (5, .invokevirtual 172, 3, 138, 1, 779), (8, .ireturn, 1, 1, 0, 0)]
def qt140 : List eRow := [(0, .aload_n 0, 1, 0, 0, 0), (1, .iconst 0, 1, 0, 0, 0), (2, .putfield 246, 3, 10, 11, 435), (5, .aload_n 0, 1, 0, 0, 0), (6, .iconst 0, 1, 0, 0, 0), (7, .putfield 125, 3, 10, 12, 436), (10, .aload_n 0, 1, 0, 0, 0), (11, .iconst 0, 1, 0, 0, 0), (12, .putfield 249, 3, 10, 13, 437), (15, .aload_n 0, 1, 0, 0, 0), (16, .iconst 0, 1, 0, 0, 0), (17, .putfield 129, 3, 10, 14, 438), (20, .aload_n 0, 1, 0, 0, 0), (21, .iconst 0, 1, 0, 0, 0), (22, .putfield 201, 3, 10, 15, 439), (25, .return_, 1, 0, 0, 0)]
def qt141 : List eRow := [(0, .aload_n 0, 1, 0, 0, 0), (1, .invokespecial 3, 3, 9999, 0, 98), (4, .aload_n 0, 1, 0, 0, 0), (5, .bipush 8, 2, 0, 0, 0), (7, .bipush 60, 2, 0, 0, 0), (9, .multianewarray 9 2, 4, 6, 1, 99), (13, .putfield 11, 3, 7, 0, 104), (16, .aload_n 0, 1, 0, 0, 0), (17, .bipush 8, 2, 0, 0, 0), (19, .newarray .int, 2, 0, 0, 125), (21, .putfield 16, 3, 7, 1, 105), (24, .aload_n 0, 1, 0, 0, 0), (25, .bipush 8, 2, 0, 0, 0), (27, .newarray .int, 2, 0, 0, 125), (29, .putfield 20, 3, 7, 2, 106), (32, .aload_n 0, 1, 0, 0, 0), (33, .getfield 20, 3, 7, 2, 106), (36, .iconst (-1), 1, 0, 0, 0), (37, .invokestatic 23, 3, 1, 2, 101), (40, .return_, 1, 0, 0, 0)]
def qt142 : List eRow := [(0, .aload_n 0, 1, 0, 0, 0), (1, .invokespecial 3, 3, 9999, 0, 131), (4, .aload_n 0, 1, 0, 0, 0), (5, .new 9, 3, 9, 0, 132), (8, .dup, 1, 0, 0, 0), (9, .bipush 36, 2, 0, 0, 0), (11, .invokespecial 11, 3, 90, 1, 134), (14, .putfield 14, 3, 4, 0, 168), (17, .aload_n 0, 1, 0, 0, 0), (18, .new 9, 3, 9, 0, 132), (21, .dup, 1, 0, 0, 0), (22, .bipush 36, 2, 0, 0, 0), (24, .invokespecial 11, 3, 90, 1, 134), (27, .putfield 20, 3, 4, 1, 170), (30, .aload_n 0, 1, 0, 0, 0), (31, .new 9, 3, 9, 0, 132), (34, .dup, 1, 0, 0, 0), (35, .bipush 36, 2, 0, 0, 0), (37, .invokespecial 11, 3, 90, 1, 134), (40, .putfield 23, 3, 4, 2, 172), (43, .aload_n 0, 1, 0, 0, 0), (44, .getfield 20, 3, 4, 1, 170), (47, .iconst 1, 1, 0, 0, 0), (48, .invokevirtual 26, 3, 112, 1, 161), (51, .return_, 1, 0, 0, 0)]
def qt143 : List eRow := [(0, .aload_n 0, 1, 0, 0, 0), (1, .invokespecial 3, 3, 9999, 0, 191), (4, .aload_n 0, 1, 0, 0, 0), (5, .new 9, 3, 9, 0, 192), (8, .dup, 1, 0, 0, 0), (9, .bipush 36, 2, 0, 0, 0), (11, .invokespecial 11, 3, 90, 1, 193), (14, .putfield 14, 3, 2, 0, 194), (17, .aload_n 0, 1, 0, 0, 0), (18, .new 9, 3, 9, 0, 192), (21, .dup, 1, 0, 0, 0), (22, .bipush 36, 2, 0, 0, 0), (24, .invokespecial 11, 3, 90, 1, 193), (27, .putfield 20, 3, 2, 1, 197), (30, .aload_n 0, 1, 0, 0, 0), (31, .new 9, 3, 9, 0, 192), (34, .dup, 1, 0, 0, 0), (35, .bipush 36, 2, 0, 0, 0), (37, .invokespecial 11, 3, 90, 1, 193), (40, .putfield 23, 3, 2, 2, 198), (43, .aload_n 0, 1, 0, 0, 0), (44, .new 9, 3, 9, 0, 192), (47, .dup, 1, 0, 0, 0), (48, .bipush 36, 2, 0, 0, 0), (50, .invokespecial 11, 3, 90, 1, 193), (53, .putfield 26, 3, 2, 3, 199), (56, .return_, 1, 0, 0, 0)]
def qt144 : List eRow := [(0, .aload_n 0, 1, 0, 0, 0), (1, .invokespecial 3, 3, 9999, 0, 185), (4, .aload_n 0, 1, 0, 0, 0), (5, .new 9, 3, 2, 0, 186), (8, .dup, 1, 0, 0, 0), (9, .invokespecial 11, 3, 143, 0, 188), (12, .putfield 12, 3, 1, 0, 211), (15, .aload_n 0, 1, 0, 0, 0), (16, .new 18, 3, 9, 0, 209), (19, .dup, 1, 0, 0, 0), (20, .bipush 36, 2, 0, 0, 0), (22, .invokespecial 20, 3, 90, 1, 210), (25, .putfield 23, 3, 1, 1, 214), (28, .aload_n 0, 1, 0, 0, 0), (29, .new 18, 3, 9, 0, 209), (32, .dup, 1, 0, 0, 0), (33, .bipush 36, 2, 0, 0, 0), (35, .invokespecial 20, 3, 90, 1, 210), (38, .putfield 27, 3, 1, 2, 216), (41, .aload_n 0, 1, 0, 0, 0), (42, .new 18, 3, 9, 0, 209), (45, .dup, 1, 0, 0, 0), (46, .bipush 36, 2, 0, 0, 0), (48, .invokespecial 20, 3, 90, 1, 210), (51, .putfield 30, 3, 1, 3, 218), (54, .aload_n 0, 1, 0, 0, 0), (55, .new 18, 3, 9, 0, 209), (58, .dup, 1, 0, 0, 0), (59, .bipush 36, 2, 0, 0, 0), (61, .invokespecial 20, 3, 90, 1, 210), (64, .putfield 33, 3, 1, 4, 220), (67, .aload_n 0, 1, 0, 0, 0), (68, .new 18, 3, 9, 0, 209), (71, .dup, 1, 0, 0, 0), (72, .bipush 36, 2, 0, 0, 0), (74, .invokespecial 20, 3, 90, 1, 210), (77, .putfield 36, 3, 1, 5, 222), (80, .aload_n 0, 1, 0, 0, 0), (81, .new 18, 3, 9, 0, 209), (84, .dup, 1, 0, 0, 0), (85, .bipush 36, 2, 0, 0, 0), (87, .invokespecial 20, 3, 90, 1, 210), (90, .putfield 39, 3, 1, 6, 224), (93, .return_, 1, 0, 0, 0)]
def qt145 : List eRow := [(0, .aload_n 0, 1, 0, 0, 0), (1, .invokespecial 3, 3, 9999, 0, 246), (4, .aload_n 0, 1, 0, 0, 0), (5, .new 9, 3, 9, 0, 247), (8, .dup, 1, 0, 0, 0), (9, .bipush 36, 2, 0, 0, 0), (11, .invokespecial 11, 3, 90, 1, 248), (14, .putfield 14, 3, 5, 11, 261), (17, .aload_n 0, 1, 0, 0, 0), (18, .iload_n 1, 1, 0, 0, 0), (19, .putfield 20, 3, 5, 0, 249), (22, .aload_n 0, 1, 0, 0, 0), (23, .iload_n 2, 1, 0, 0, 0), (24, .putfield 24, 3, 5, 1, 250), (27, .aload_n 0, 1, 0, 0, 0), (28, .iload_n 3, 1, 0, 0, 0), (29, .putfield 27, 3, 5, 2, 251), (32, .aload_n 0, 1, 0, 0, 0), (33, .aload 4, 2, 0, 0, 0), (35, .putfield 30, 3, 5, 5, 254), (38, .aload_n 0, 1, 0, 0, 0), (39, .iload_n 1, 1, 0, 0, 0), (40, .iload_n 2, 1, 0, 0, 0), (41, .imul, 1, 0, 0, 0), (42, .iload_n 3, 1, 0, 0, 0), (43, .imul, 1, 0, 0, 0), (44, .newarray .int, 2, 0, 0, 125), (46, .putfield 34, 3, 5, 3, 252), (49, .aload_n 0, 1, 0, 0, 0), (50, .iload_n 1, 1, 0, 0, 0), (51, .iload_n 2, 1, 0, 0, 0), (52, .imul, 1, 0, 0, 0), (53, .newarray .int, 2, 0, 0, 125), (55, .putfield 38, 3, 5, 4, 253), (58, .aload_n 0, 1, 0, 0, 0), (59, .iload_n 2, 1, 0, 0, 0), (60, .newarray .int, 2, 0, 0, 125), (62, .putfield 41, 3, 5, 10, 259), (65, .return_, 1, 0, 0, 0)]
def qt146 : List eRow := [(0, .aload_n 0, 1, 0, 0, 0), (1, .invokespecial 3, 3, 9999, 0, 346), (4, .aload_n 0, 1, 0, 0, 0), (5, .new 9, 3, 9, 0, 347), (8, .dup, 1, 0, 0, 0), (9, .bipush 36, 2, 0, 0, 0), (11, .invokespecial 11, 3, 90, 1, 348), (14, .putfield 14, 3, 3, 1, 352), (17, .aload_n 0, 1, 0, 0, 0), (18, .new 9, 3, 9, 0, 347), (21, .dup, 1, 0, 0, 0), (22, .bipush 36, 2, 0, 0, 0), (24, .invokespecial 11, 3, 90, 1, 348), (27, .putfield 20, 3, 3, 2, 353), (30, .aload_n 0, 1, 0, 0, 0), (31, .new 9, 3, 9, 0, 347), (34, .dup, 1, 0, 0, 0), (35, .bipush 36, 2, 0, 0, 0), (37, .invokespecial 11, 3, 90, 1, 348), (40, .putfield 23, 3, 3, 3, 354), (43, .aload_n 0, 1, 0, 0, 0), (44, .new 9, 3, 9, 0, 347), (47, .dup, 1, 0, 0, 0), (48, .bipush 36, 2, 0, 0, 0), (50, .invokespecial 11, 3, 90, 1, 348), (53, .putfield 26, 3, 3, 4, 355), (56, .aload_n 0, 1, 0, 0, 0), (57, .new 9, 3, 9, 0, 347), (60, .dup, 1, 0, 0, 0), (61, .bipush 36, 2, 0, 0, 0), (63, .invokespecial 11, 3, 90, 1, 348), (66, .putfield 29, 3, 3, 5, 356), (69, .aload_n 0, 1, 0, 0, 0), (70, .new 32, 3, 5, 0, 349), (73, .dup, 1, 0, 0, 0), (74, .iconst 3, 1, 0, 0, 0), (75, .iconst 3, 1, 0, 0, 0), (76, .bipush 24, 2, 0, 0, 0), (78, .aload_n 1, 1, 0, 0, 0), (79, .invokespecial 34, 3, 145, 4, 350), (82, .putfield 37, 3, 3, 0, 351), (85, .return_, 1, 0, 0, 0)]
def qt147 : List eRow := [(0, .aload_n 0, 1, 0, 0, 0), (1, .invokespecial 3, 3, 9999, 0, 377), (4, .aload_n 0, 1, 0, 0, 0), (5, .iconst 1, 1, 0, 0, 0), (6, .putfield 9, 3, 6, 0, 380), (9, .aload_n 0, 1, 0, 0, 0), (10, .iconst 1, 1, 0, 0, 0), (11, .putfield 15, 3, 6, 1, 382), (14, .aload_n 0, 1, 0, 0, 0), (15, .iconst 2, 1, 0, 0, 0), (16, .bipush 8, 2, 0, 0, 0), (18, .multianewarray 18 2, 4, 5, 0, 378), (22, .putfield 20, 3, 6, 3, 388), (25, .aload_n 0, 1, 0, 0, 0), (26, .iconst 2, 1, 0, 0, 0), (27, .bipush 8, 2, 0, 0, 0), (29, .multianewarray 18 2, 4, 5, 0, 378), (33, .putfield 23, 3, 6, 4, 390), (36, .aload_n 0, 1, 0, 0, 0), (37, .bipush 8, 2, 0, 0, 0), (39, .newarray .int, 2, 0, 0, 125), (41, .putfield 26, 3, 6, 5, 392), (44, .aload_n 0, 1, 0, 0, 0), (45, .bipush 14, 2, 0, 0, 0), (47, .newarray .int, 2, 0, 0, 125), (49, .putfield 30, 3, 6, 6, 394), (52, .aload_n 0, 1, 0, 0, 0), (53, .bipush 14, 2, 0, 0, 0), (55, .newarray .int, 2, 0, 0, 125), (57, .putfield 33, 3, 6, 7, 396), (60, .aload_n 0, 1, 0, 0, 0), (61, .bipush 14, 2, 0, 0, 0), (63, .newarray .int, 2, 0, 0, 125), (65, .putfield 36, 3, 6, 8, 398), (68, .aload_n 0, 1, 0, 0, 0), (69, .bipush 14, 2, 0, 0, 0), (71, .newarray .int, 2, 0, 0, 125), (73, .putfield 39, 3, 6, 9, 400), (76, .return_, 1, 0, 0, 0)]
def qt148 : List eRow := [(0, .aload_n 0, 1, 0, 0, 0), (1, .invokespecial 3, 3, 9999, 0, 90), (4, .aload_n 0, 1, 0, 0, 0), (5, .new 9, 3, 7, 0, 93), (8, .dup, 1, 0, 0, 0), (9, .invokespecial 11, 3, 141, 0, 95), (12, .putfield 12, 3, 10, 0, 424), (15, .aload_n 0, 1, 0, 0, 0), (16, .new 16, 3, 4, 0, 126), (19, .dup, 1, 0, 0, 0), (20, .invokespecial 18, 3, 142, 0, 128), (23, .putfield 19, 3, 10, 1, 425), (26, .aload_n 0, 1, 0, 0, 0), (27, .new 23, 3, 1, 0, 180), (30, .dup, 1, 0, 0, 0), (31, .invokespecial 25, 3, 144, 0, 182), (34, .putfield 26, 3, 10, 2, 426), (37, .aload_n 0, 1, 0, 0, 0), (38, .new 30, 3, 5, 0, 241), (41, .dup, 1, 0, 0, 0), (42, .bipush 16, 2, 0, 0, 0), (44, .bipush 15, 2, 0, 0, 0), (46, .iconst 5, 1, 0, 0, 0), (47, .aload_n 0, 1, 0, 0, 0), (48, .getfield 26, 3, 10, 2, 426), (51, .invokespecial 32, 3, 145, 4, 243), (54, .putfield 35, 3, 10, 3, 427), (57, .aload_n 0, 1, 0, 0, 0), (58, .new 30, 3, 5, 0, 241), (61, .dup, 1, 0, 0, 0), (62, .bipush 14, 2, 0, 0, 0), (64, .bipush 16, 2, 0, 0, 0), (66, .iconst 5, 1, 0, 0, 0), (67, .aload_n 0, 1, 0, 0, 0), (68, .getfield 26, 3, 10, 2, 426), (71, .invokespecial 32, 3, 145, 4, 243), (74, .putfield 39, 3, 10, 4, 428), (77, .aload_n 0, 1, 0, 0, 0), (78, .new 30, 3, 5, 0, 241), (81, .dup, 1, 0, 0, 0), (82, .bipush 8, 2, 0, 0, 0), (84, .bipush 10, 2, 0, 0, 0), (86, .iconst 5, 1, 0, 0, 0), (87, .aload_n 0, 1, 0, 0, 0), (88, .getfield 26, 3, 10, 2, 426), (91, .invokespecial 32, 3, 145, 4, 243), (94, .putfield 42, 3, 10, 5, 429), (97, .aload_n 0, 1, 0, 0, 0), (98, .new 45, 3, 0, 0, 292), (101, .dup, 1, 0, 0, 0), (102, .invokespecial 47, 3, 92, 0, 294), (105, .putfield 48, 3, 10, 6, 430), (108, .aload_n 0, 1, 0, 0, 0), (109, .new 52, 3, 3, 0, 341), (112, .dup, 1, 0, 0, 0), (113, .aload_n 0, 1, 0, 0, 0), (114, .getfield 26, 3, 10, 2, 426), (117, .invokespecial 54, 3, 146, 1, 343), (120, .putfield 57, 3, 10, 7, 431), (123, .aload_n 0, 1, 0, 0, 0), (124, .new 61, 3, 9, 0, 370), (127, .dup, 1, 0, 0, 0), (128, .bipush 36, 2, 0, 0, 0), (130, .invokespecial 63, 3, 90, 1, 371), (133, .putfield 66, 3, 10, 8, 432), (136, .aload_n 0, 1, 0, 0, 0), (137, .new 70, 3, 6, 0, 372), (140, .dup, 1, 0, 0, 0), (141, .invokespecial 72, 3, 147, 0, 374), (144, .putfield 73, 3, 10, 9, 433), (147, .aload_n 0, 1, 0, 0, 0), (148, .new 70, 3, 6, 0, 372), (151, .dup, 1, 0, 0, 0), (152, .invokespecial 72, 3, 147, 0, 374), (155, .putfield 77, 3, 10, 10, 434), (158, .return_, 1, 0, 0, 0)]
def qt149 : List eRow := [(0, .iload_n 0, 1, 0, 0, 0), (1, .ifCond .eq 8, 3, 9, 0, 0), (4, .iload_n 0, 1, 0, 0, 0), (5, .iconst 1, 1, 0, 0, 0), (6, .if_icmp .ne 7, 3, 13, 0, 0), (9, .iconst 1, 1, 0, 0, 0), (10, .goto 4, 3, 14, 0, 0), (13, .iconst 0, 1, 0, 0, 0), (14, .ireturn, 1, 1, 0, 0)]
def qt150 : List eRow := [(0, .iload_n 0, 1, 0, 0, 0), (1, .ifCond .lt 13, 3, 14, 0, 0), (4, .iload_n 0, 1, 0, 0, 0), (5, .bipush 8, 2, 0, 0, 0), (7, .if_icmp .ge 7, 3, 14, 0, 0), (10, .iconst 1, 1, 0, 0, 0), (11, .goto 4, 3, 15, 0, 0), (14, .iconst 0, 1, 0, 0, 0), (15, .ireturn, 1, 1, 0, 0)]
def qt151 : List eRow := [(0, .iload_n 0, 1, 0, 0, 0), (1, .sipush (-1000), 3, 0, 0, 0), (4, .if_icmp .lt 14, 3, 18, 0, 0), (7, .iload_n 0, 1, 0, 0, 0), (8, .sipush 1000, 3, 0, 0, 0), (11, .if_icmp .gt 7, 3, 18, 0, 0), (14, .iconst 1, 1, 0, 0, 0), (15, .goto 4, 3, 19, 0, 0), (18, .iconst 0, 1, 0, 0, 0), (19, .ireturn, 1, 1, 0, 0)]
def qt152 : List eRow := [(0, .aload_n 1, 1, 0, 0, 0), (1, .aload_n 0, 1, 0, 0, 0), (2, .getfield 42, 3, 6, 2, 385), (5, .iconst 2, 1, 0, 0, 0), (6, .aload_n 0, 1, 0, 0, 0), (7, .getfield 15, 3, 6, 1, 382), (10, .imul, 1, 0, 0, 0), (11, .iconst 0, 1, 0, 0, 0), (12, .invokevirtual 77, 3, 106, 3, 581), (15, .iconst 0, 1, 0, 0, 0), (16, .istore_n 2, 1, 0, 0, 0), (17, .iload_n 2, 1, 0, 0, 0), (18, .aload_n 0, 1, 0, 0, 0), (19, .getfield 42, 3, 6, 2, 385), (22, .if_icmp .ge 67, 3, 89, 0, 0), (25, .iconst 0, 1, 0, 0, 0), (26, .istore_n 3, 1, 0, 0, 0), (27, .iload_n 3, 1, 0, 0, 0), (28, .iconst 2, 1, 0, 0, 0), (29, .if_icmp .ge 54, 3, 83, 0, 0), (32, .aload_n 1, 1, 0, 0, 0), (33, .iload_n 2, 1, 0, 0, 0), (34, .aload_n 0, 1, 0, 0, 0), (35, .aload_n 0, 1, 0, 0, 0), (36, .getfield 30, 3, 6, 6, 394), (39, .iload_n 2, 1, 0, 0, 0), (40, .iaload, 1, 0, 0, 0), (41, .iload_n 3, 1, 0, 0, 0), (42, .invokevirtual 83, 3, 108, 2, 589), (45, .aload_n 0, 1, 0, 0, 0), (46, .iload_n 2, 1, 0, 0, 0), (47, .iload_n 3, 1, 0, 0, 0), (48, .invokevirtual 64, 3, 109, 2, 537), (51, .ineg, 1, 0, 0, 0), (52, .invokevirtual 86, 3, 110, 3, 597), (55, .aload_n 1, 1, 0, 0, 0), (56, .iload_n 2, 1, 0, 0, 0), (57, .aload_n 0, 1, 0, 0, 0), (58, .aload_n 0, 1, 0, 0, 0), (59, .getfield 33, 3, 6, 7, 396), (62, .iload_n 2, 1, 0, 0, 0), (63, .iaload, 1, 0, 0, 0), (64, .iload_n 3, 1, 0, 0, 0), (65, .invokevirtual 83, 3, 108, 2, 589), (68, .aload_n 0, 1, 0, 0, 0), (69, .iload_n 2, 1, 0, 0, 0), (70, .iload_n 3, 1, 0, 0, 0), (71, .invokevirtual 64, 3, 109, 2, 537), (74, .invokevirtual 86, 3, 110, 3, 597), (77, .iinc 3 1, 3, 0, 0, 0), (80, .goto (-53), 3, 27, 0, 0), (83, .iinc 2 1, 3, 0, 0, 0), (86, .goto (-69), 3, 17, 0, 0), (89, .return_, 1, 0, 0, 0)]
def qt153 : List eRow := [(0, .aload_n 0, 1, 0, 0, 0), (1, .getfield 249, 3, 10, 13, 437), (4, .ifCond .ne 26, 3, 30, 0, 0), (7, .aload_n 0, 1, 0, 0, 0), (8, .getfield 73, 3, 10, 9, 433), (11, .aload_n 0, 1, 0, 0, 0), (12, .getfield 39, 3, 10, 4, 428), (15, .invokevirtual 259, 3, 152, 1, 763), (18, .aload_n 0, 1, 0, 0, 0), (19, .getfield 39, 3, 10, 4, 428), (22, .invokevirtual 256, 3, 122, 0, 609), (25, .aload_n 0, 1, 0, 0, 0), (26, .iconst 1, 1, 0, 0, 0), (27, .putfield 249, 3, 10, 13, 437), (30, .return_, 1, 0, 0, 0)]
def qt154 : List eRow := [(0, .aload_n 1, 1, 0, 0, 0), (1, .aload_n 0, 1, 0, 0, 0), (2, .getfield 26, 3, 6, 5, 392), (5, .iload_n 2, 1, 0, 0, 0), (6, .iaload, 1, 0, 0, 0), (7, .aload_n 0, 1, 0, 0, 0), (8, .getfield 26, 3, 6, 5, 392), (11, .iload_n 2, 1, 0, 0, 0), (12, .iaload, 1, 0, 0, 0), (13, .iload 4, 2, 0, 0, 0), (15, .invokevirtual 86, 3, 110, 3, 597), (18, .aload_n 1, 1, 0, 0, 0), (19, .aload_n 0, 1, 0, 0, 0), (20, .getfield 26, 3, 6, 5, 392), (23, .iload_n 2, 1, 0, 0, 0), (24, .iaload, 1, 0, 0, 0), (25, .aload_n 0, 1, 0, 0, 0), (26, .getfield 26, 3, 6, 5, 392), (29, .iload_n 3, 1, 0, 0, 0), (30, .iaload, 1, 0, 0, 0), (31, .iload 4, 2, 0, 0, 0), (33, .ineg, 1, 0, 0, 0), (34, .invokevirtual 86, 3, 110, 3, 597), (37, .aload_n 0, 1, 0, 0, 0), (38, .iload_n 3, 1, 0, 0, 0), (39, .invokevirtual 70, 3, 107, 1, 593), (42, .ifCond .eq 55, 3, 97, 0, 0), (45, .aload_n 1, 1, 0, 0, 0), (46, .aload_n 0, 1, 0, 0, 0), (47, .getfield 26, 3, 6, 5, 392), (50, .iload_n 2, 1, 0, 0, 0), (51, .iaload, 1, 0, 0, 0), (52, .aload_n 0, 1, 0, 0, 0), (53, .getfield 15, 3, 6, 1, 382), (56, .iload 4, 2, 0, 0, 0), (58, .aload_n 0, 1, 0, 0, 0), (59, .getfield 20, 3, 6, 3, 388), (62, .iconst 0, 1, 0, 0, 0), (63, .aaload, 1, 0, 0, 0), (64, .iload_n 3, 1, 0, 0, 0), (65, .iaload, 1, 0, 0, 0), (66, .imul, 1, 0, 0, 0), (67, .invokevirtual 86, 3, 110, 3, 597), (70, .aload_n 1, 1, 0, 0, 0), (71, .aload_n 0, 1, 0, 0, 0), (72, .getfield 26, 3, 6, 5, 392), (75, .iload_n 2, 1, 0, 0, 0), (76, .iaload, 1, 0, 0, 0), (77, .aload_n 0, 1, 0, 0, 0), (78, .getfield 15, 3, 6, 1, 382), (81, .iconst 1, 1, 0, 0, 0), (82, .iadd, 1, 0, 0, 0), (83, .iload 4, 2, 0, 0, 0), (85, .aload_n 0, 1, 0, 0, 0), (86, .getfield 20, 3, 6, 3, 388), (89, .iconst 1, 1, 0, 0, 0), (90, .aaload, 1, 0, 0, 0), (91, .iload_n 3, 1, 0, 0, 0), (92, .iaload, 1, 0, 0, 0), (93, .imul, 1, 0, 0, 0), (94, .invokevirtual 86, 3, 110, 3, 597), (97, .return_, 1, 0, 0, 0)]
def qt155 : List eRow := [(0, .aload_n 1, 1, 0, 0, 0), (1, .aload_n 0, 1, 0, 0, 0), (2, .getfield 15, 3, 6, 1, 382), (5, .aload_n 0, 1, 0, 0, 0), (6, .getfield 15, 3, 6, 1, 382), (9, .iconst 2, 1, 0, 0, 0), (10, .invokevirtual 77, 3, 106, 3, 581), (13, .iconst 0, 1, 0, 0, 0), (14, .istore_n 2, 1, 0, 0, 0), (15, .iload_n 2, 1, 0, 0, 0), (16, .aload_n 0, 1, 0, 0, 0), (17, .getfield 42, 3, 6, 2, 385), (20, .if_icmp .ge 55, 3, 75, 0, 0), (23, .aload_n 0, 1, 0, 0, 0), (24, .aload_n 1, 1, 0, 0, 0), (25, .aload_n 0, 1, 0, 0, 0), (26, .getfield 30, 3, 6, 6, 394), (29, .iload_n 2, 1, 0, 0, 0), (30, .iaload, 1, 0, 0, 0), (31, .aload_n 0, 1, 0, 0, 0), (32, .getfield 33, 3, 6, 7, 396), (35, .iload_n 2, 1, 0, 0, 0), (36, .iaload, 1, 0, 0, 0), (37, .aload_n 0, 1, 0, 0, 0), (38, .getfield 39, 3, 6, 9, 400), (41, .iload_n 2, 1, 0, 0, 0), (42, .iaload, 1, 0, 0, 0), (43, .invokevirtual 89, 3, 154, 4, 824), (46, .aload_n 0, 1, 0, 0, 0), (47, .aload_n 1, 1, 0, 0, 0), (48, .aload_n 0, 1, 0, 0, 0), (49, .getfield 33, 3, 6, 7, 396), (52, .iload_n 2, 1, 0, 0, 0), (53, .iaload, 1, 0, 0, 0), (54, .aload_n 0, 1, 0, 0, 0), (55, .getfield 30, 3, 6, 6, 394), (58, .iload_n 2, 1, 0, 0, 0), (59, .iaload, 1, 0, 0, 0), (60, .aload_n 0, 1, 0, 0, 0), (61, .getfield 39, 3, 6, 9, 400), (64, .iload_n 2, 1, 0, 0, 0), (65, .iaload, 1, 0, 0, 0), (66, .invokevirtual 89, 3, 154, 4, 824), (69, .iinc 2 1, 3, 0, 0, 0), (72, .goto (-57), 3, 15, 0, 0), (75, .iconst 0, 1, 0, 0, 0), (76, .istore_n 2, 1, 0, 0, 0), (77, .iload_n 2, 1, 0, 0, 0), (78, .aload_n 0, 1, 0, 0, 0), (79, .getfield 9, 3, 6, 0, 380), (82, .if_icmp .ge 55, 3, 137, 0, 0), (85, .aload_n 1, 1, 0, 0, 0), (86, .aload_n 0, 1, 0, 0, 0), (87, .getfield 26, 3, 6, 5, 392), (90, .iload_n 2, 1, 0, 0, 0), (91, .iaload, 1, 0, 0, 0), (92, .aload_n 0, 1, 0, 0, 0), (93, .getfield 15, 3, 6, 1, 382), (96, .aload_n 0, 1, 0, 0, 0), (97, .getfield 23, 3, 6, 4, 390), (100, .iconst 0, 1, 0, 0, 0), (101, .aaload, 1, 0, 0, 0), (102, .iload_n 2, 1, 0, 0, 0), (103, .iaload, 1, 0, 0, 0), (104, .invokevirtual 86, 3, 110, 3, 597), (107, .aload_n 1, 1, 0, 0, 0), (108, .aload_n 0, 1, 0, 0, 0), (109, .getfield 26, 3, 6, 5, 392), (112, .iload_n 2, 1, 0, 0, 0), (113, .iaload, 1, 0, 0, 0), (114, .aload_n 0, 1, 0, 0, 0), (115, .getfield 15, 3, 6, 1, 382), (118, .iconst 1, 1, 0, 0, 0), (119, .iadd, 1, 0, 0, 0), (120, .aload_n 0, 1, 0, 0, 0), (121, .getfield 23, 3, 6, 4, 390), (124, .iconst 1, 1, 0, 0, 0), (125, .aaload, 1, 0, 0, 0), (126, .iload_n 2, 1, 0, 0, 0), (127, .iaload, 1, 0, 0, 0), (128, .invokevirtual 86, 3, 110, 3, 597), (131, .iinc 2 1, 3, 0, 0, 0), (134, .goto (-57), 3, 77, 0, 0), (137, .return_, 1, 0, 0, 0)]
def qt156 : List eRow := [(0, .aload_n 0, 1, 0, 0, 0), (1, .getfield 129, 3, 10, 14, 438), (4, .ifCond .ne 26, 3, 30, 0, 0), (7, .aload_n 0, 1, 0, 0, 0), (8, .getfield 73, 3, 10, 9, 433), (11, .aload_n 0, 1, 0, 0, 0), (12, .getfield 42, 3, 10, 5, 429), (15, .invokevirtual 262, 3, 155, 1, 820), (18, .aload_n 0, 1, 0, 0, 0), (19, .getfield 42, 3, 10, 5, 429), (22, .invokevirtual 256, 3, 122, 0, 609), (25, .aload_n 0, 1, 0, 0, 0), (26, .iconst 1, 1, 0, 0, 0), (27, .putfield 129, 3, 10, 14, 438), (30, .return_, 1, 0, 0, 0)]
def qt157 : List eRow := [(0, .iload_n 1, 1, 0, 0, 0), (1, .ifCond .lt 15, 3, 16, 0, 0), (4, .iload_n 1, 1, 0, 0, 0), (5, .aload_n 0, 1, 0, 0, 0), (6, .getfield 9, 3, 6, 0, 380), (9, .if_icmp .ge 7, 3, 16, 0, 0), (12, .iconst 1, 1, 0, 0, 0), (13, .goto 4, 3, 17, 0, 0), (16, .iconst 0, 1, 0, 0, 0), (17, .ireturn, 1, 1, 0, 0)]
def qt158 : List eRow := [(0, .aload_n 0, 1, 0, 0, 0), (1, .getfield 14, 3, 4, 0, 168), (4, .iload_n 1, 1, 0, 0, 0), (5, .invokevirtual 26, 3, 112, 1, 161), (8, .aload_n 0, 1, 0, 0, 0), (9, .getfield 20, 3, 4, 1, 170), (12, .iconst 1, 1, 0, 0, 0), (13, .invokevirtual 26, 3, 112, 1, 161), (16, .return_, 1, 0, 0, 0)]
def qt159 : List eRow := [(0, .aload_n 0, 1, 0, 0, 0), (1, .getfield 73, 3, 10, 9, 433), (4, .iload_n 1, 1, 0, 0, 0), (5, .invokevirtual 115, 3, 157, 1, 554), (8, .ifCond .eq 10, 3, 18, 0, 0), (11, .iload_n 2, 1, 0, 0, 0), (12, .invokestatic 165, 3, 149, 1, 771), (15, .ifCond .ne 5, 3, 20, 0, 0), (18, .iconst 0, 1, 0, 0, 0), (19, .ireturn, 1, 1, 0, 0), (20, .aload_n 0, 1, 0, 0, 0), (21, .getfield 19, 3, 10, 1, 425), (24, .aload_n 0, 1, 0, 0, 0), (25, .getfield 73, 3, 10, 9, 433), (28, .iload_n 1, 1, 0, 0, 0), (29, .iload_n 2, 1, 0, 0, 0), (30, .invokevirtual 176, 3, 137, 2, 791), (33, .aload_n 0, 1, 0, 0, 0), (34, .getfield 73, 3, 10, 9, 433), (37, .getfield 121, 3, 6, 4, 391), (40, .iload_n 2, 1, 0, 0, 0), (41, .aaload, 1, 0, 0, 0), (42, .iload_n 1, 1, 0, 0, 0), (43, .iaload, 1, 0, 0, 0), (44, .iadd, 1, 0, 0, 0), (45, .invokevirtual 179, 3, 158, 1, 792), (48, .iconst 1, 1, 0, 0, 0), (49, .ireturn, 1, 1, 0, 0)]
def qt160 : List eRow := [(0, .aload_n 0, 1, 0, 0, 0), (1, .getfield 73, 3, 10, 9, 433), (4, .iload_n 1, 1, 0, 0, 0), (5, .invokevirtual 115, 3, 157, 1, 554), (8, .ifCond .ne 6, 3, 14, 0, 0), (11, .bipush (-2), 2, 0, 0, 0), (13, .ireturn, 1, 0, 0, 0), (14, .iload_n 2, 1, 0, 0, 0), (15, .invokestatic 118, 3, 151, 1, 558), (18, .ifCond .eq 10, 3, 28, 0, 0), (21, .iload_n 3, 1, 0, 0, 0), (22, .invokestatic 118, 3, 151, 1, 558), (25, .ifCond .ne 6, 3, 31, 0, 0), (28, .bipush (-4), 2, 0, 0, 0), (30, .ireturn, 1, 0, 0, 0), (31, .aload_n 0, 1, 0, 0, 0), (32, .getfield 73, 3, 10, 9, 433), (35, .getfield 121, 3, 6, 4, 391), (38, .iconst 0, 1, 0, 0, 0), (39, .aaload, 1, 0, 0, 0), (40, .iload_n 1, 1, 0, 0, 0), (41, .iload_n 2, 1, 0, 0, 0), (42, .iastore, 1, 0, 0, 0), (43, .aload_n 0, 1, 0, 0, 0), (44, .getfield 73, 3, 10, 9, 433), (47, .getfield 121, 3, 6, 4, 391), (50, .iconst 1, 1, 0, 0, 0), (51, .aaload, 1, 0, 0, 0), (52, .iload_n 1, 1, 0, 0, 0), (53, .iload_n 3, 1, 0, 0, 0), (54, .iastore, 1, 0, 0, 0), (55, .aload_n 0, 1, 0, 0, 0), (56, .iconst 0, 1, 0, 0, 0), (57, .putfield 125, 3, 10, 12, 436), (60, .aload_n 0, 1, 0, 0, 0), (61, .iconst 0, 1, 0, 0, 0), (62, .putfield 129, 3, 10, 14, 438), (65, .iconst 0, 1, 0, 0, 0), (66, .ireturn, 1, 0, 0, 0)]
def qt161 : List eRow := [(0, .iload_n 1, 1, 0, 0, 0), (1, .tableswitch 64 0 2 #[27, 38, 53], 27, 0, 0, 0), (28, .aload_n 0, 1, 0, 0, 0), (29, .getfield 19, 3, 10, 1, 425), (32, .getfield 214, 3, 4, 0, 169), (35, .invokevirtual 215, 3, 100, 0, 907), (38, .ireturn, 1, 0, 0, 0), (39, .iconst 1, 1, 0, 0, 0), (40, .aload_n 0, 1, 0, 0, 0), (41, .getfield 19, 3, 10, 1, 425), (44, .getfield 214, 3, 4, 0, 169), (47, .getfield 218, 3, 9, 1, 149), (50, .invokestatic 221, 3, 8, 2, 908), (53, .ireturn, 1, 0, 0, 0), (54, .aload_n 0, 1, 0, 0, 0), (55, .getfield 19, 3, 10, 1, 425), (58, .getfield 226, 3, 4, 1, 171), (61, .getfield 218, 3, 9, 1, 149), (64, .ireturn, 1, 0, 0, 0), (65, .iconst (-1), 1, 0, 0, 0), (66, .ireturn, 1, 0, 0, 0)]
def qt162 : List eRow := [(0, .aload_n 0, 1, 0, 0, 0), (1, .iload_n 1, 1, 0, 0, 0), (2, .putfield 40, 3, 7, 3, 107), (5, .aload_n 0, 1, 0, 0, 0), (6, .iconst 0, 1, 0, 0, 0), (7, .putfield 44, 3, 7, 4, 108), (10, .aload_n 0, 1, 0, 0, 0), (11, .iconst 0, 1, 0, 0, 0), (12, .putfield 47, 3, 7, 5, 110), (15, .return_, 1, 0, 0, 0)]
def qt163 : List eRow := [(0, .aload_n 0, 1, 0, 0, 0), (1, .getfield 47, 3, 7, 5, 110), (4, .ifCond .eq 5, 3, 9, 0, 0), (7, .iload_n 1, 1, 0, 0, 0), (8, .ireturn, 1, 0, 0, 0), (9, .aload_n 0, 1, 0, 0, 0), (10, .getfield 44, 3, 7, 4, 108), (13, .aload_n 0, 1, 0, 0, 0), (14, .getfield 20, 3, 7, 2, 106), (17, .aload_n 0, 1, 0, 0, 0), (18, .getfield 40, 3, 7, 3, 107), (21, .iaload, 1, 0, 0, 0), (22, .if_icmp .lt 11, 3, 33, 0, 0), (25, .aload_n 0, 1, 0, 0, 0), (26, .bipush (-6), 2, 0, 0, 0), (28, .putfield 47, 3, 7, 5, 110), (31, .iload_n 1, 1, 0, 0, 0), (32, .ireturn, 1, 0, 0, 0), (33, .aload_n 0, 1, 0, 0, 0), (34, .getfield 11, 3, 7, 0, 104), (37, .aload_n 0, 1, 0, 0, 0), (38, .getfield 40, 3, 7, 3, 107), (41, .aaload, 1, 0, 0, 0), (42, .aload_n 0, 1, 0, 0, 0), (43, .getfield 44, 3, 7, 4, 108), (46, .laload, 1, 0, 0, 0), (47, .lstore_n 3, 1, 0, 0, 0), (48, .aload_n 0, 1, 0, 0, 0), (49, .dup, 1, 0, 0, 0), (50, .getfield 44, 3, 7, 4, 108), (53, .iconst 1, 1, 0, 0, 0), (54, .iadd, 1, 0, 0, 0), (55, .putfield 44, 3, 7, 4, 108), (58, .lload_n 3, 1, 0, 0, 0), (59, .iload_n 1, 1, 0, 0, 0), (60, .i2l, 1, 0, 0, 0), (61, .lcmp, 1, 0, 0, 0), (62, .ifCond .lt 10, 3, 72, 0, 0), (65, .lload_n 3, 1, 0, 0, 0), (66, .iload_n 2, 1, 0, 0, 0), (67, .i2l, 1, 0, 0, 0), (68, .lcmp, 1, 0, 0, 0), (69, .ifCond .le 11, 3, 80, 0, 0), (72, .aload_n 0, 1, 0, 0, 0), (73, .bipush (-4), 2, 0, 0, 0), (75, .putfield 47, 3, 7, 5, 110), (78, .iload_n 1, 1, 0, 0, 0), (79, .ireturn, 1, 0, 0, 0), (80, .lload_n 3, 1, 0, 0, 0), (81, .l2i, 1, 0, 0, 0), (82, .ireturn, 1, 0, 0, 0)]
def qt164 : List eRow := [(0, .aload_n 0, 1, 0, 0, 0), (1, .aload_n 1, 1, 0, 0, 0), (2, .iconst 1, 1, 0, 0, 0), (3, .bipush 8, 2, 0, 0, 0), (5, .invokevirtual 58, 3, 163, 2, 529), (8, .putfield 9, 3, 6, 0, 380), (11, .aload_n 0, 1, 0, 0, 0), (12, .iconst 0, 1, 0, 0, 0), (13, .putfield 15, 3, 6, 1, 382), (16, .iconst 0, 1, 0, 0, 0), (17, .istore_n 2, 1, 0, 0, 0), (18, .iload_n 2, 1, 0, 0, 0), (19, .aload_n 0, 1, 0, 0, 0), (20, .getfield 9, 3, 6, 0, 380), (23, .if_icmp .ge 93, 3, 116, 0, 0), (26, .aload_n 0, 1, 0, 0, 0), (27, .getfield 20, 3, 6, 3, 388), (30, .iconst 0, 1, 0, 0, 0), (31, .aaload, 1, 0, 0, 0), (32, .iload_n 2, 1, 0, 0, 0), (33, .aload_n 1, 1, 0, 0, 0), (34, .bipush (-20), 2, 0, 0, 0), (36, .bipush 20, 2, 0, 0, 0), (38, .invokevirtual 58, 3, 163, 2, 529), (41, .iastore, 1, 0, 0, 0), (42, .aload_n 0, 1, 0, 0, 0), (43, .getfield 20, 3, 6, 3, 388), (46, .iconst 1, 1, 0, 0, 0), (47, .aaload, 1, 0, 0, 0), (48, .iload_n 2, 1, 0, 0, 0), (49, .aload_n 1, 1, 0, 0, 0), (50, .bipush (-20), 2, 0, 0, 0), (52, .bipush 20, 2, 0, 0, 0), (54, .invokevirtual 58, 3, 163, 2, 529), (57, .iastore, 1, 0, 0, 0), (58, .aload_n 1, 1, 0, 0, 0), (59, .iconst 0, 1, 0, 0, 0), (60, .iconst 1, 1, 0, 0, 0), (61, .invokevirtual 58, 3, 163, 2, 529), (64, .iconst 1, 1, 0, 0, 0), (65, .if_icmp .ne 7, 3, 72, 0, 0), (68, .iconst 1, 1, 0, 0, 0), (69, .goto 4, 3, 73, 0, 0), (72, .iconst 0, 1, 0, 0, 0), (73, .istore_n 3, 1, 0, 0, 0), (74, .aload_n 0, 1, 0, 0, 0), (75, .getfield 26, 3, 6, 5, 392), (78, .iload_n 2, 1, 0, 0, 0), (79, .iload_n 3, 1, 0, 0, 0), (80, .ifCond .eq 7, 3, 87, 0, 0), (83, .iconst (-1), 1, 0, 0, 0), (84, .goto 7, 3, 91, 0, 0), (87, .aload_n 0, 1, 0, 0, 0), (88, .getfield 15, 3, 6, 1, 382), (91, .iastore, 1, 0, 0, 0), (92, .aload_n 0, 1, 0, 0, 0), (93, .dup, 1, 0, 0, 0), (94, .getfield 15, 3, 6, 1, 382), (97, .iload_n 3, 1, 0, 0, 0), (98, .ifCond .eq 7, 3, 105, 0, 0), (101, .iconst 0, 1, 0, 0, 0), (102, .goto 4, 3, 106, 0, 0), (105, .iconst 1, 1, 0, 0, 0), (106, .iadd, 1, 0, 0, 0), (107, .putfield 15, 3, 6, 1, 382), (110, .iinc 2 1, 3, 0, 0, 0), (113, .goto (-95), 3, 18, 0, 0), (116, .return_, 1, 0, 0, 0)]
def qt165 : List eRow := [(0, .aload_n 0, 1, 0, 0, 0), (1, .getfield 47, 3, 7, 5, 110), (4, .ifCond .ne 9, 3, 13, 0, 0), (7, .aload_n 0, 1, 0, 0, 0), (8, .bipush (-4), 2, 0, 0, 0), (10, .putfield 47, 3, 7, 5, 110), (13, .return_, 1, 0, 0, 0)]
def qt166 : List eRow := [(0, .aload_n 0, 1, 0, 0, 0), (1, .aload_n 1, 1, 0, 0, 0), (2, .iconst 0, 1, 0, 0, 0), (3, .bipush 14, 2, 0, 0, 0), (5, .invokevirtual 58, 3, 163, 2, 529), (8, .putfield 42, 3, 6, 2, 385), (11, .iconst 0, 1, 0, 0, 0), (12, .istore_n 2, 1, 0, 0, 0), (13, .iload_n 2, 1, 0, 0, 0), (14, .aload_n 0, 1, 0, 0, 0), (15, .getfield 42, 3, 6, 2, 385), (18, .if_icmp .ge 77, 3, 95, 0, 0), (21, .aload_n 0, 1, 0, 0, 0), (22, .getfield 30, 3, 6, 6, 394), (25, .iload_n 2, 1, 0, 0, 0), (26, .aload_n 1, 1, 0, 0, 0), (27, .iconst 0, 1, 0, 0, 0), (28, .aload_n 0, 1, 0, 0, 0), (29, .getfield 9, 3, 6, 0, 380), (32, .iconst 1, 1, 0, 0, 0), (33, .isub, 1, 0, 0, 0), (34, .invokevirtual 58, 3, 163, 2, 529), (37, .iastore, 1, 0, 0, 0), (38, .aload_n 0, 1, 0, 0, 0), (39, .getfield 33, 3, 6, 7, 396), (42, .iload_n 2, 1, 0, 0, 0), (43, .aload_n 1, 1, 0, 0, 0), (44, .iconst 0, 1, 0, 0, 0), (45, .aload_n 0, 1, 0, 0, 0), (46, .getfield 9, 3, 6, 0, 380), (49, .iconst 1, 1, 0, 0, 0), (50, .isub, 1, 0, 0, 0), (51, .invokevirtual 58, 3, 163, 2, 529), (54, .iastore, 1, 0, 0, 0), (55, .aload_n 0, 1, 0, 0, 0), (56, .iload_n 2, 1, 0, 0, 0), (57, .iconst 0, 1, 0, 0, 0), (58, .invokevirtual 64, 3, 109, 2, 537), (61, .ifCond .ne 16, 3, 77, 0, 0), (64, .aload_n 0, 1, 0, 0, 0), (65, .iload_n 2, 1, 0, 0, 0), (66, .iconst 1, 1, 0, 0, 0), (67, .invokevirtual 64, 3, 109, 2, 537), (70, .ifCond .ne 7, 3, 77, 0, 0), (73, .aload_n 1, 1, 0, 0, 0), (74, .invokevirtual 67, 3, 165, 0, 541), (77, .aload_n 0, 1, 0, 0, 0), (78, .getfield 36, 3, 6, 8, 398), (81, .iload_n 2, 1, 0, 0, 0), (82, .aload_n 1, 1, 0, 0, 0), (83, .iconst 0, 1, 0, 0, 0), (84, .iconst 2, 1, 0, 0, 0), (85, .invokevirtual 58, 3, 163, 2, 529), (88, .iastore, 1, 0, 0, 0), (89, .iinc 2 1, 3, 0, 0, 0), (92, .goto (-79), 3, 13, 0, 0), (95, .return_, 1, 0, 0, 0)]
def qt167 : List eRow := [(0, .aload_n 0, 1, 0, 0, 0), (1, .aload_n 1, 1, 0, 0, 0), (2, .invokevirtual 45, 3, 164, 1, 525), (5, .aload_n 0, 1, 0, 0, 0), (6, .aload_n 1, 1, 0, 0, 0), (7, .invokevirtual 49, 3, 166, 1, 533), (10, .aload_n 0, 1, 0, 0, 0), (11, .getfield 23, 3, 6, 4, 390), (14, .iconst 0, 1, 0, 0, 0), (15, .aaload, 1, 0, 0, 0), (16, .iconst 0, 1, 0, 0, 0), (17, .invokestatic 52, 3, 1, 2, 545), (20, .aload_n 0, 1, 0, 0, 0), (21, .getfield 23, 3, 6, 4, 390), (24, .iconst 1, 1, 0, 0, 0), (25, .aaload, 1, 0, 0, 0), (26, .iconst 0, 1, 0, 0, 0), (27, .invokestatic 52, 3, 1, 2, 545), (30, .aload_n 0, 1, 0, 0, 0), (31, .getfield 39, 3, 6, 9, 400), (34, .iconst 0, 1, 0, 0, 0), (35, .invokestatic 52, 3, 1, 2, 545), (38, .return_, 1, 0, 0, 0)]
def qt168 : List eRow := [(0, .iload_n 1, 1, 0, 0, 0), (1, .invokestatic 80, 3, 150, 1, 480), (4, .ifCond .ne 6, 3, 10, 0, 0), (7, .bipush (-2), 2, 0, 0, 0), (9, .ireturn, 1, 0, 0, 0), (10, .aload_n 0, 1, 0, 0, 0), (11, .getfield 12, 3, 10, 0, 424), (14, .iload_n 1, 1, 0, 0, 0), (15, .invokevirtual 88, 3, 134, 1, 494), (18, .ifCond .ne 6, 3, 24, 0, 0), (21, .bipush (-5), 2, 0, 0, 0), (23, .ireturn, 1, 0, 0, 0), (24, .aload_n 0, 1, 0, 0, 0), (25, .getfield 12, 3, 10, 0, 424), (28, .iload_n 1, 1, 0, 0, 0), (29, .invokevirtual 98, 3, 162, 1, 517), (32, .aload_n 0, 1, 0, 0, 0), (33, .getfield 77, 3, 10, 10, 434), (36, .aload_n 0, 1, 0, 0, 0), (37, .getfield 12, 3, 10, 0, 424), (40, .invokevirtual 101, 3, 167, 1, 521), (43, .aload_n 0, 1, 0, 0, 0), (44, .getfield 12, 3, 10, 0, 424), (47, .getfield 105, 3, 7, 5, 109), (50, .ifCond .eq 11, 3, 61, 0, 0), (53, .aload_n 0, 1, 0, 0, 0), (54, .getfield 12, 3, 10, 0, 424), (57, .getfield 105, 3, 7, 5, 109), (60, .ireturn, 1, 0, 0, 0), (61, .aload_n 0, 1, 0, 0, 0), (62, .getfield 73, 3, 10, 9, 433), (65, .astore_n 2, 1, 0, 0, 0), (66, .aload_n 0, 1, 0, 0, 0), (67, .aload_n 0, 1, 0, 0, 0), (68, .getfield 77, 3, 10, 10, 434), (71, .putfield 73, 3, 10, 9, 433), (74, .aload_n 0, 1, 0, 0, 0), (75, .aload_n 2, 1, 0, 0, 0), (76, .putfield 77, 3, 10, 10, 434), (79, .aload_n 0, 1, 0, 0, 0), (80, .invokevirtual 109, 3, 140, 0, 546), (83, .aload_n 0, 1, 0, 0, 0), (84, .getfield 73, 3, 10, 9, 433), (87, .getfield 112, 3, 6, 2, 387), (90, .ireturn, 1, 0, 0, 0)]
def qt169 : List eRow := [(0, .iload_n 1, 1, 0, 0, 0), (1, .ifCond .eq 17, 3, 18, 0, 0), (4, .aload_n 0, 1, 0, 0, 0), (5, .getfield 19, 3, 10, 1, 425), (8, .getfield 226, 3, 4, 1, 171), (11, .iload_n 2, 1, 0, 0, 0), (12, .invokevirtual 227, 3, 98, 1, 913), (15, .goto 14, 3, 29, 0, 0), (18, .aload_n 0, 1, 0, 0, 0), (19, .getfield 19, 3, 10, 1, 425), (22, .getfield 214, 3, 4, 0, 169), (25, .iload_n 2, 1, 0, 0, 0), (26, .invokevirtual 227, 3, 98, 1, 913), (29, .ireturn, 1, 0, 0, 0)]
def qt170 : List eRow := [(0, .aload_n 0, 1, 0, 0, 0), (1, .getfield 73, 3, 10, 9, 433), (4, .iload_n 1, 1, 0, 0, 0), (5, .invokevirtual 132, 3, 124, 1, 565), (8, .ifCond .ne 6, 3, 14, 0, 0), (11, .bipush (-2), 2, 0, 0, 0), (13, .ireturn, 1, 0, 0, 0), (14, .iload_n 2, 1, 0, 0, 0), (15, .invokestatic 118, 3, 151, 1, 558), (18, .ifCond .ne 6, 3, 24, 0, 0), (21, .bipush (-4), 2, 0, 0, 0), (23, .ireturn, 1, 0, 0, 0), (24, .aload_n 0, 1, 0, 0, 0), (25, .getfield 73, 3, 10, 9, 433), (28, .getfield 135, 3, 6, 9, 402), (31, .iload_n 1, 1, 0, 0, 0), (32, .iload_n 2, 1, 0, 0, 0), (33, .iastore, 1, 0, 0, 0), (34, .aload_n 0, 1, 0, 0, 0), (35, .iconst 0, 1, 0, 0, 0), (36, .putfield 129, 3, 10, 14, 438), (39, .iconst 0, 1, 0, 0, 0), (40, .ireturn, 1, 0, 0, 0)]
def qt171 : List eRow := [(0, .aload_n 0, 1, 0, 0, 0), (1, .getfield 11, 3, 7, 0, 104), (4, .iload_n 1, 1, 0, 0, 0), (5, .aaload, 1, 0, 0, 0), (6, .lconst 0, 1, 0, 0, 0), (7, .invokestatic 29, 3, 2, 2, 487), (10, .aload_n 0, 1, 0, 0, 0), (11, .getfield 16, 3, 7, 1, 105), (14, .iload_n 1, 1, 0, 0, 0), (15, .iload_n 2, 1, 0, 0, 0), (16, .iastore, 1, 0, 0, 0), (17, .aload_n 0, 1, 0, 0, 0), (18, .getfield 20, 3, 7, 2, 106), (21, .iload_n 1, 1, 0, 0, 0), (22, .iload_n 3, 1, 0, 0, 0), (23, .iastore, 1, 0, 0, 0), (24, .return_, 1, 0, 0, 0)]
def qt172 : List eRow := [(0, .iload_n 1, 1, 0, 0, 0), (1, .invokestatic 80, 3, 150, 1, 480), (4, .ifCond .eq 18, 3, 22, 0, 0), (7, .iload_n 2, 1, 0, 0, 0), (8, .ifCond .lt 14, 3, 22, 0, 0), (11, .iload_n 2, 1, 0, 0, 0), (12, .iconst 4, 1, 0, 0, 0), (13, .if_icmp .ge 9, 3, 22, 0, 0), (16, .iload_n 3, 1, 0, 0, 0), (17, .bipush 60, 2, 0, 0, 0), (19, .if_icmp .le 6, 3, 25, 0, 0), (22, .bipush (-2), 2, 0, 0, 0), (24, .ireturn, 1, 0, 0, 0), (25, .iload_n 3, 1, 0, 0, 0), (26, .ifCond .ge 6, 3, 32, 0, 0), (29, .bipush (-3), 2, 0, 0, 0), (31, .ireturn, 1, 0, 0, 0), (32, .aload_n 0, 1, 0, 0, 0), (33, .getfield 12, 3, 10, 0, 424), (36, .iload_n 1, 1, 0, 0, 0), (37, .iload_n 2, 1, 0, 0, 0), (38, .iload_n 3, 1, 0, 0, 0), (39, .invokevirtual 84, 3, 171, 3, 483), (42, .iconst 0, 1, 0, 0, 0), (43, .ireturn, 1, 0, 0, 0)]
def qt173 : List eRow := [(0, .aload_n 0, 1, 0, 0, 0), (1, .invokevirtual 187, 3, 156, 0, 816), (4, .aload_n 0, 1, 0, 0, 0), (5, .getfield 42, 3, 10, 5, 429), (8, .invokevirtual 143, 3, 132, 0, 715), (11, .ifCond .ne 21, 3, 32, 0, 0), (14, .aload_n 0, 1, 0, 0, 0), (15, .getfield 73, 3, 10, 9, 433), (18, .iload_n 1, 1, 0, 0, 0), (19, .invokevirtual 115, 3, 157, 1, 554), (22, .ifCond .eq 10, 3, 32, 0, 0), (25, .iload_n 2, 1, 0, 0, 0), (26, .invokestatic 165, 3, 149, 1, 771), (29, .ifCond .ne 5, 3, 34, 0, 0), (32, .iconst 0, 1, 0, 0, 0), (33, .ireturn, 1, 1, 0, 0), (34, .aload_n 0, 1, 0, 0, 0), (35, .getfield 73, 3, 10, 9, 433), (38, .iload_n 1, 1, 0, 0, 0), (39, .invokevirtual 190, 3, 107, 1, 832), (42, .ifCond .eq 23, 3, 65, 0, 0), (45, .aload_n 0, 1, 0, 0, 0), (46, .getfield 19, 3, 10, 1, 425), (49, .aload_n 0, 1, 0, 0, 0), (50, .getfield 73, 3, 10, 9, 433), (53, .getfield 193, 3, 6, 3, 389), (56, .iload_n 2, 1, 0, 0, 0), (57, .aaload, 1, 0, 0, 0), (58, .iload_n 1, 1, 0, 0, 0), (59, .iaload, 1, 0, 0, 0), (60, .invokevirtual 179, 3, 158, 1, 792), (63, .iconst 1, 1, 0, 0, 0), (64, .ireturn, 1, 1, 0, 0), (65, .aload_n 0, 1, 0, 0, 0), (66, .getfield 42, 3, 10, 5, 429), (69, .aload_n 0, 1, 0, 0, 0), (70, .getfield 66, 3, 10, 8, 432), (73, .aload_n 0, 1, 0, 0, 0), (74, .getfield 73, 3, 10, 9, 433), (77, .getfield 195, 3, 6, 5, 393), (80, .iload_n 1, 1, 0, 0, 0), (81, .iaload, 1, 0, 0, 0), (82, .aload_n 0, 1, 0, 0, 0), (83, .getfield 73, 3, 10, 9, 433), (86, .getfield 198, 3, 6, 1, 383), (89, .iload_n 2, 1, 0, 0, 0), (90, .iadd, 1, 0, 0, 0), (91, .invokevirtual 184, 3, 126, 3, 808), (94, .aload_n 0, 1, 0, 0, 0), (95, .getfield 19, 3, 10, 1, 425), (98, .aload_n 0, 1, 0, 0, 0), (99, .getfield 66, 3, 10, 8, 432), (102, .aload_n 0, 1, 0, 0, 0), (103, .getfield 42, 3, 10, 5, 429), (106, .getfield 151, 3, 5, 11, 262), (109, .aload_n 0, 1, 0, 0, 0), (110, .getfield 26, 3, 10, 2, 426), (113, .getfield 154, 3, 1, 0, 212), (116, .invokevirtual 158, 3, 130, 3, 735), (119, .iconst 1, 1, 0, 0, 0), (120, .ireturn, 1, 1, 0, 0)]
def qt174 : List eRow := [(0, .aload_n 0, 1, 0, 0, 0), (1, .invokevirtual 187, 3, 156, 0, 816), (4, .aload_n 0, 1, 0, 0, 0), (5, .getfield 42, 3, 10, 5, 429), (8, .invokevirtual 143, 3, 132, 0, 715), (11, .ifCond .ne 7, 3, 18, 0, 0), (14, .iconst 1, 1, 0, 0, 0), (15, .goto 4, 3, 19, 0, 0), (18, .iconst 0, 1, 0, 0, 0), (19, .ireturn, 1, 1, 0, 0)]
def qt175 : List eRow := [(0, .aload_n 2, 1, 0, 0, 0), (1, .aload_n 1, 1, 0, 0, 0), (2, .iload_n 3, 1, 0, 0, 0), (3, .iload 4, 2, 0, 0, 0), (5, .invokevirtual 105, 3, 88, 3, 898), (8, .aload_n 2, 1, 0, 0, 0), (9, .aload_n 0, 1, 0, 0, 0), (10, .getfield 20, 3, 3, 2, 353), (13, .iload_n 3, 1, 0, 0, 0), (14, .iload 5, 2, 0, 0, 0), (16, .invokevirtual 105, 3, 88, 3, 898), (19, .aload_n 1, 1, 0, 0, 0), (20, .aload_n 0, 1, 0, 0, 0), (21, .getfield 20, 3, 3, 2, 353), (24, .iconst 1, 1, 0, 0, 0), (25, .invokevirtual 101, 3, 99, 2, 899), (28, .return_, 1, 0, 0, 0)]
def qt176 : List eRow := [(0, .aload_n 0, 1, 0, 0, 0), (1, .getfield 14, 3, 3, 1, 352), (4, .invokevirtual 64, 3, 82, 0, 891), (7, .iconst 0, 1, 0, 0, 0), (8, .istore 5, 2, 0, 0, 0), (10, .iload 5, 2, 0, 0, 0), (12, .aload_n 1, 1, 0, 0, 0), (13, .getfield 67, 3, 6, 2, 386), (16, .if_icmp .ge 149, 3, 165, 0, 0), (19, .aload_n 0, 1, 0, 0, 0), (20, .getfield 29, 3, 3, 5, 356), (23, .aload_n 1, 1, 0, 0, 0), (24, .getfield 73, 3, 6, 9, 401), (27, .iload 5, 2, 0, 0, 0), (29, .iaload, 1, 0, 0, 0), (30, .invokevirtual 77, 3, 112, 1, 892), (33, .iconst 0, 1, 0, 0, 0), (34, .istore 6, 2, 0, 0, 0), (36, .iload 6, 2, 0, 0, 0), (38, .iconst 2, 1, 0, 0, 0), (39, .if_icmp .ge 120, 3, 159, 0, 0), (42, .aload_n 0, 1, 0, 0, 0), (43, .getfield 29, 3, 3, 5, 356), (46, .getfield 80, 3, 9, 1, 147), (49, .ifCond .le 110, 3, 159, 0, 0), (52, .aload_n 1, 1, 0, 0, 0), (53, .aload_n 1, 1, 0, 0, 0), (54, .getfield 83, 3, 6, 6, 395), (57, .iload 5, 2, 0, 0, 0), (59, .iaload, 1, 0, 0, 0), (60, .iload 6, 2, 0, 0, 0), (62, .invokevirtual 86, 3, 108, 2, 893), (65, .istore 7, 2, 0, 0, 0), (67, .aload_n 1, 1, 0, 0, 0), (68, .aload_n 1, 1, 0, 0, 0), (69, .getfield 90, 3, 6, 7, 397), (72, .iload 5, 2, 0, 0, 0), (74, .iaload, 1, 0, 0, 0), (75, .iload 6, 2, 0, 0, 0), (77, .invokevirtual 86, 3, 108, 2, 893), (80, .istore 8, 2, 0, 0, 0), (82, .aload_n 0, 1, 0, 0, 0), (83, .aload_n 0, 1, 0, 0, 0), (84, .getfield 23, 3, 3, 3, 354), (87, .aload_n 2, 1, 0, 0, 0), (88, .iload_n 3, 1, 0, 0, 0), (89, .iload 7, 2, 0, 0, 0), (91, .iload 8, 2, 0, 0, 0), (93, .invokevirtual 93, 3, 175, 5, 894), (96, .aload_n 0, 1, 0, 0, 0), (97, .aload_n 0, 1, 0, 0, 0), (98, .getfield 26, 3, 3, 4, 355), (101, .aload_n 2, 1, 0, 0, 0), (102, .iload 4, 2, 0, 0, 0), (104, .iload 7, 2, 0, 0, 0), (106, .iload 8, 2, 0, 0, 0), (108, .invokevirtual 93, 3, 175, 5, 894), (111, .aload_n 0, 1, 0, 0, 0), (112, .getfield 20, 3, 3, 2, 353), (115, .aload_n 0, 1, 0, 0, 0), (116, .getfield 23, 3, 3, 3, 354), (119, .aload_n 0, 1, 0, 0, 0), (120, .getfield 26, 3, 3, 4, 355), (123, .invokevirtual 97, 3, 96, 2, 900), (126, .aload_n 0, 1, 0, 0, 0), (127, .getfield 23, 3, 3, 3, 354), (130, .aload_n 0, 1, 0, 0, 0), (131, .getfield 20, 3, 3, 2, 353), (134, .aload_n 0, 1, 0, 0, 0), (135, .getfield 29, 3, 3, 5, 356), (138, .invokevirtual 97, 3, 96, 2, 900), (141, .aload_n 0, 1, 0, 0, 0), (142, .getfield 14, 3, 3, 1, 352), (145, .aload_n 0, 1, 0, 0, 0), (146, .getfield 23, 3, 3, 3, 354), (149, .iconst 0, 1, 0, 0, 0), (150, .invokevirtual 101, 3, 99, 2, 899), (153, .iinc 6 1, 3, 0, 0, 0), (156, .goto (-120), 3, 36, 0, 0), (159, .iinc 5 1, 3, 0, 0, 0), (162, .goto (-152), 3, 10, 0, 0), (165, .return_, 1, 0, 0, 0)]
def qt177 : List eRow := [(0, .aload_n 2, 1, 0, 0, 0), (1, .invokevirtual 41, 3, 132, 0, 885), (4, .istore_n 3, 1, 0, 0, 0), (5, .aload_n 0, 1, 0, 0, 0), (6, .getfield 37, 3, 3, 0, 351), (9, .iload_n 3, 1, 0, 0, 0), (10, .iload_n 3, 1, 0, 0, 0), (11, .iconst 0, 1, 0, 0, 0), (12, .invokevirtual 45, 3, 106, 3, 886), (15, .iconst 0, 1, 0, 0, 0), (16, .istore 4, 2, 0, 0, 0), (18, .iload 4, 2, 0, 0, 0), (20, .iload_n 3, 1, 0, 0, 0), (21, .if_icmp .ge 65, 3, 86, 0, 0), (24, .iconst 0, 1, 0, 0, 0), (25, .istore 5, 2, 0, 0, 0), (27, .iload 5, 2, 0, 0, 0), (29, .iload 4, 2, 0, 0, 0), (31, .if_icmp .gt 49, 3, 80, 0, 0), (34, .aload_n 0, 1, 0, 0, 0), (35, .aload_n 1, 1, 0, 0, 0), (36, .aload_n 2, 1, 0, 0, 0), (37, .iload 4, 2, 0, 0, 0), (39, .iload 5, 2, 0, 0, 0), (41, .invokevirtual 49, 3, 176, 4, 887), (44, .aload_n 0, 1, 0, 0, 0), (45, .getfield 37, 3, 3, 0, 351), (48, .iload 4, 2, 0, 0, 0), (50, .iload 5, 2, 0, 0, 0), (52, .aload_n 0, 1, 0, 0, 0), (53, .getfield 14, 3, 3, 1, 352), (56, .invokevirtual 53, 3, 114, 3, 901), (59, .aload_n 0, 1, 0, 0, 0), (60, .getfield 37, 3, 3, 0, 351), (63, .iload 5, 2, 0, 0, 0), (65, .iload 4, 2, 0, 0, 0), (67, .aload_n 0, 1, 0, 0, 0), (68, .getfield 14, 3, 3, 1, 352), (71, .invokevirtual 53, 3, 114, 3, 901), (74, .iinc 5 1, 3, 0, 0, 0), (77, .goto (-50), 3, 27, 0, 0), (80, .iinc 4 1, 3, 0, 0, 0), (83, .goto (-65), 3, 18, 0, 0), (86, .aload_n 0, 1, 0, 0, 0), (87, .getfield 37, 3, 3, 0, 351), (90, .invokevirtual 57, 3, 122, 0, 902), (93, .aload_n 0, 1, 0, 0, 0), (94, .getfield 37, 3, 3, 0, 351), (97, .getfield 60, 3, 5, 12, 263), (100, .ireturn, 1, 1, 0, 0)]
def qt178 : List eRow := [(0, .aload_n 0, 1, 0, 0, 0), (1, .getfield 73, 3, 10, 9, 433), (4, .iconst 0, 1, 0, 0, 0), (5, .invokevirtual 172, 3, 138, 1, 779), (8, .ifCond .ne 5, 3, 13, 0, 0), (11, .iconst 0, 1, 0, 0, 0), (12, .ireturn, 1, 0, 0, 0), (13, .aload_n 0, 1, 0, 0, 0), (14, .invokevirtual 162, 3, 153, 0, 759), (17, .aload_n 0, 1, 0, 0, 0), (18, .getfield 39, 3, 10, 4, 428), (21, .invokevirtual 143, 3, 132, 0, 715), (24, .iconst 3, 1, 0, 0, 0), (25, .if_icmp .le 6, 3, 31, 0, 0), (28, .bipush (-7), 2, 0, 0, 0), (30, .ireturn, 1, 0, 0, 0), (31, .aload_n 0, 1, 0, 0, 0), (32, .getfield 57, 3, 10, 7, 431), (35, .aload_n 0, 1, 0, 0, 0), (36, .getfield 73, 3, 10, 9, 433), (39, .aload_n 0, 1, 0, 0, 0), (40, .getfield 39, 3, 10, 4, 428), (43, .invokevirtual 211, 3, 177, 2, 881), (46, .ifCond .eq 7, 3, 53, 0, 0), (49, .iconst 1, 1, 0, 0, 0), (50, .goto 4, 3, 54, 0, 0), (53, .iconst 0, 1, 0, 0, 0), (54, .ireturn, 1, 0, 0, 0)]
def qt179 : List eRow := [(0, .aload_n 0, 1, 0, 0, 0), (1, .iconst 0, 1, 0, 0, 0), (2, .invokevirtual 139, 3, 123, 1, 573), (5, .iload_n 1, 1, 0, 0, 0), (6, .ifCond .lt 25, 3, 31, 0, 0), (9, .iload_n 1, 1, 0, 0, 0), (10, .aload_n 0, 1, 0, 0, 0), (11, .getfield 35, 3, 10, 3, 427), (14, .invokevirtual 143, 3, 132, 0, 715), (17, .if_icmp .ge 14, 3, 31, 0, 0), (20, .aload_n 0, 1, 0, 0, 0), (21, .getfield 73, 3, 10, 9, 433), (24, .iload_n 2, 1, 0, 0, 0), (25, .invokevirtual 132, 3, 124, 1, 565), (28, .ifCond .ne 5, 3, 33, 0, 0), (31, .iconst 0, 1, 0, 0, 0), (32, .ireturn, 1, 1, 0, 0), (33, .aload_n 0, 1, 0, 0, 0), (34, .getfield 35, 3, 10, 3, 427), (37, .aload_n 0, 1, 0, 0, 0), (38, .getfield 66, 3, 10, 8, 432), (41, .iload_n 1, 1, 0, 0, 0), (42, .iload_n 2, 1, 0, 0, 0), (43, .invokevirtual 147, 3, 88, 3, 723), (46, .aload_n 0, 1, 0, 0, 0), (47, .getfield 19, 3, 10, 1, 425), (50, .aload_n 0, 1, 0, 0, 0), (51, .getfield 66, 3, 10, 8, 432), (54, .aload_n 0, 1, 0, 0, 0), (55, .getfield 35, 3, 10, 3, 427), (58, .getfield 151, 3, 5, 11, 262), (61, .aload_n 0, 1, 0, 0, 0), (62, .getfield 26, 3, 10, 2, 426), (65, .getfield 154, 3, 1, 0, 212), (68, .invokevirtual 158, 3, 130, 3, 735), (71, .iconst 1, 1, 0, 0, 0), (72, .ireturn, 1, 1, 0, 0)]
def qt180 : List eRow := [(0, .aload_n 0, 1, 0, 0, 0), (1, .iconst 0, 1, 0, 0, 0), (2, .invokevirtual 139, 3, 123, 1, 573), (5, .aload_n 0, 1, 0, 0, 0), (6, .getfield 35, 3, 10, 3, 427), (9, .invokevirtual 143, 3, 132, 0, 715), (12, .ireturn, 1, 0, 0, 0)]
def qt181 : List eRow := [(0, .aload_n 0, 1, 0, 0, 0), (1, .getfield 20, 3, 7, 2, 106), (4, .iload_n 1, 1, 0, 0, 0), (5, .iconst (-1), 1, 0, 0, 0), (6, .iastore, 1, 0, 0, 0), (7, .return_, 1, 0, 0, 0)]
def qt182 : List eRow := [(0, .iload_n 1, 1, 0, 0, 0), (1, .invokestatic 80, 3, 150, 1, 480), (4, .ifCond .eq 14, 3, 18, 0, 0), (7, .aload_n 0, 1, 0, 0, 0), (8, .getfield 12, 3, 10, 0, 424), (11, .iload_n 1, 1, 0, 0, 0), (12, .invokevirtual 88, 3, 134, 1, 494), (15, .ifCond .ne 5, 3, 20, 0, 0), (18, .iconst 0, 1, 0, 0, 0), (19, .ireturn, 1, 1, 0, 0), (20, .aload_n 0, 1, 0, 0, 0), (21, .getfield 12, 3, 10, 0, 424), (24, .iload_n 1, 1, 0, 0, 0), (25, .invokevirtual 91, 3, 181, 1, 498), (28, .iconst 1, 1, 0, 0, 0), (29, .ireturn, 1, 1, 0, 0)]
def qt183 : List eRow := [(0, .aload_n 0, 1, 0, 0, 0), (1, .iconst 0, 1, 0, 0, 0), (2, .invokevirtual 139, 3, 123, 1, 573), (5, .aload_n 0, 1, 0, 0, 0), (6, .getfield 35, 3, 10, 3, 427), (9, .invokevirtual 143, 3, 132, 0, 715), (12, .iconst 3, 1, 0, 0, 0), (13, .if_icmp .le 6, 3, 19, 0, 0), (16, .bipush (-7), 2, 0, 0, 0), (18, .ireturn, 1, 0, 0, 0), (19, .aload_n 0, 1, 0, 0, 0), (20, .getfield 201, 3, 10, 15, 439), (23, .ifCond .ne 27, 3, 50, 0, 0), (26, .aload_n 0, 1, 0, 0, 0), (27, .aload_n 0, 1, 0, 0, 0), (28, .getfield 48, 3, 10, 6, 430), (31, .aload_n 0, 1, 0, 0, 0), (32, .getfield 73, 3, 10, 9, 433), (35, .aload_n 0, 1, 0, 0, 0), (36, .getfield 35, 3, 10, 3, 427), (39, .invokevirtual 204, 3, 105, 2, 837), (42, .putfield 208, 3, 10, 16, 440), (45, .aload_n 0, 1, 0, 0, 0), (46, .iconst 1, 1, 0, 0, 0), (47, .putfield 201, 3, 10, 15, 439), (50, .aload_n 0, 1, 0, 0, 0), (51, .getfield 208, 3, 10, 16, 440), (54, .ifCond .eq 7, 3, 61, 0, 0), (57, .iconst 1, 1, 0, 0, 0), (58, .goto 4, 3, 62, 0, 0), (61, .iconst 0, 1, 0, 0, 0), (62, .ireturn, 1, 0, 0, 0)]
def qt184 : List eRow := [(0, .aload_n 0, 1, 0, 0, 0), (1, .iload_n 1, 1, 0, 0, 0), (2, .invokevirtual 93, 3, 157, 1, 922), (5, .ifCond .ne 5, 3, 10, 0, 0), (8, .iconst 0, 1, 0, 0, 0), (9, .ireturn, 1, 0, 0, 0), (10, .iload_n 2, 1, 0, 0, 0), (11, .tableswitch 83 0 4 #[33, 42, 51, 65, 74], 33, 0, 0, 0), (44, .aload_n 0, 1, 0, 0, 0), (45, .getfield 20, 3, 6, 3, 388), (48, .iconst 0, 1, 0, 0, 0), (49, .aaload, 1, 0, 0, 0), (50, .iload_n 1, 1, 0, 0, 0), (51, .iaload, 1, 0, 0, 0), (52, .ireturn, 1, 0, 0, 0), (53, .aload_n 0, 1, 0, 0, 0), (54, .getfield 20, 3, 6, 3, 388), (57, .iconst 1, 1, 0, 0, 0), (58, .aaload, 1, 0, 0, 0), (59, .iload_n 1, 1, 0, 0, 0), (60, .iaload, 1, 0, 0, 0), (61, .ireturn, 1, 0, 0, 0), (62, .aload_n 0, 1, 0, 0, 0), (63, .iload_n 1, 1, 0, 0, 0), (64, .invokevirtual 70, 3, 107, 1, 593), (67, .ifCond .eq 7, 3, 74, 0, 0), (70, .iconst 1, 1, 0, 0, 0), (71, .goto 4, 3, 75, 0, 0), (74, .iconst 0, 1, 0, 0, 0), (75, .ireturn, 1, 0, 0, 0), (76, .aload_n 0, 1, 0, 0, 0), (77, .getfield 23, 3, 6, 4, 390), (80, .iconst 0, 1, 0, 0, 0), (81, .aaload, 1, 0, 0, 0), (82, .iload_n 1, 1, 0, 0, 0), (83, .iaload, 1, 0, 0, 0), (84, .ireturn, 1, 0, 0, 0), (85, .aload_n 0, 1, 0, 0, 0), (86, .getfield 23, 3, 6, 4, 390), (89, .iconst 1, 1, 0, 0, 0), (90, .aaload, 1, 0, 0, 0), (91, .iload_n 1, 1, 0, 0, 0), (92, .iaload, 1, 0, 0, 0), (93, .ireturn, 1, 0, 0, 0), (94, .iconst 0, 1, 0, 0, 0), (95, .ireturn, 1, 0, 0, 0)]
def qt185 : List eRow := [(0, .aload_n 0, 1, 0, 0, 0), (1, .iload_n 1, 1, 0, 0, 0), (2, .invokevirtual 96, 3, 124, 1, 927), (5, .ifCond .ne 5, 3, 10, 0, 0), (8, .iconst 0, 1, 0, 0, 0), (9, .ireturn, 1, 0, 0, 0), (10, .iload_n 2, 1, 0, 0, 0), (11, .tableswitch 57 10 13 #[29, 36, 43, 50], 29, 0, 0, 0), (40, .aload_n 0, 1, 0, 0, 0), (41, .getfield 30, 3, 6, 6, 394), (44, .iload_n 1, 1, 0, 0, 0), (45, .iaload, 1, 0, 0, 0), (46, .ireturn, 1, 0, 0, 0), (47, .aload_n 0, 1, 0, 0, 0), (48, .getfield 33, 3, 6, 7, 396), (51, .iload_n 1, 1, 0, 0, 0), (52, .iaload, 1, 0, 0, 0), (53, .ireturn, 1, 0, 0, 0), (54, .aload_n 0, 1, 0, 0, 0), (55, .getfield 36, 3, 6, 8, 398), (58, .iload_n 1, 1, 0, 0, 0), (59, .iaload, 1, 0, 0, 0), (60, .ireturn, 1, 0, 0, 0), (61, .aload_n 0, 1, 0, 0, 0), (62, .getfield 39, 3, 6, 9, 400), (65, .iload_n 1, 1, 0, 0, 0), (66, .iaload, 1, 0, 0, 0), (67, .ireturn, 1, 0, 0, 0), (68, .iconst 0, 1, 0, 0, 0), (69, .ireturn, 1, 0, 0, 0)]
def qt186 : List eRow := [(0, .iload_n 2, 1, 0, 0, 0), (1, .bipush 14, 2, 0, 0, 0), (3, .if_icmp .ne 38, 3, 41, 0, 0), (6, .aload_n 0, 1, 0, 0, 0), (7, .iconst 0, 1, 0, 0, 0), (8, .invokevirtual 139, 3, 123, 1, 573), (11, .aload_n 0, 1, 0, 0, 0), (12, .getfield 73, 3, 10, 9, 433), (15, .iload_n 1, 1, 0, 0, 0), (16, .invokevirtual 132, 3, 124, 1, 565), (19, .ifCond .eq 20, 3, 39, 0, 0), (22, .aload_n 0, 1, 0, 0, 0), (23, .getfield 35, 3, 10, 3, 427), (26, .getfield 231, 3, 5, 10, 260), (29, .iload_n 1, 1, 0, 0, 0), (30, .iaload, 1, 0, 0, 0), (31, .iconst (-1), 1, 0, 0, 0), (32, .if_icmp .eq 7, 3, 39, 0, 0), (35, .iconst 1, 1, 0, 0, 0), (36, .goto 4, 3, 40, 0, 0), (39, .iconst 0, 1, 0, 0, 0), (40, .ireturn, 1, 0, 0, 0), (41, .iload_n 2, 1, 0, 0, 0), (42, .bipush 10, 2, 0, 0, 0), (44, .if_icmp .ge 15, 3, 59, 0, 0), (47, .aload_n 0, 1, 0, 0, 0), (48, .getfield 73, 3, 10, 9, 433), (51, .iload_n 1, 1, 0, 0, 0), (52, .iload_n 2, 1, 0, 0, 0), (53, .invokevirtual 234, 3, 184, 2, 918), (56, .goto 12, 3, 68, 0, 0), (59, .aload_n 0, 1, 0, 0, 0), (60, .getfield 73, 3, 10, 9, 433), (63, .iload_n 1, 1, 0, 0, 0), (64, .iload_n 2, 1, 0, 0, 0), (65, .invokevirtual 237, 3, 185, 2, 923), (68, .ireturn, 1, 0, 0, 0)]
def qt187 : List eRow := [(0, .aload_n 0, 1, 0, 0, 0), (1, .invokevirtual 162, 3, 153, 0, 759), (4, .iload_n 1, 1, 0, 0, 0), (5, .ifCond .lt 32, 3, 37, 0, 0), (8, .iload_n 1, 1, 0, 0, 0), (9, .aload_n 0, 1, 0, 0, 0), (10, .getfield 39, 3, 10, 4, 428), (13, .invokevirtual 143, 3, 132, 0, 715), (16, .if_icmp .ge 21, 3, 37, 0, 0), (19, .aload_n 0, 1, 0, 0, 0), (20, .getfield 73, 3, 10, 9, 433), (23, .iload_n 2, 1, 0, 0, 0), (24, .invokevirtual 115, 3, 157, 1, 554), (27, .ifCond .eq 10, 3, 37, 0, 0), (30, .iload_n 3, 1, 0, 0, 0), (31, .invokestatic 165, 3, 149, 1, 771), (34, .ifCond .ne 5, 3, 39, 0, 0), (37, .iconst 0, 1, 0, 0, 0), (38, .ireturn, 1, 1, 0, 0), (39, .aload_n 0, 1, 0, 0, 0), (40, .getfield 39, 3, 10, 4, 428), (43, .aload_n 0, 1, 0, 0, 0), (44, .getfield 66, 3, 10, 8, 432), (47, .iload_n 1, 1, 0, 0, 0), (48, .aload_n 0, 1, 0, 0, 0), (49, .getfield 73, 3, 10, 9, 433), (52, .iload_n 2, 1, 0, 0, 0), (53, .iload_n 3, 1, 0, 0, 0), (54, .invokevirtual 168, 3, 108, 2, 774), (57, .invokevirtual 147, 3, 88, 3, 723), (60, .aload_n 0, 1, 0, 0, 0), (61, .getfield 19, 3, 10, 1, 425), (64, .aload_n 0, 1, 0, 0, 0), (65, .getfield 66, 3, 10, 8, 432), (68, .aload_n 0, 1, 0, 0, 0), (69, .getfield 39, 3, 10, 4, 428), (72, .getfield 151, 3, 5, 11, 262), (75, .aload_n 0, 1, 0, 0, 0), (76, .getfield 26, 3, 10, 2, 426), (79, .getfield 154, 3, 1, 0, 212), (82, .invokevirtual 158, 3, 130, 3, 735), (85, .iconst 1, 1, 0, 0, 0), (86, .ireturn, 1, 1, 0, 0)]
def qt188 : List eRow := [(0, .aload_n 0, 1, 0, 0, 0), (1, .invokevirtual 162, 3, 153, 0, 759), (4, .aload_n 0, 1, 0, 0, 0), (5, .getfield 39, 3, 10, 4, 428), (8, .invokevirtual 143, 3, 132, 0, 715), (11, .ireturn, 1, 0, 0, 0)]
def qt189 : List eRow := [(0, .iload_n 2, 1, 0, 0, 0), (1, .tableswitch 41 0 2 #[27, 32, 37], 27, 0, 0, 0), (28, .lload_n 0, 1, 0, 0, 0), (29, .l2i, 1, 0, 0, 0), (30, .i2b, 1, 0, 0, 0), (31, .i2l, 1, 0, 0, 0), (32, .lreturn, 1, 0, 0, 0), (33, .lload_n 0, 1, 0, 0, 0), (34, .l2i, 1, 0, 0, 0), (35, .i2s, 1, 0, 0, 0), (36, .i2l, 1, 0, 0, 0), (37, .lreturn, 1, 0, 0, 0), (38, .lload_n 0, 1, 0, 0, 0), (39, .l2i, 1, 0, 0, 0), (40, .i2l, 1, 0, 0, 0), (41, .lreturn, 1, 0, 0, 0), (42, .lload_n 0, 1, 0, 0, 0), (43, .lreturn, 1, 0, 0, 0)]
def qt190 : List eRow := [(0, .iload_n 2, 1, 0, 0, 0), (1, .ifCond .lt 13, 3, 14, 0, 0), (4, .iload_n 2, 1, 0, 0, 0), (5, .aload_n 0, 1, 0, 0, 0), (6, .getfield 20, 3, 7, 2, 106), (9, .iload_n 1, 1, 0, 0, 0), (10, .iaload, 1, 0, 0, 0), (11, .if_icmp .lt 5, 3, 16, 0, 0), (14, .iconst 0, 1, 0, 0, 0), (15, .ireturn, 1, 1, 0, 0), (16, .aload_n 0, 1, 0, 0, 0), (17, .getfield 11, 3, 7, 0, 104), (20, .iload_n 1, 1, 0, 0, 0), (21, .aaload, 1, 0, 0, 0), (22, .iload_n 2, 1, 0, 0, 0), (23, .lload_n 3, 1, 0, 0, 0), (24, .aload_n 0, 1, 0, 0, 0), (25, .getfield 16, 3, 7, 1, 105), (28, .iload_n 1, 1, 0, 0, 0), (29, .iaload, 1, 0, 0, 0), (30, .invokestatic 36, 3, 189, 2, 510), (33, .lastore, 1, 0, 0, 0), (34, .iconst 1, 1, 0, 0, 0), (35, .ireturn, 1, 1, 0, 0)]
def qt191 : List eRow := [(0, .iload_n 1, 1, 0, 0, 0), (1, .invokestatic 80, 3, 150, 1, 480), (4, .ifCond .ne 6, 3, 10, 0, 0), (7, .bipush (-2), 2, 0, 0, 0), (9, .ireturn, 1, 0, 0, 0), (10, .aload_n 0, 1, 0, 0, 0), (11, .getfield 12, 3, 10, 0, 424), (14, .iload_n 1, 1, 0, 0, 0), (15, .invokevirtual 88, 3, 134, 1, 494), (18, .ifCond .ne 6, 3, 24, 0, 0), (21, .bipush (-5), 2, 0, 0, 0), (23, .ireturn, 1, 0, 0, 0), (24, .aload_n 0, 1, 0, 0, 0), (25, .getfield 12, 3, 10, 0, 424), (28, .iload_n 1, 1, 0, 0, 0), (29, .iload_n 2, 1, 0, 0, 0), (30, .lload_n 3, 1, 0, 0, 0), (31, .invokevirtual 94, 3, 190, 3, 506), (34, .ifCond .eq 7, 3, 41, 0, 0), (37, .iconst 0, 1, 0, 0, 0), (38, .goto 5, 3, 43, 0, 0), (41, .bipush (-6), 2, 0, 0, 0), (43, .ireturn, 1, 0, 0, 0)]
def qt192 : List eRow := [(0, .new 7, 3, 10, 0, 85), (3, .dup, 1, 0, 0, 0), (4, .invokespecial 9, 3, 148, 0, 87), (7, .astore_n 1, 1, 0, 0, 0), (8, .new 10, 3, 11, 0, 937), (11, .dup, 1, 0, 0, 0), (12, .invokespecial 12, 3, 53, 0, 939), (15, .astore_n 2, 1, 0, 0, 0), (16, .iconst 0, 1, 0, 0, 0), (17, .istore_n 3, 1, 0, 0, 0), (18, .iload_n 3, 1, 0, 0, 0), (19, .aload_n 0, 1, 0, 0, 0), (20, .arraylength, 1, 0, 0, 0), (21, .iconst 5, 1, 0, 0, 0), (22, .isub, 1, 0, 0, 0), (23, .if_icmp .gt 741, 3, 764, 0, 0), (26, .aload_n 0, 1, 0, 0, 0), (27, .iload_n 3, 1, 0, 0, 0), (28, .iaload, 1, 0, 0, 0), (29, .bipush 31, 2, 0, 0, 0), (31, .iand, 1, 0, 0, 0), (32, .tableswitch 726 0 21 #[104, 147, 170, 243, 266, 309, 342, 355, 388, 401, 444, 457, 490, 503, 526, 539, 572, 585, 598, 621, 670, 703], 104, 0, 0, 0), (136, .aload_n 1, 1, 0, 0, 0), (137, .aload_n 0, 1, 0, 0, 0), (138, .iload_n 3, 1, 0, 0, 0), (139, .iconst 1, 1, 0, 0, 0), (140, .iadd, 1, 0, 0, 0), (141, .iaload, 1, 0, 0, 0), (142, .aload_n 0, 1, 0, 0, 0), (143, .iload_n 3, 1, 0, 0, 0), (144, .iconst 2, 1, 0, 0, 0), (145, .iadd, 1, 0, 0, 0), (146, .iaload, 1, 0, 0, 0), (147, .aload_n 0, 1, 0, 0, 0), (148, .iload_n 3, 1, 0, 0, 0), (149, .iconst 3, 1, 0, 0, 0), (150, .iadd, 1, 0, 0, 0), (151, .iaload, 1, 0, 0, 0), (152, .invokevirtual 13, 3, 172, 3, 476), (155, .aload_n 2, 1, 0, 0, 0), (156, .aload_n 0, 1, 0, 0, 0), (157, .iload_n 3, 1, 0, 0, 0), (158, .iconst 1, 1, 0, 0, 0), (159, .iadd, 1, 0, 0, 0), (160, .iaload, 1, 0, 0, 0), (161, .aload_n 0, 1, 0, 0, 0), (162, .iload_n 3, 1, 0, 0, 0), (163, .iconst 2, 1, 0, 0, 0), (164, .iadd, 1, 0, 0, 0), (165, .iaload, 1, 0, 0, 0), (166, .aload_n 0, 1, 0, 0, 0), (167, .iload_n 3, 1, 0, 0, 0), (168, .iconst 3, 1, 0, 0, 0), (169, .iadd, 1, 0, 0, 0), (170, .iaload, 1, 0, 0, 0), (171, .invokevirtual 17, 3, 69, 3, 1031), (174, .if_icmp .eq 584, 3, 758, 0, 0), (177, .iconst 0, 1, 0, 0, 0), (178, .ireturn, 1, 1, 0, 0), (179, .aload_n 1, 1, 0, 0, 0), (180, .aload_n 0, 1, 0, 0, 0), (181, .iload_n 3, 1, 0, 0, 0), (182, .iconst 1, 1, 0, 0, 0), (183, .iadd, 1, 0, 0, 0), (184, .iaload, 1, 0, 0, 0), (185, .invokevirtual 18, 3, 182, 1, 490), (188, .aload_n 2, 1, 0, 0, 0), (189, .aload_n 0, 1, 0, 0, 0), (190, .iload_n 3, 1, 0, 0, 0), (191, .iconst 1, 1, 0, 0, 0), (192, .iadd, 1, 0, 0, 0), (193, .iaload, 1, 0, 0, 0), (194, .invokevirtual 22, 3, 75, 1, 1038), (197, .if_icmp .eq 561, 3, 758, 0, 0), (200, .iconst 0, 1, 0, 0, 0), (201, .ireturn, 1, 1, 0, 0), (202, .aload_n 1, 1, 0, 0, 0), (203, .aload_n 0, 1, 0, 0, 0), (204, .iload_n 3, 1, 0, 0, 0), (205, .iconst 1, 1, 0, 0, 0), (206, .iadd, 1, 0, 0, 0), (207, .iaload, 1, 0, 0, 0), (208, .aload_n 0, 1, 0, 0, 0), (209, .iload_n 3, 1, 0, 0, 0), (210, .iconst 2, 1, 0, 0, 0), (211, .iadd, 1, 0, 0, 0), (212, .iaload, 1, 0, 0, 0), (213, .aload_n 0, 1, 0, 0, 0), (214, .iload_n 3, 1, 0, 0, 0), (215, .iconst 3, 1, 0, 0, 0), (216, .iadd, 1, 0, 0, 0), (217, .iaload, 1, 0, 0, 0), (218, .i2l, 1, 0, 0, 0), (219, .bipush 32, 2, 0, 0, 0), (221, .lshl, 1, 0, 0, 0), (222, .aload_n 0, 1, 0, 0, 0), (223, .iload_n 3, 1, 0, 0, 0), (224, .iconst 4, 1, 0, 0, 0), (225, .iadd, 1, 0, 0, 0), (226, .iaload, 1, 0, 0, 0), (227, .i2l, 1, 0, 0, 0), (228, .ldc2_w 23, 3, 4294967295, 0, 1303), (231, .land, 1, 0, 0, 0), (232, .lor, 1, 0, 0, 0), (233, .invokevirtual 25, 3, 191, 3, 502), (236, .aload_n 2, 1, 0, 0, 0), (237, .aload_n 0, 1, 0, 0, 0), (238, .iload_n 3, 1, 0, 0, 0), (239, .iconst 1, 1, 0, 0, 0), (240, .iadd, 1, 0, 0, 0), (241, .iaload, 1, 0, 0, 0), (242, .aload_n 0, 1, 0, 0, 0), (243, .iload_n 3, 1, 0, 0, 0), (244, .iconst 2, 1, 0, 0, 0), (245, .iadd, 1, 0, 0, 0), (246, .iaload, 1, 0, 0, 0), (247, .aload_n 0, 1, 0, 0, 0), (248, .iload_n 3, 1, 0, 0, 0), (249, .iconst 3, 1, 0, 0, 0), (250, .iadd, 1, 0, 0, 0), (251, .iaload, 1, 0, 0, 0), (252, .i2l, 1, 0, 0, 0), (253, .bipush 32, 2, 0, 0, 0), (255, .lshl, 1, 0, 0, 0), (256, .aload_n 0, 1, 0, 0, 0), (257, .iload_n 3, 1, 0, 0, 0), (258, .iconst 4, 1, 0, 0, 0), (259, .iadd, 1, 0, 0, 0), (260, .iaload, 1, 0, 0, 0), (261, .i2l, 1, 0, 0, 0), (262, .ldc2_w 23, 3, 4294967295, 0, 1303), (265, .land, 1, 0, 0, 0), (266, .lor, 1, 0, 0, 0), (267, .invokevirtual 29, 3, 80, 3, 1042), (270, .if_icmp .eq 488, 3, 758, 0, 0), (273, .iconst 0, 1, 0, 0, 0), (274, .ireturn, 1, 1, 0, 0), (275, .aload_n 1, 1, 0, 0, 0), (276, .aload_n 0, 1, 0, 0, 0), (277, .iload_n 3, 1, 0, 0, 0), (278, .iconst 1, 1, 0, 0, 0), (279, .iadd, 1, 0, 0, 0), (280, .iaload, 1, 0, 0, 0), (281, .invokevirtual 30, 3, 168, 1, 513), (284, .aload_n 2, 1, 0, 0, 0), (285, .aload_n 0, 1, 0, 0, 0), (286, .iload_n 3, 1, 0, 0, 0), (287, .iconst 1, 1, 0, 0, 0), (288, .iadd, 1, 0, 0, 0), (289, .iaload, 1, 0, 0, 0), (290, .invokevirtual 34, 3, 66, 1, 1046), (293, .if_icmp .eq 465, 3, 758, 0, 0), (296, .iconst 0, 1, 0, 0, 0), (297, .ireturn, 1, 1, 0, 0), (298, .aload_n 1, 1, 0, 0, 0), (299, .aload_n 0, 1, 0, 0, 0), (300, .iload_n 3, 1, 0, 0, 0), (301, .iconst 1, 1, 0, 0, 0), (302, .iadd, 1, 0, 0, 0), (303, .iaload, 1, 0, 0, 0), (304, .aload_n 0, 1, 0, 0, 0), (305, .iload_n 3, 1, 0, 0, 0), (306, .iconst 2, 1, 0, 0, 0), (307, .iadd, 1, 0, 0, 0), (308, .iaload, 1, 0, 0, 0), (309, .aload_n 0, 1, 0, 0, 0), (310, .iload_n 3, 1, 0, 0, 0), (311, .iconst 3, 1, 0, 0, 0), (312, .iadd, 1, 0, 0, 0), (313, .iaload, 1, 0, 0, 0), (314, .invokevirtual 35, 3, 160, 3, 550), (317, .aload_n 2, 1, 0, 0, 0), (318, .aload_n 0, 1, 0, 0, 0), (319, .iload_n 3, 1, 0, 0, 0), (320, .iconst 1, 1, 0, 0, 0), (321, .iadd, 1, 0, 0, 0), (322, .iaload, 1, 0, 0, 0), (323, .aload_n 0, 1, 0, 0, 0), (324, .iload_n 3, 1, 0, 0, 0), (325, .iconst 2, 1, 0, 0, 0), (326, .iadd, 1, 0, 0, 0), (327, .iaload, 1, 0, 0, 0), (328, .aload_n 0, 1, 0, 0, 0), (329, .iload_n 3, 1, 0, 0, 0), (330, .iconst 3, 1, 0, 0, 0), (331, .iadd, 1, 0, 0, 0), (332, .iaload, 1, 0, 0, 0), (333, .invokevirtual 38, 3, 61, 3, 1059), (336, .if_icmp .eq 422, 3, 758, 0, 0), (339, .iconst 0, 1, 0, 0, 0), (340, .ireturn, 1, 1, 0, 0), (341, .aload_n 1, 1, 0, 0, 0), (342, .aload_n 0, 1, 0, 0, 0), (343, .iload_n 3, 1, 0, 0, 0), (344, .iconst 1, 1, 0, 0, 0), (345, .iadd, 1, 0, 0, 0), (346, .iaload, 1, 0, 0, 0), (347, .aload_n 0, 1, 0, 0, 0), (348, .iload_n 3, 1, 0, 0, 0), (349, .iconst 2, 1, 0, 0, 0), (350, .iadd, 1, 0, 0, 0), (351, .iaload, 1, 0, 0, 0), (352, .invokevirtual 39, 3, 170, 2, 561), (355, .aload_n 2, 1, 0, 0, 0), (356, .aload_n 0, 1, 0, 0, 0), (357, .iload_n 3, 1, 0, 0, 0), (358, .iconst 1, 1, 0, 0, 0), (359, .iadd, 1, 0, 0, 0), (360, .iaload, 1, 0, 0, 0), (361, .aload_n 0, 1, 0, 0, 0), (362, .iload_n 3, 1, 0, 0, 0), (363, .iconst 2, 1, 0, 0, 0), (364, .iadd, 1, 0, 0, 0), (365, .iaload, 1, 0, 0, 0), (366, .invokevirtual 43, 3, 68, 2, 1070), (369, .if_icmp .eq 389, 3, 758, 0, 0), (372, .iconst 0, 1, 0, 0, 0), (373, .ireturn, 1, 1, 0, 0), (374, .aload_n 1, 1, 0, 0, 0), (375, .invokevirtual 44, 3, 180, 0, 569), (378, .aload_n 2, 1, 0, 0, 0), (379, .invokevirtual 48, 3, 74, 0, 1078), (382, .if_icmp .eq 376, 3, 758, 0, 0), (385, .iconst 0, 1, 0, 0, 0), (386, .ireturn, 1, 1, 0, 0), (387, .aload_n 1, 1, 0, 0, 0), (388, .aload_n 0, 1, 0, 0, 0), (389, .iload_n 3, 1, 0, 0, 0), (390, .iconst 1, 1, 0, 0, 0), (391, .iadd, 1, 0, 0, 0), (392, .iaload, 1, 0, 0, 0), (393, .aload_n 0, 1, 0, 0, 0), (394, .iload_n 3, 1, 0, 0, 0), (395, .iconst 2, 1, 0, 0, 0), (396, .iadd, 1, 0, 0, 0), (397, .iaload, 1, 0, 0, 0), (398, .invokevirtual 49, 3, 179, 2, 719), (401, .aload_n 2, 1, 0, 0, 0), (402, .aload_n 0, 1, 0, 0, 0), (403, .iload_n 3, 1, 0, 0, 0), (404, .iconst 1, 1, 0, 0, 0), (405, .iadd, 1, 0, 0, 0), (406, .iaload, 1, 0, 0, 0), (407, .aload_n 0, 1, 0, 0, 0), (408, .iload_n 3, 1, 0, 0, 0), (409, .iconst 2, 1, 0, 0, 0), (410, .iadd, 1, 0, 0, 0), (411, .iaload, 1, 0, 0, 0), (412, .invokevirtual 53, 3, 73, 2, 1151), (415, .if_icmp .eq 343, 3, 758, 0, 0), (418, .iconst 0, 1, 0, 0, 0), (419, .ireturn, 1, 1, 0, 0), (420, .aload_n 1, 1, 0, 0, 0), (421, .invokevirtual 54, 3, 188, 0, 755), (424, .aload_n 2, 1, 0, 0, 0), (425, .invokevirtual 57, 3, 79, 0, 1179), (428, .if_icmp .eq 330, 3, 758, 0, 0), (431, .iconst 0, 1, 0, 0, 0), (432, .ireturn, 1, 1, 0, 0), (433, .aload_n 1, 1, 0, 0, 0), (434, .aload_n 0, 1, 0, 0, 0), (435, .iload_n 3, 1, 0, 0, 0), (436, .iconst 1, 1, 0, 0, 0), (437, .iadd, 1, 0, 0, 0), (438, .iaload, 1, 0, 0, 0), (439, .aload_n 0, 1, 0, 0, 0), (440, .iload_n 3, 1, 0, 0, 0), (441, .iconst 2, 1, 0, 0, 0), (442, .iadd, 1, 0, 0, 0), (443, .iaload, 1, 0, 0, 0), (444, .aload_n 0, 1, 0, 0, 0), (445, .iload_n 3, 1, 0, 0, 0), (446, .iconst 3, 1, 0, 0, 0), (447, .iadd, 1, 0, 0, 0), (448, .iaload, 1, 0, 0, 0), (449, .invokevirtual 58, 3, 187, 3, 767), (452, .aload_n 2, 1, 0, 0, 0), (453, .aload_n 0, 1, 0, 0, 0), (454, .iload_n 3, 1, 0, 0, 0), (455, .iconst 1, 1, 0, 0, 0), (456, .iadd, 1, 0, 0, 0), (457, .iaload, 1, 0, 0, 0), (458, .aload_n 0, 1, 0, 0, 0), (459, .iload_n 3, 1, 0, 0, 0), (460, .iconst 2, 1, 0, 0, 0), (461, .iadd, 1, 0, 0, 0), (462, .iaload, 1, 0, 0, 0), (463, .aload_n 0, 1, 0, 0, 0), (464, .iload_n 3, 1, 0, 0, 0), (465, .iconst 3, 1, 0, 0, 0), (466, .iadd, 1, 0, 0, 0), (467, .iaload, 1, 0, 0, 0), (468, .invokevirtual 62, 3, 78, 3, 1187), (471, .if_icmp .eq 287, 3, 758, 0, 0), (474, .iconst 0, 1, 0, 0, 0), (475, .ireturn, 1, 1, 0, 0), (476, .aload_n 1, 1, 0, 0, 0), (477, .invokevirtual 63, 3, 139, 0, 775), (480, .aload_n 2, 1, 0, 0, 0), (481, .invokevirtual 67, 3, 50, 0, 1191), (484, .if_icmp .eq 274, 3, 758, 0, 0), (487, .iconst 0, 1, 0, 0, 0), (488, .ireturn, 1, 1, 0, 0), (489, .aload_n 1, 1, 0, 0, 0), (490, .aload_n 0, 1, 0, 0, 0), (491, .iload_n 3, 1, 0, 0, 0), (492, .iconst 1, 1, 0, 0, 0), (493, .iadd, 1, 0, 0, 0), (494, .iaload, 1, 0, 0, 0), (495, .aload_n 0, 1, 0, 0, 0), (496, .iload_n 3, 1, 0, 0, 0), (497, .iconst 2, 1, 0, 0, 0), (498, .iadd, 1, 0, 0, 0), (499, .iaload, 1, 0, 0, 0), (500, .invokevirtual 68, 3, 159, 2, 787), (503, .aload_n 2, 1, 0, 0, 0), (504, .aload_n 0, 1, 0, 0, 0), (505, .iload_n 3, 1, 0, 0, 0), (506, .iconst 1, 1, 0, 0, 0), (507, .iadd, 1, 0, 0, 0), (508, .iaload, 1, 0, 0, 0), (509, .aload_n 0, 1, 0, 0, 0), (510, .iload_n 3, 1, 0, 0, 0), (511, .iconst 2, 1, 0, 0, 0), (512, .iadd, 1, 0, 0, 0), (513, .iaload, 1, 0, 0, 0), (514, .invokevirtual 71, 3, 60, 2, 1203), (517, .if_icmp .eq 241, 3, 758, 0, 0), (520, .iconst 0, 1, 0, 0, 0), (521, .ireturn, 1, 1, 0, 0), (522, .aload_n 1, 1, 0, 0, 0), (523, .invokevirtual 72, 3, 133, 0, 796), (526, .aload_n 2, 1, 0, 0, 0), (527, .invokevirtual 75, 3, 40, 0, 1207), (530, .if_icmp .eq 228, 3, 758, 0, 0), (533, .iconst 0, 1, 0, 0, 0), (534, .ireturn, 1, 1, 0, 0), (535, .aload_n 1, 1, 0, 0, 0), (536, .aload_n 0, 1, 0, 0, 0), (537, .iload_n 3, 1, 0, 0, 0), (538, .iconst 1, 1, 0, 0, 0), (539, .iadd, 1, 0, 0, 0), (540, .iaload, 1, 0, 0, 0), (541, .invokevirtual 76, 3, 131, 1, 804), (544, .aload_n 2, 1, 0, 0, 0), (545, .aload_n 0, 1, 0, 0, 0), (546, .iload_n 3, 1, 0, 0, 0), (547, .iconst 1, 1, 0, 0, 0), (548, .iadd, 1, 0, 0, 0), (549, .iaload, 1, 0, 0, 0), (550, .invokevirtual 79, 3, 39, 1, 1215), (553, .if_icmp .eq 205, 3, 758, 0, 0), (556, .iconst 0, 1, 0, 0, 0), (557, .ireturn, 1, 1, 0, 0), (558, .aload_n 1, 1, 0, 0, 0), (559, .invokevirtual 80, 3, 174, 0, 812), (562, .aload_n 2, 1, 0, 0, 0), (563, .invokevirtual 83, 3, 71, 0, 1219), (566, .if_icmp .eq 192, 3, 758, 0, 0), (569, .iconst 0, 1, 0, 0, 0), (570, .ireturn, 1, 1, 0, 0), (571, .aload_n 1, 1, 0, 0, 0), (572, .aload_n 0, 1, 0, 0, 0), (573, .iload_n 3, 1, 0, 0, 0), (574, .iconst 1, 1, 0, 0, 0), (575, .iadd, 1, 0, 0, 0), (576, .iaload, 1, 0, 0, 0), (577, .aload_n 0, 1, 0, 0, 0), (578, .iload_n 3, 1, 0, 0, 0), (579, .iconst 2, 1, 0, 0, 0), (580, .iadd, 1, 0, 0, 0), (581, .iaload, 1, 0, 0, 0), (582, .invokevirtual 84, 3, 173, 2, 828), (585, .aload_n 2, 1, 0, 0, 0), (586, .aload_n 0, 1, 0, 0, 0), (587, .iload_n 3, 1, 0, 0, 0), (588, .iconst 1, 1, 0, 0, 0), (589, .iadd, 1, 0, 0, 0), (590, .iaload, 1, 0, 0, 0), (591, .aload_n 0, 1, 0, 0, 0), (592, .iload_n 3, 1, 0, 0, 0), (593, .iconst 2, 1, 0, 0, 0), (594, .iadd, 1, 0, 0, 0), (595, .iaload, 1, 0, 0, 0), (596, .invokevirtual 87, 3, 70, 2, 1227), (599, .if_icmp .eq 159, 3, 758, 0, 0), (602, .iconst 0, 1, 0, 0, 0), (603, .ireturn, 1, 1, 0, 0), (604, .aload_n 1, 1, 0, 0, 0), (605, .invokevirtual 88, 3, 183, 0, 833), (608, .aload_n 2, 1, 0, 0, 0), (609, .invokevirtual 91, 3, 76, 0, 1231), (612, .if_icmp .eq 146, 3, 758, 0, 0), (615, .iconst 0, 1, 0, 0, 0), (616, .ireturn, 1, 1, 0, 0), (617, .aload_n 1, 1, 0, 0, 0), (618, .invokevirtual 92, 3, 178, 0, 877), (621, .aload_n 2, 1, 0, 0, 0), (622, .invokevirtual 95, 3, 72, 0, 1263), (625, .if_icmp .eq 133, 3, 758, 0, 0), (628, .iconst 0, 1, 0, 0, 0), (629, .ireturn, 1, 1, 0, 0), (630, .aload_n 1, 1, 0, 0, 0), (631, .aload_n 0, 1, 0, 0, 0), (632, .iload_n 3, 1, 0, 0, 0), (633, .iconst 1, 1, 0, 0, 0), (634, .iadd, 1, 0, 0, 0), (635, .iaload, 1, 0, 0, 0), (636, .invokevirtual 96, 3, 161, 1, 903), (639, .aload_n 2, 1, 0, 0, 0), (640, .aload_n 0, 1, 0, 0, 0), (641, .iload_n 3, 1, 0, 0, 0), (642, .iconst 1, 1, 0, 0, 0), (643, .iadd, 1, 0, 0, 0), (644, .iaload, 1, 0, 0, 0), (645, .invokevirtual 99, 3, 63, 1, 1283), (648, .if_icmp .eq 110, 3, 758, 0, 0), (651, .iconst 0, 1, 0, 0, 0), (652, .ireturn, 1, 1, 0, 0), (653, .aload_n 1, 1, 0, 0, 0), (654, .aload_n 0, 1, 0, 0, 0), (655, .iload_n 3, 1, 0, 0, 0), (656, .iconst 1, 1, 0, 0, 0), (657, .iadd, 1, 0, 0, 0), (658, .iaload, 1, 0, 0, 0), (659, .ifCond .eq 7, 3, 666, 0, 0), (662, .iconst 1, 1, 0, 0, 0), (663, .goto 4, 3, 667, 0, 0), (666, .iconst 0, 1, 0, 0, 0), (667, .aload_n 0, 1, 0, 0, 0), (668, .iload_n 3, 1, 0, 0, 0), (669, .iconst 2, 1, 0, 0, 0), (670, .iadd, 1, 0, 0, 0), (671, .iaload, 1, 0, 0, 0), (672, .invokevirtual 100, 3, 169, 2, 909), (675, .aload_n 2, 1, 0, 0, 0), (676, .aload_n 0, 1, 0, 0, 0), (677, .iload_n 3, 1, 0, 0, 0), (678, .iconst 1, 1, 0, 0, 0), (679, .iadd, 1, 0, 0, 0), (680, .iaload, 1, 0, 0, 0), (681, .ifCond .eq 7, 3, 688, 0, 0), (684, .iconst 1, 1, 0, 0, 0), (685, .goto 4, 3, 689, 0, 0), (688, .iconst 0, 1, 0, 0, 0), (689, .aload_n 0, 1, 0, 0, 0), (690, .iload_n 3, 1, 0, 0, 0), (691, .iconst 2, 1, 0, 0, 0), (692, .iadd, 1, 0, 0, 0), (693, .iaload, 1, 0, 0, 0), (694, .invokevirtual 104, 3, 67, 2, 1291), (697, .if_icmp .eq 61, 3, 758, 0, 0), (700, .iconst 0, 1, 0, 0, 0), (701, .ireturn, 1, 1, 0, 0), (702, .aload_n 1, 1, 0, 0, 0), (703, .aload_n 0, 1, 0, 0, 0), (704, .iload_n 3, 1, 0, 0, 0), (705, .iconst 1, 1, 0, 0, 0), (706, .iadd, 1, 0, 0, 0), (707, .iaload, 1, 0, 0, 0), (708, .aload_n 0, 1, 0, 0, 0), (709, .iload_n 3, 1, 0, 0, 0), (710, .iconst 2, 1, 0, 0, 0), (711, .iadd, 1, 0, 0, 0), (712, .iaload, 1, 0, 0, 0), (713, .invokevirtual 105, 3, 186, 2, 914), (716, .aload_n 2, 1, 0, 0, 0), (717, .aload_n 0, 1, 0, 0, 0), (718, .iload_n 3, 1, 0, 0, 0), (719, .iconst 1, 1, 0, 0, 0), (720, .iadd, 1, 0, 0, 0), (721, .iaload, 1, 0, 0, 0), (722, .aload_n 0, 1, 0, 0, 0), (723, .iload_n 3, 1, 0, 0, 0), (724, .iconst 2, 1, 0, 0, 0), (725, .iadd, 1, 0, 0, 0), (726, .iaload, 1, 0, 0, 0), (727, .invokevirtual 108, 3, 77, 2, 1295), (730, .if_icmp .eq 28, 3, 758, 0, 0), (733, .iconst 0, 1, 0, 0, 0), (734, .ireturn, 1, 1, 0, 0), (735, .aload_n 1, 1, 0, 0, 0), (736, .aload_n 0, 1, 0, 0, 0), (737, .iload_n 3, 1, 0, 0, 0), (738, .iconst 1, 1, 0, 0, 0), (739, .iadd, 1, 0, 0, 0), (740, .iaload, 1, 0, 0, 0), (741, .invokevirtual 109, 3, 136, 1, 928), (744, .aload_n 2, 1, 0, 0, 0), (745, .aload_n 0, 1, 0, 0, 0), (746, .iload_n 3, 1, 0, 0, 0), (747, .iconst 1, 1, 0, 0, 0), (748, .iadd, 1, 0, 0, 0), (749, .iaload, 1, 0, 0, 0), (750, .invokevirtual 112, 3, 46, 1, 1299), (753, .if_icmp .eq 5, 3, 758, 0, 0), (756, .iconst 0, 1, 0, 0, 0), (757, .ireturn, 1, 1, 0, 0), (758, .iinc 3 5, 3, 0, 0, 0), (761, .goto (-743), 3, 18, 0, 0), (764, .iconst 1, 1, 0, 0, 0), (765, .ireturn, 1, 1, 0, 0)]
def qms : List eMI := [(⟨"java/lang/Integer", "signum", "(I)I"⟩, prog_14_method_56_code, 1, some .int, true, (607, 606, 0, 83), 99, 1, 40),
  (⟨"java/util/Arrays", "fill", "([II)V"⟩, prog_17_method_103_code, 4, none, true, (103, 102, 0, 71), 99, 1, 40),
  (⟨"java/util/Arrays", "fill", "([JJ)V"⟩, prog_17_method_101_code, 5, none, true, (489, 488, 0, 71), 99, 1, 40),
  (⟨"java/util/Arrays", "rangeCheck", "(III)V"⟩, prog_17_method_30_code, 3, none, true, (658, 657, 0, 71), 99, 1, 40),
  (⟨"java/util/Arrays", "fill", "([IIII)V"⟩, prog_17_method_104_code, 5, none, true, (655, 654, 0, 71), 99, 2, 62),
  (⟨"java/lang/Math", "abs", "(I)I"⟩, prog_15_method_59_code, 1, some .int, true, (167, 166, 0, 74), 99, 1, 40),
  (⟨"java/lang/Math", "floorDiv", "(JJ)J"⟩, prog_15_method_49_code, 6, some .long, true, (957, 956, 0, 74), 99, 1, 40),
  (⟨"java/lang/Math", "floorMod", "(JJ)J"⟩, prog_15_method_52_code, 6, some .long, true, (954, 953, 0, 74), 99, 1, 40),
  (⟨"java/lang/Math", "max", "(II)I"⟩, prog_15_method_65_code, 2, some .int, true, (140, 139, 0, 74), 99, 1, 40),
  (⟨"java/lang/Math", "min", "(II)I"⟩, prog_15_method_69_code, 2, some .int, true, (587, 586, 0, 74), 99, 1, 40),
  (⟨"java/lang/Math", "min", "(JJ)J"⟩, prog_15_method_70_code, 4, some .long, true, (708, 707, 0, 74), 99, 1, 40),
  (⟨"TensionNetModel", "carry", "(I)V"⟩, prog_13_method_2_code, 5, none, false, (950, 949, 25, 82), 11, 2, 65),
  (⟨"TensionNetModel", "set", "(IJ)V"⟩, prog_13_method_3_code, 5, none, false, (946, 945, 24, 82), 11, 3, 89),
  (⟨"TensionNetModel", "freeOf", "(I)I"⟩, prog_13_method_31_code, 4, some .int, false, (1093, 1092, 31, 82), 11, 1, 40),
  (⟨"TensionNetModel", "kept", "(II)I"⟩, prog_13_method_61_code, 3, some .int, false, (1270, 1269, 63, 82), 11, 1, 40),
  (⟨"TensionNetModel", "more", "(IIJ)V"⟩, prog_13_method_5_code, 6, none, false, (1141, 1140, 42, 82), 11, 3, 89),
  (⟨"TensionNetModel", "apart", "(IIII)V"⟩, prog_13_method_63_code, 5, none, false, (1278, 1277, 65, 82), 11, 4, 114),
  (⟨"TensionNetModel", "isBelow", "(I)Z"⟩, prog_13_method_6_code, 2, some .boolean, false, (1125, 1124, 39, 82), 11, 1, 40),
  (⟨"TensionNetModel", "turn", "(I)V"⟩, prog_13_method_8_code, 3, none, false, (1133, 1132, 41, 82), 11, 3, 89),
  (⟨"TensionNetModel", "bare", "(I[J)V"⟩, prog_13_method_10_code, 5, none, false, (1129, 1128, 40, 82), 11, 4, 111),
  (⟨"TensionNetModel", "copy", "(II)V"⟩, prog_13_method_4_code, 4, none, false, (1113, 1112, 36, 82), 11, 1, 40),
  (⟨"TensionNetModel", "cell", "(II)I"⟩, prog_13_method_33_code, 3, some .int, false, (1097, 1096, 32, 82), 11, 1, 40),
  (⟨"TensionNetModel", "basic", "(II)V"⟩, prog_13_method_39_code, 3, none, false, (1162, 1161, 46, 82), 11, 4, 113),
  (⟨"TensionNetModel", "free", "()I"⟩, prog_13_method_30_code, 3, some .int, false, (1089, 1088, 30, 82), 11, 1, 40),
  (⟨"TensionNetModel", "far", "(III)I"⟩, prog_13_method_32_code, 7, some .int, false, (1101, 1100, 33, 82), 11, 1, 40),
  (⟨"TensionNetModel", "isZero", "(I)Z"⟩, prog_13_method_7_code, 3, some .boolean, false, (1109, 1108, 35, 82), 11, 1, 40),
  (⟨"TensionNetModel", "length", "([J)I"⟩, prog_13_method_11_code, 2, some .int, true, (1136, 1135, 0, 82), 11, 1, 40),
  (⟨"TensionNetModel", "times", "(III)V"⟩, prog_13_method_12_code, 13, none, false, (1121, 1120, 38, 82), 11, 5, 135),
  (⟨"TensionNetModel", "goesInto", "(JII)Z"⟩, prog_13_method_14_code, 10, some .boolean, false, (1150, 1149, 44, 82), 11, 2, 65),
  (⟨"TensionNetModel", "parts", "(II)V"⟩, prog_13_method_13_code, 16, none, false, (1145, 1144, 43, 82), 11, 5, 135),
  (⟨"TensionNetModel", "clears", "(II)V"⟩, prog_13_method_35_code, 4, none, false, (1117, 1116, 37, 82), 11, 6, 170),
  (⟨"TensionNetModel", "clear", "(I)V"⟩, prog_13_method_34_code, 5, none, false, (1105, 1104, 34, 82), 11, 7, 193),
  (⟨"TensionNetModel", "evens", "()V"⟩, prog_13_method_36_code, 5, none, false, (1085, 1084, 29, 82), 11, 8, 217),
  (⟨"TensionNetModel", "isBorne", "()Z"⟩, prog_13_method_48_code, 2, some .boolean, false, (1214, 1213, 54, 82), 11, 9, 241),
  (⟨"TensionNetModel", "isMember", "(I)Z"⟩, prog_13_method_26_code, 2, some .boolean, false, (1077, 1076, 28, 82), 11, 1, 40),
  (⟨"TensionNetModel", "isEven", "(I)Z"⟩, prog_13_method_15_code, 2, some .boolean, false, (1170, 1169, 48, 82), 11, 1, 40),
  (⟨"TensionNetModel", "half", "(I)V"⟩, prog_13_method_16_code, 7, none, false, (1174, 1173, 49, 82), 11, 1, 40),
  (⟨"TensionNetModel", "isLess", "(II)Z"⟩, prog_13_method_17_code, 8, some .boolean, false, (1178, 1177, 50, 82), 11, 1, 40),
  (⟨"TensionNetModel", "result", "(II)V"⟩, prog_13_method_18_code, 6, none, false, (1166, 1165, 47, 82), 11, 6, 170),
  (⟨"TensionNetModel", "bears", "(I)Z"⟩, prog_13_method_50_code, 2, some .boolean, false, (1218, 1216, 1217, 82), 11, 10, 262),
  (⟨"TensionNetModel", "borne", "()I"⟩, prog_13_method_49_code, 1, some .int, false, (1210, 1208, 1209, 82), 11, 10, 262),
  (⟨"TensionNetModel", "cone", "(II)I"⟩, prog_13_method_54_code, 3, some .int, false, (1238, 1237, 56, 82), 11, 1, 40),
  (⟨"TensionNetModel", "sign", "(I)I"⟩, prog_13_method_9_code, 2, some .int, false, (1258, 1257, 61, 82), 11, 2, 62),
  (⟨"TensionNetModel", "product", "(II)I"⟩, prog_13_method_56_code, 4, some .int, false, (1254, 1253, 60, 82), 11, 6, 167),
  (⟨"TensionNetModel", "comes", "(II)V"⟩, prog_13_method_57_code, 4, none, false, (1250, 1249, 59, 82), 11, 7, 190),
  (⟨"TensionNetModel", "comesBoth", "(II)V"⟩, prog_13_method_58_code, 4, none, false, (1246, 1245, 58, 82), 11, 8, 213),
  (⟨"TensionNetModel", "count", "(I)I"⟩, prog_13_method_70_code, 4, some .int, false, (1302, 1300, 1301, 82), 11, 2, 62),
  (⟨"TensionNetModel", "cross", "(III)V"⟩, prog_13_method_55_code, 5, none, false, (1262, 1261, 62, 82), 11, 6, 167),
  (⟨"TensionNetModel", "leftOf", "(IIZ)J"⟩, prog_13_method_44_code, 7, some .long, false, (1202, 1201, 53, 82), 11, 2, 66),
  (⟨"TensionNetModel", "isEvenTold", "(Z)Z"⟩, prog_13_method_45_code, 3, some .boolean, false, (1198, 1197, 52, 82), 11, 3, 92),
  (⟨"TensionNetModel", "even", "()Z"⟩, prog_13_method_46_code, 1, some .boolean, false, (1194, 1192, 1193, 82), 11, 4, 114),
  (⟨"TensionNetModel", "form", "(II)I"⟩, prog_13_method_62_code, 3, some .int, false, (1274, 1273, 64, 82), 11, 1, 40),
  (⟨"TensionNetModel", "freeColumn", "(II)I"⟩, prog_13_method_38_code, 5, some .int, false, (1158, 1157, 45, 82), 11, 1, 40),
  (⟨"TensionNetModel", "<init>", "()V"⟩, prog_13_method_1_code, 1, none, false, (941, 940, 0, 82), 11, 4, 113),
  (⟨"TensionNetModel", "isApart", "(II)Z"⟩, prog_13_method_24_code, 3, some .boolean, false, (1057, 1056, 26, 82), 11, 1, 40),
  (⟨"TensionNetModel", "isJoint", "(I)Z"⟩, prog_13_method_25_code, 2, some .boolean, false, (1066, 1065, 27, 82), 11, 1, 40),
  (⟨"TensionNetModel", "isShaped", "()Z"⟩, prog_13_method_51_code, 12, some .boolean, false, (1226, 1225, 55, 82), 11, 8, 217),
  (⟨"TensionNetModel", "isSlot", "(I)Z"⟩, prog_13_method_19_code, 1, some .boolean, true, (1037, 1036, 0, 82), 11, 1, 40),
  (⟨"TensionNetModel", "isTight", "()Z"⟩, prog_13_method_59_code, 4, some .boolean, false, (1242, 1241, 57, 82), 11, 9, 236),
  (⟨"TensionNetModel", "isTold", "(I)Z"⟩, prog_13_method_27_code, 1, some .boolean, true, (1069, 1068, 0, 82), 11, 1, 40),
  (⟨"TensionNetModel", "left", "(II)Z"⟩, prog_13_method_47_code, 3, some .boolean, false, (1206, 1204, 1205, 82), 11, 7, 195),
  (⟨"TensionNetModel", "load", "(III)I"⟩, prog_13_method_28_code, 4, some .int, false, (1062, 1060, 1061, 82), 11, 2, 61),
  (⟨"TensionNetModel", "manyParts", "([J)I"⟩, prog_13_method_66_code, 3, some .int, false, (1290, 1289, 67, 82), 11, 2, 61),
  (⟨"TensionNetModel", "look", "(I)I"⟩, prog_13_method_67_code, 2, some .int, false, (1286, 1284, 1285, 82), 11, 5, 135),
  (⟨"TensionNetModel", "minor", "(IIIII)V"⟩, prog_13_method_65_code, 6, none, false, (1282, 1281, 66, 82), 11, 6, 167),
  (⟨"TensionNetModel", "moves", "()V"⟩, prog_13_method_37_code, 4, none, false, (1186, 1185, 51, 82), 11, 8, 217),
  (⟨"TensionNetModel", "net", "(I)I"⟩, prog_13_method_23_code, 12, some .int, false, (1049, 1047, 1048, 82), 11, 2, 62),
  (⟨"TensionNetModel", "part", "(ZI)I"⟩, prog_13_method_68_code, 3, some .int, false, (1294, 1292, 1293, 82), 11, 5, 135),
  (⟨"TensionNetModel", "pull", "(II)I"⟩, prog_13_method_29_code, 3, some .int, false, (1073, 1071, 1072, 82), 11, 2, 61),
  (⟨"TensionNetModel", "row", "(III)I"⟩, prog_13_method_20_code, 5, some .int, false, (1034, 1032, 1033, 82), 11, 2, 60),
  (⟨"TensionNetModel", "shape", "(II)Z"⟩, prog_13_method_53_code, 3, some .boolean, false, (1230, 1228, 1229, 82), 11, 9, 248),
  (⟨"TensionNetModel", "shaped", "()Z"⟩, prog_13_method_52_code, 1, some .boolean, false, (1222, 1220, 1221, 82), 11, 9, 248),
  (⟨"TensionNetModel", "stiff", "()I"⟩, prog_13_method_64_code, 6, some .int, false, (1266, 1264, 1265, 82), 11, 9, 240),
  (⟨"TensionNetModel", "stress", "(II)Z"⟩, prog_13_method_41_code, 4, some .boolean, false, (1154, 1152, 1153, 82), 11, 9, 241),
  (⟨"TensionNetModel", "stresses", "()I"⟩, prog_13_method_40_code, 1, some .int, false, (1081, 1079, 1080, 82), 11, 9, 241),
  (⟨"TensionNetModel", "tear", "(I)Z"⟩, prog_13_method_21_code, 2, some .boolean, false, (1041, 1039, 1040, 82), 11, 2, 60),
  (⟨"TensionNetModel", "tight", "()I"⟩, prog_13_method_60_code, 4, some .int, false, (1234, 1232, 1233, 82), 11, 10, 259),
  (⟨"TensionNetModel", "told", "(II)I"⟩, prog_13_method_69_code, 3, some .int, false, (1298, 1296, 1297, 82), 11, 9, 241),
  (⟨"TensionNetModel", "way", "(III)Z"⟩, prog_13_method_43_code, 5, some .boolean, false, (1190, 1188, 1189, 82), 11, 9, 240),
  (⟨"TensionNetModel", "ways", "()I"⟩, prog_13_method_42_code, 1, some .int, false, (1182, 1180, 1181, 82), 11, 9, 240),
  (⟨"TensionNetModel", "write", "(IIJ)I"⟩, prog_13_method_22_code, 6, some .int, false, (1045, 1043, 1044, 82), 11, 2, 60),
  (⟨"TensionNet$Cone", "allReached", "()Z"⟩, prog_2_method_5_code, 3, some .boolean, false, (850, 849, 18, 78), 0, 1, 40),
  (⟨"TensionNet$Whole", "clear", "()V"⟩, prog_11_method_5_code, 1, none, false, (625, 623, 624, 73), 9, 1, 40),
  (⟨"TensionNet$Grid", "freeColumn", "(I)I"⟩, prog_7_method_12_code, 4, some .int, false, (730, 729, 12, 77), 5, 1, 40),
  (⟨"TensionNet$Whole", "become", "(LTensionNet$Whole;)V"⟩, prog_11_method_7_code, 2, none, false, (686, 684, 685, 73), 9, 2, 61),
  (⟨"TensionNet$Grid", "holds", "(II)Z"⟩, prog_7_method_3_code, 3, some .boolean, false, (604, 603, 5, 77), 5, 1, 40),
  (⟨"TensionNet$Grid", "fetch", "(LTensionNet$Whole;II)V"⟩, prog_7_method_4_code, 5, none, false, (621, 619, 620, 77), 5, 2, 62),
  (⟨"TensionNet$Whole", "turn", "()V"⟩, prog_11_method_8_code, 1, none, false, (734, 732, 733, 73), 9, 1, 40),
  (⟨"TensionNet$Grid", "fetchFree", "(LTensionNet$Whole;II)V"⟩, prog_7_method_13_code, 5, none, false, (726, 724, 725, 77), 5, 3, 86),
  (⟨"TensionNet$Cone", "begin", "(LTensionNet$Net;LTensionNet$Grid;)V"⟩, prog_2_method_3_code, 6, none, false, (844, 843, 17, 78), 0, 4, 110),
  (⟨"TensionNet$Whole", "<init>", "(I)V"⟩, prog_11_method_1_code, 2, none, false, (136, 135, 0, 73), 9, 2, 61),
  (⟨"TensionNet$Triple", "<init>", "(I)V"⟩, prog_10_method_1_code, 3, none, false, (303, 302, 0, 79), 8, 3, 82),
  (⟨"TensionNet$Cone", "<init>", "()V"⟩, prog_2_method_1_code, 2, none, false, (296, 295, 0, 78), 0, 4, 104),
  (⟨"TensionNet$Triple", "isNought", "()Z"⟩, prog_10_method_2_code, 3, some .boolean, false, (858, 856, 857, 79), 8, 1, 40),
  (⟨"TensionNet$Whole", "fit", "(I)I"⟩, prog_11_method_9_code, 2, some .int, false, (652, 651, 9, 73), 9, 1, 40),
  (⟨"TensionNet$Whole", "trim", "(I)V"⟩, prog_11_method_10_code, 3, none, false, (663, 661, 662, 73), 9, 1, 40),
  (⟨"TensionNet$Whole", "becomeProduct", "(LTensionNet$Whole;LTensionNet$Whole;)V"⟩, prog_11_method_11_code, 10, none, false, (648, 646, 647, 73), 9, 3, 86),
  (⟨"TensionNet$Whole", "compareSize", "(LTensionNet$Whole;)I"⟩, prog_11_method_13_code, 3, some .int, false, (671, 669, 670, 73), 9, 1, 40),
  (⟨"TensionNet$Whole", "partAt", "(I)I"⟩, prog_11_method_3_code, 2, some .int, false, (675, 673, 674, 73), 9, 1, 40),
  (⟨"TensionNet$Whole", "join", "(LTensionNet$Whole;Z)V"⟩, prog_11_method_12_code, 12, none, false, (667, 665, 666, 73), 9, 2, 62),
  (⟨"TensionNet$Whole", "sign", "()I"⟩, prog_11_method_2_code, 1, some .int, false, (632, 630, 631, 73), 9, 1, 40),
  (⟨"TensionNet$Cone", "signOfProduct", "(LTensionNet$Triple;LTensionNet$Triple;)I"⟩, prog_2_method_7_code, 4, some .int, false, (862, 861, 20, 78), 0, 4, 115),
  (⟨"TensionNet$Cone", "tryRay", "(LTensionNet$Triple;)V"⟩, prog_2_method_6_code, 4, none, false, (854, 853, 19, 78), 0, 5, 138),
  (⟨"TensionNet$Triple", "becomeCross", "(LTensionNet$Triple;LTensionNet$Triple;LTensionNet$Whole;)V"⟩, prog_10_method_3_code, 7, none, false, (870, 868, 869, 79), 8, 4, 115),
  (⟨"TensionNet$Cone", "tryPlane", "()V"⟩, prog_2_method_4_code, 2, none, false, (876, 875, 21, 78), 0, 6, 161),
  (⟨"TensionNet$Cone", "isOpen", "(LTensionNet$Net;LTensionNet$Grid;)Z"⟩, prog_2_method_2_code, 6, some .boolean, false, (840, 838, 839, 78), 0, 7, 182),
  (⟨"TensionNet$Grid", "begin", "(III)V"⟩, prog_7_method_2_code, 4, none, false, (584, 582, 583, 77), 5, 2, 63),
  (⟨"TensionNet$Net", "isFixed", "(I)Z"⟩, prog_8_method_4_code, 2, some .boolean, false, (596, 594, 595, 81), 6, 1, 40),
  (⟨"TensionNet$Net", "moveOf", "(II)I"⟩, prog_8_method_9_code, 3, some .int, false, (592, 590, 591, 81), 6, 2, 61),
  (⟨"TensionNet$Net", "span", "(II)I"⟩, prog_8_method_8_code, 3, some .int, false, (540, 539, 2, 81), 6, 1, 40),
  (⟨"TensionNet$Grid", "add", "(III)V"⟩, prog_7_method_6_code, 6, none, false, (600, 598, 599, 77), 5, 2, 62),
  (⟨"TensionNet$Net", "fillForces", "(LTensionNet$Grid;)V"⟩, prog_8_method_12_code, 4, none, false, (580, 578, 579, 81), 6, 3, 87),
  (⟨"TensionNet$Whole", "become", "(I)V"⟩, prog_11_method_6_code, 2, none, false, (164, 162, 163, 73), 9, 2, 60),
  (⟨"TensionNet$Grid", "firstRowWith", "(I)I"⟩, prog_7_method_8_code, 3, some .int, false, (617, 616, 6, 77), 5, 1, 40),
  (⟨"TensionNet$Grid", "store", "(IILTensionNet$Whole;)V"⟩, prog_7_method_5_code, 6, none, false, (640, 638, 639, 77), 5, 2, 62),
  (⟨"TensionNet$Grid", "swapRows", "(II)V"⟩, prog_7_method_9_code, 4, none, false, (636, 635, 7, 77), 5, 3, 87),
  (⟨"TensionNet$Whole", "shrink", "(I)I"⟩, prog_11_method_15_code, 7, some .int, false, (692, 690, 691, 73), 9, 2, 62),
  (⟨"TensionNet$Whole", "scale", "(I)V"⟩, prog_11_method_14_code, 8, none, false, (698, 696, 697, 73), 9, 2, 62),
  (⟨"TensionNet$Divider", "giveBack", "([II)V"⟩, prog_4_method_4_code, 6, none, false, (712, 711, 11, 76), 2, 1, 40),
  (⟨"TensionNet$Divider", "takeDigit", "([II)I"⟩, prog_4_method_3_code, 14, some .int, false, (703, 702, 10, 76), 2, 2, 65),
  (⟨"TensionNet$Divider", "divide", "(LTensionNet$Whole;LTensionNet$Whole;)V"⟩, prog_4_method_2_code, 8, none, false, (680, 678, 679, 76), 2, 3, 98),
  (⟨"TensionNet$Grid", "clearCell", "(II)V"⟩, prog_7_method_10_code, 4, none, false, (644, 643, 8, 77), 5, 4, 125),
  (⟨"TensionNet$Grid", "reduce", "()V"⟩, prog_7_method_7_code, 4, none, false, (612, 610, 611, 77), 5, 5, 148),
  (⟨"TensionNet", "knowForces", "(Z)V"⟩, prog_1_method_28_code, 2, none, false, (576, 575, 4, 69), 10, 6, 171),
  (⟨"TensionNet$Net", "hasMember", "(I)Z"⟩, prog_8_method_3_code, 2, some .boolean, false, (568, 566, 567, 81), 6, 1, 40),
  (⟨"TensionNet$Grid", "isSolved", "(I)Z"⟩, prog_7_method_14_code, 3, some .boolean, false, (803, 801, 802, 77), 5, 2, 62),
  (⟨"TensionNet$Grid", "fetchSolution", "(LTensionNet$Whole;II)V"⟩, prog_7_method_15_code, 4, none, false, (811, 809, 810, 77), 5, 3, 86),
  (⟨"TensionNet$Divider", "commonOf", "(LTensionNet$Whole;LTensionNet$Whole;)LTensionNet$Whole;"⟩, prog_4_method_5_code, 7, some (.object "TensionNet$Whole"), false, (744, 742, 743, 76), 2, 4, 125),
  (⟨"TensionNet$Whole", "isOne", "()Z"⟩, prog_11_method_4_code, 1, some .boolean, false, (749, 747, 748, 73), 9, 1, 40),
  (⟨"TensionNet$Fraction", "lower", "(LTensionNet$Whole;LTensionNet$Whole;LTensionNet$Divider;)V"⟩, prog_6_method_4_code, 4, none, false, (753, 752, 13, 72), 4, 4, 125),
  (⟨"TensionNet$Fraction", "become", "(LTensionNet$Whole;LTensionNet$Whole;LTensionNet$Divider;)V"⟩, prog_6_method_3_code, 5, none, false, (738, 736, 737, 72), 4, 5, 151),
  (⟨"TensionNet", "bears", "(I)Z"⟩, prog_1_method_15_code, 2, some .boolean, false, (807, 805, 806, 69), 10, 7, 192),
  (⟨"TensionNet$Grid", "freeColumns", "()I"⟩, prog_7_method_11_code, 1, some .int, false, (718, 716, 717, 77), 5, 1, 40),
  (⟨"TensionNet", "borne", "()I"⟩, prog_1_method_14_code, 1, some .int, false, (799, 797, 798, 69), 10, 7, 192),
  (⟨"TensionNet$Slots", "isFilled", "(I)Z"⟩, prog_9_method_4_code, 2, some .boolean, false, (497, 495, 496, 70), 7, 1, 40),
  (⟨"TensionNet$Slots", "filled", "()I"⟩, prog_9_method_5_code, 3, some .int, false, (935, 933, 934, 70), 7, 2, 61),
  (⟨"TensionNet", "count", "(I)I"⟩, prog_1_method_23_code, 2, some .int, false, (931, 929, 930, 69), 10, 3, 83),
  (⟨"TensionNet$Net", "pullsAt", "(II)I"⟩, prog_8_method_10_code, 5, some .int, false, (786, 784, 785, 81), 6, 2, 62),
  (⟨"TensionNet$Net", "isEven", "(Z)Z"⟩, prog_8_method_11_code, 5, some .boolean, false, (782, 780, 781, 81), 6, 3, 86),
  (⟨"TensionNet", "even", "()Z"⟩, prog_1_method_12_code, 1, some .boolean, false, (778, 776, 777, 69), 10, 4, 110),
  (⟨"TensionNet", "forgetNet", "()V"⟩, prog_1_method_27_code, 1, none, false, (549, 548, 3, 69), 10, 1, 40),
  (⟨"TensionNet$Slots", "<init>", "()V"⟩, prog_9_method_1_code, 1, none, false, (97, 96, 0, 70), 7, 2, 63),
  (⟨"TensionNet$Fraction", "<init>", "()V"⟩, prog_6_method_1_code, 1, none, false, (130, 129, 0, 72), 4, 3, 82),
  (⟨"TensionNet$Divider", "<init>", "()V"⟩, prog_4_method_1_code, 1, none, false, (190, 189, 0, 76), 2, 3, 82),
  (⟨"TensionNet$Desk", "<init>", "()V"⟩, prog_3_method_1_code, 1, none, false, (184, 183, 0, 75), 1, 4, 102),
  (⟨"TensionNet$Grid", "<init>", "(IIILTensionNet$Desk;)V"⟩, prog_7_method_1_code, 5, none, false, (245, 244, 0, 77), 5, 3, 82),
  (⟨"TensionNet$Form", "<init>", "(LTensionNet$Desk;)V"⟩, prog_5_method_1_code, 2, none, false, (345, 344, 0, 80), 3, 4, 106),
  (⟨"TensionNet$Net", "<init>", "()V"⟩, prog_8_method_1_code, 1, none, false, (376, 375, 0, 81), 6, 1, 40),
  (⟨"TensionNet", "<init>", "()V"⟩, prog_1_method_1_code, 1, none, false, (89, 88, 0, 69), 10, 5, 127),
  (⟨"TensionNet", "isAxis", "(I)Z"⟩, prog_1_method_25_code, 1, some .boolean, true, (773, 772, 0, 69), 10, 1, 40),
  (⟨"TensionNet", "isSlot", "(I)Z"⟩, prog_1_method_24_code, 1, some .boolean, true, (482, 481, 0, 69), 10, 1, 40),
  (⟨"TensionNet", "isStrength", "(I)Z"⟩, prog_1_method_26_code, 1, some .boolean, true, (560, 559, 0, 69), 10, 1, 40),
  (⟨"TensionNet$Net", "fillMoves", "(LTensionNet$Grid;)V"⟩, prog_8_method_13_code, 4, none, false, (766, 764, 765, 81), 6, 3, 87),
  (⟨"TensionNet", "knowMoves", "()V"⟩, prog_1_method_29_code, 1, none, false, (762, 761, 14, 69), 10, 6, 171),
  (⟨"TensionNet$Net", "addHold", "(LTensionNet$Grid;III)V"⟩, prog_8_method_15_code, 5, none, false, (827, 826, 16, 81), 6, 3, 87),
  (⟨"TensionNet$Net", "fillPlaces", "(LTensionNet$Grid;)V"⟩, prog_8_method_14_code, 3, none, false, (823, 821, 822, 81), 6, 4, 111),
  (⟨"TensionNet", "knowPlaces", "()V"⟩, prog_1_method_30_code, 1, none, false, (819, 818, 15, 69), 10, 6, 171),
  (⟨"TensionNet$Net", "hasJoint", "(I)Z"⟩, prog_8_method_2_code, 2, some .boolean, false, (557, 555, 556, 81), 6, 1, 40),
  (⟨"TensionNet$Fraction", "become", "(I)V"⟩, prog_6_method_2_code, 2, none, false, (795, 793, 794, 72), 4, 3, 81),
  (⟨"TensionNet", "left", "(II)Z"⟩, prog_1_method_13_code, 3, some .boolean, false, (790, 788, 789, 69), 10, 4, 102),
  (⟨"TensionNet", "load", "(III)I"⟩, prog_1_method_6_code, 4, some .int, false, (553, 551, 552, 69), 10, 2, 61),
  (⟨"TensionNet", "look", "(I)I"⟩, prog_1_method_20_code, 2, some .int, false, (906, 904, 905, 69), 10, 2, 61),
  (⟨"TensionNet$Slots", "beginReading", "(I)V"⟩, prog_9_method_8_code, 2, none, false, (520, 518, 519, 70), 7, 1, 40),
  (⟨"TensionNet$Slots", "next", "(II)I"⟩, prog_9_method_9_code, 5, some .int, false, (532, 530, 531, 70), 7, 1, 40),
  (⟨"TensionNet$Net", "readJoints", "(LTensionNet$Slots;)V"⟩, prog_8_method_6_code, 4, none, false, (528, 527, 0, 81), 6, 2, 64),
  (⟨"TensionNet$Slots", "refuse", "()V"⟩, prog_9_method_10_code, 1, none, false, (544, 542, 543, 70), 7, 1, 40),
  (⟨"TensionNet$Net", "readMembers", "(LTensionNet$Slots;)V"⟩, prog_8_method_7_code, 3, none, false, (536, 535, 1, 81), 6, 2, 64),
  (⟨"TensionNet$Net", "readFrom", "(LTensionNet$Slots;)V"⟩, prog_8_method_5_code, 2, none, false, (524, 522, 523, 81), 6, 3, 87),
  (⟨"TensionNet", "net", "(I)I"⟩, prog_1_method_5_code, 3, some .int, false, (516, 514, 515, 69), 10, 4, 108),
  (⟨"TensionNet", "part", "(ZI)I"⟩, prog_1_method_21_code, 3, some .int, false, (912, 910, 911, 69), 10, 2, 61),
  (⟨"TensionNet", "pull", "(II)I"⟩, prog_1_method_7_code, 3, some .int, false, (564, 562, 563, 69), 10, 2, 61),
  (⟨"TensionNet$Slots", "make", "(III)V"⟩, prog_9_method_2_code, 4, none, false, (486, 484, 485, 70), 7, 2, 64),
  (⟨"TensionNet", "row", "(III)I"⟩, prog_1_method_2_code, 4, some .int, false, (479, 477, 478, 69), 10, 3, 87),
  (⟨"TensionNet", "shape", "(II)Z"⟩, prog_1_method_17_code, 3, some .boolean, false, (831, 829, 830, 69), 10, 7, 191),
  (⟨"TensionNet", "shaped", "()Z"⟩, prog_1_method_16_code, 1, some .boolean, false, (815, 813, 814, 69), 10, 7, 191),
  (⟨"TensionNet$Form", "fetchGap", "(LTensionNet$Whole;LTensionNet$Grid;III)V"⟩, prog_5_method_4_code, 6, none, false, (897, 896, 23, 80), 3, 4, 110),
  (⟨"TensionNet$Form", "addUp", "(LTensionNet$Net;LTensionNet$Grid;II)V"⟩, prog_5_method_3_code, 9, none, false, (890, 889, 22, 80), 3, 5, 135),
  (⟨"TensionNet$Form", "isAboveNought", "(LTensionNet$Net;LTensionNet$Grid;)Z"⟩, prog_5_method_2_code, 6, some .boolean, false, (884, 882, 883, 80), 3, 6, 171),
  (⟨"TensionNet", "stiff", "()I"⟩, prog_1_method_19_code, 1, some .int, false, (880, 878, 879, 69), 10, 7, 196),
  (⟨"TensionNet", "stress", "(II)Z"⟩, prog_1_method_9_code, 3, some .boolean, false, (722, 720, 721, 69), 10, 7, 192),
  (⟨"TensionNet", "stresses", "()I"⟩, prog_1_method_8_code, 1, some .int, false, (572, 570, 571, 69), 10, 7, 192),
  (⟨"TensionNet$Slots", "drop", "(I)V"⟩, prog_9_method_3_code, 2, none, false, (501, 499, 500, 70), 7, 1, 40),
  (⟨"TensionNet", "tear", "(I)Z"⟩, prog_1_method_3_code, 2, some .boolean, false, (493, 491, 492, 69), 10, 2, 61),
  (⟨"TensionNet", "tight", "()I"⟩, prog_1_method_18_code, 1, some .int, false, (836, 834, 835, 69), 10, 8, 207),
  (⟨"TensionNet$Net", "ofJoint", "(II)I"⟩, prog_8_method_16_code, 3, some .int, false, (921, 919, 920, 81), 6, 2, 61),
  (⟨"TensionNet$Net", "ofMember", "(II)I"⟩, prog_8_method_17_code, 3, some .int, false, (926, 924, 925, 81), 6, 2, 61),
  (⟨"TensionNet", "told", "(II)I"⟩, prog_1_method_22_code, 3, some .int, false, (917, 915, 916, 69), 10, 7, 192),
  (⟨"TensionNet", "way", "(III)Z"⟩, prog_1_method_11_code, 4, some .boolean, false, (770, 768, 769, 69), 10, 7, 191),
  (⟨"TensionNet", "ways", "()I"⟩, prog_1_method_10_code, 1, some .int, false, (758, 756, 757, 69), 10, 7, 191),
  (⟨"TensionNet$Slots", "cut", "(JI)J"⟩, prog_9_method_7_code, 3, some .long, true, (512, 511, 0, 70), 7, 1, 40),
  (⟨"TensionNet$Slots", "put", "(IIJ)Z"⟩, prog_9_method_6_code, 5, some .boolean, false, (509, 507, 508, 70), 7, 2, 62),
  (⟨"TensionNet", "write", "(IIJ)I"⟩, prog_1_method_4_code, 5, some .int, false, (505, 503, 504, 69), 10, 3, 86),
  (⟨"TensionNetLaw", "law", "([I)Z"⟩, code, 4, some .boolean, true, (0, 0, 0, 0), 99, 12, 490)]
def qm (k : Nat) : eMI := qms.getD k (⟨"", "", ""⟩, ⟨#[]⟩, 0, none, true, (0, 0, 0, 0), 99, 0, 0)
def qts : List (List eRow) := [qt0, qt1, qt2, qt3, qt4, qt5, qt6, qt7, qt8, qt9, qt10, qt11, qt12, qt13, qt14, qt15, qt16, qt17, qt18, qt19, qt20, qt21, qt22, qt23, qt24, qt25, qt26, qt27, qt28, qt29, qt30, qt31, qt32, qt33, qt34, qt35, qt36, qt37, qt38, qt39, qt40, qt41, qt42, qt43, qt44, qt45, qt46, qt47, qt48, qt49, qt50, qt51, qt52, qt53, qt54, qt55, qt56, qt57, qt58, qt59, qt60, qt61, qt62, qt63, qt64, qt65, qt66, qt67, qt68, qt69, qt70, qt71, qt72, qt73, qt74, qt75, qt76, qt77, qt78, qt79, qt80, qt81, qt82, qt83, qt84, qt85, qt86, qt87, qt88, qt89, qt90, qt91, qt92, qt93, qt94, qt95, qt96, qt97, qt98, qt99, qt100, qt101, qt102, qt103, qt104, qt105, qt106, qt107, qt108, qt109, qt110, qt111, qt112, qt113, qt114, qt115, qt116, qt117, qt118, qt119, qt120, qt121, qt122, qt123, qt124, qt125, qt126, qt127, qt128, qt129, qt130, qt131, qt132, qt133, qt134, qt135, qt136, qt137, qt138, qt139, qt140, qt141, qt142, qt143, qt144, qt145, qt146, qt147, qt148, qt149, qt150, qt151, qt152, qt153, qt154, qt155, qt156, qt157, qt158, qt159, qt160, qt161, qt162, qt163, qt164, qt165, qt166, qt167, qt168, qt169, qt170, qt171, qt172, qt173, qt174, qt175, qt176, qt177, qt178, qt179, qt180, qt181, qt182, qt183, qt184, qt185, qt186, qt187, qt188, qt189, qt190, qt191, qt192]
def qt (k : Nat) : List eRow := qts.getD k []
theorem all_td {α : Type} {p : α → Bool} {l : List α} (n : Nat) (h1 : (l.take n).all p = true) (h2 : (l.drop n).all p = true) : l.all p = true := by
  rw [← List.take_append_drop n l, List.all_append, h1, h2]
  rfl
end
section
/-! DETERMINANTS, by expansion along the last row -/
def su (f : Nat → Int) : Nat → Int
  | 0 => 0
  | n + 1 => su f n + f n
theorem su_congr {f g : Nat → Int} : ∀ {n : Nat}, (∀ i, i < n → f i = g i) → su f n = su g n := by
  intro n
  induction n with
  | zero => intro _; rfl
  | succ n ih =>
    intro h
    show su f n + f n = su g n + g n
    rw [ih (fun i hi => h i (by omega)), h n (by omega)]
theorem su_zero {f : Nat → Int} {n : Nat} (h : ∀ i, i < n → f i = 0) : su f n = 0 := by
  induction n with
  | zero => rfl
  | succ n ih =>
    show su f n + f n = 0
    rw [ih (fun i hi => h i (by omega)), h n (by omega)]
    rfl
theorem su_add (f g : Nat → Int) : ∀ n, su (fun i => f i + g i) n = su f n + su g n := by
  intro n
  induction n with
  | zero => rfl
  | succ n ih =>
    show su (fun i => f i + g i) n + (f n + g n) = (su f n + f n) + (su g n + g n)
    rw [ih]
    omega
theorem su_mul (c : Int) (f : Nat → Int) : ∀ n, su (fun i => c * f i) n = c * su f n := by
  intro n
  induction n with
  | zero => exact (Int.mul_zero c).symm
  | succ n ih =>
    show su (fun i => c * f i) n + c * f n = c * (su f n + f n)
    rw [ih, Int.mul_add]
theorem su_neg (f : Nat → Int) (n : Nat) : su (fun i => - f i) n = - su f n := by
  have := su_mul (-1) f n
  rw [Int.neg_one_mul] at this
  rw [← this]
  exact su_congr (fun i _ => by rw [Int.neg_one_mul])
theorem su_swap (H : Nat → Nat → Int) (m : Nat) : ∀ n, su (fun p => su (fun q => H p q) m) n = su (fun q => su (fun p => H p q) n) m := by
  intro n
  induction n with
  | zero =>
    exact (su_zero (fun i _ => rfl)).symm
  | succ n ih =>
    show su (fun p => su (fun q => H p q) m) n + su (fun q => H n q) m = su (fun q => su (fun p => H p q) n + H n q) m
    rw [ih, su_add]
theorem su_anti {H : Nat → Nat → Int} {n : Nat} (h : ∀ p q, p < n → q < n → H q p = - H p q) : su (fun p => su (fun q => H p q) n) n = 0 := by
  have h1 := su_swap H n n
  have h2 : su (fun q => su (fun p => H p q) n) n = - su (fun p => su (fun q => H p q) n) n := by
    rw [← su_neg]
    refine su_congr fun q hq => ?_
    rw [← su_neg]
    exact su_congr fun p hp => by rw [h q p hq hp]
  omega
theorem su_skip (f : Nat → Int) (t : Nat) : ∀ m, t ≤ m → su (fun q => if q = t then 0 else f (if q < t then q else q - 1)) (m + 1) = su f m := by
  intro m
  induction m with
  | zero =>
    intro h
    have : t = 0 := by omega
    subst this
    rfl
  | succ m ih =>
    intro h
    show su (fun q => if q = t then 0 else f (if q < t then q else q - 1)) (m + 1) + (if m + 1 = t then 0 else f (if m + 1 < t then m + 1 else m + 1 - 1)) = su f m + f m
    by_cases ht : t = m + 1
    · subst ht
      rw [if_pos rfl, Int.add_zero]
      have e : su f (m + 1) = su f m + f m := rfl
      rw [← e]
      refine su_congr fun i hi => ?_
      rw [if_neg (by omega), if_pos hi]
    · rw [ih (by omega), if_neg (by omega), if_neg (by omega), Nat.add_sub_cancel]
def sg (n : Nat) : Int := if n % 2 = 0 then 1 else -1
theorem sg_add2 (n : Nat) : sg (n + 1) = - sg n := by
  unfold sg
  by_cases h : n % 2 = 0
  · rw [if_pos h, if_neg (by omega)]
  · rw [if_neg h, if_pos (by omega)]; rfl
theorem sg_even {n m : Nat} (h : n % 2 = m % 2) : sg n = sg m := by
  unfold sg
  rw [h]
theorem sg_mul (n m : Nat) : sg n * sg m = sg (n + m) := by
  unfold sg
  by_cases h1 : n % 2 = 0 <;> by_cases h2 : m % 2 = 0
  · rw [if_pos h1, if_pos h2, if_pos (by omega)]; rfl
  · rw [if_pos h1, if_neg h2, if_neg (by omega)]; rfl
  · rw [if_neg h1, if_pos h2, if_neg (by omega)]; rfl
  · rw [if_neg h1, if_neg h2, if_pos (by omega)]; rfl
def skp (t u : Nat) : Nat := if u < t then u else u + 1
def Dt : Nat → (Nat → Nat → Int) → Int
  | 0, _ => 1
  | k + 1, R => su (fun t => sg (k + t) * Dt k (fun s u => R s (skp t u)) * R k t) (k + 1)
theorem Dt_congr : ∀ {k : Nat} {R R' : Nat → Nat → Int}, (∀ s t, s < k → t < k → R s t = R' s t) → Dt k R = Dt k R' := by
  intro k
  induction k with
  | zero => intro R R' _; rfl
  | succ k ih =>
    intro R R' h
    refine su_congr fun t ht => ?_
    rw [ih (R := fun s u => R s (skp t u)) (R' := fun s u => R' s (skp t u)) (fun s u hs hu => h s _ (by omega) (by unfold skp; split <;> omega)), h k t (by omega) ht]
/-- a row put at place k -/
def rp (R : Nat → Nat → Int) (k : Nat) (v : Nat → Int) : Nat → Nat → Int := fun s t => if s = k then v t else R s t
def cof (R : Nat → Nat → Int) (k t : Nat) : Int := sg (k + t) * Dt k (fun s u => R s (skp t u))
theorem Dt_rp (R : Nat → Nat → Int) (k : Nat) (v : Nat → Int) : Dt (k + 1) (rp R k v) = su (fun t => cof R k t * v t) (k + 1) := by
  refine su_congr fun t ht => ?_
  unfold cof
  rw [Dt_congr (R := fun s u => rp R k v s (skp t u)) (R' := fun s u => R s (skp t u)) (fun s u hs _ => if_neg (by omega))]
  rw [show rp R k v k t = v t from if_pos rfl]
theorem Dt_add (R : Nat → Nat → Int) (k : Nat) (v w : Nat → Int) : Dt (k + 1) (rp R k (fun t => v t + w t)) = Dt (k + 1) (rp R k v) + Dt (k + 1) (rp R k w) := by
  rw [Dt_rp, Dt_rp, Dt_rp, ← su_add]
  exact su_congr fun t _ => Int.mul_add _ _ _
theorem Dt_smul (R : Nat → Nat → Int) (k : Nat) (c : Int) (v : Nat → Int) : Dt (k + 1) (rp R k (fun t => c * v t)) = c * Dt (k + 1) (rp R k v) := by
  rw [Dt_rp, Dt_rp, ← su_mul]
  exact su_congr fun t _ => Int.mul_left_comm _ _ _
theorem Dt_last {R : Nat → Nat → Int} {k : Nat} {v : Nat → Int} (h : ∀ t, t < k → v t = 0) : Dt (k + 1) (rp R k v) = v k * Dt k R := by
  rw [Dt_rp]
  show su _ k + cof R k k * v k = _
  rw [su_zero (fun i hi => by rw [h i hi, Int.mul_zero]), Int.zero_add]
  unfold cof
  rw [show sg (k + k) = 1 by unfold sg; rw [if_pos (by omega)], Int.one_mul, Int.mul_comm, Dt_congr (R' := R)]
  intro s t _ ht
  show R s (skp k t) = R s t
  unfold skp
  rw [if_pos ht]
/-- two rows alike at the end -/
theorem Dt_two (R : Nat → Nat → Int) (k : Nat) (v : Nat → Int) : Dt (k + 2) (rp (rp R k v) (k + 1) v) = 0 := by
  rw [Dt_rp]
  -- the sum over pairs of places
  have hE : ∀ t, t < k + 2 → cof (rp R k v) (k + 1) t * v t = su (fun q => if q = t then 0 else (sg (k + 1 + t) * sg (k + (if q < t then q else q - 1)) * Dt k (fun s x => R s (skp t (skp (if q < t then q else q - 1) x)))) * (v q * v t)) (k + 2) := by
    intro t ht
    unfold cof
    have hin : Dt (k + 1) (fun s u => rp R k v s (skp t u)) = su (fun u => sg (k + u) * Dt k (fun s x => R s (skp t (skp u x))) * v (skp t u)) (k + 1) := by
      refine su_congr fun u hu => ?_
      rw [Dt_congr (R := fun s x => rp R k v s (skp t (skp u x))) (R' := fun s x => R s (skp t (skp u x))) (fun s x hs _ => if_neg (by omega))]
      show _ * rp R k v k (skp t u) = _
      rw [show rp R k v k (skp t u) = v (skp t u) from if_pos rfl]
    rw [hin, ← su_skip _ t (k + 1) (by omega)]
    rw [Int.mul_assoc, Int.mul_comm _ (v t), ← Int.mul_assoc, ← su_mul]
    refine su_congr fun q hq => ?_
    by_cases hqt : q = t
    · rw [if_pos hqt, if_pos hqt, Int.mul_zero]
    · rw [if_neg hqt, if_neg hqt]
      have : skp t (if q < t then q else q - 1) = q := by
        unfold skp
        by_cases h1 : q < t
        · rw [if_pos h1, if_pos h1]
        · rw [if_neg h1, if_neg (by omega)]; omega
      rw [this]
      generalize sg (k + 1 + t) = A
      generalize sg (k + (if q < t then q else q - 1)) = B
      generalize Dt k (fun s x => R s (skp t (skp (if q < t then q else q - 1) x))) = E
      grind
  rw [su_congr hE]
  refine su_anti fun p q hp hq => ?_
  by_cases hpq : p = q
  · rw [if_pos hpq, if_pos hpq.symm]; rfl
  · rw [if_neg hpq, if_neg (Ne.symm hpq)]
    have key : ∀ a b, a < b → b < k + 2 → (sg (k + 1 + a) * sg (k + (if b < a then b else b - 1)) * Dt k (fun s x => R s (skp a (skp (if b < a then b else b - 1) x)))) = - (sg (k + 1 + b) * sg (k + (if a < b then a else a - 1)) * Dt k (fun s x => R s (skp b (skp (if a < b then a else a - 1) x)))) := by
      intro a b hab hb
      rw [if_neg (by omega), if_pos hab, sg_mul, sg_mul]
      have e1 : sg (k + 1 + a + (k + (b - 1))) = - sg (k + 1 + b + (k + a)) := by
        rw [← sg_add2]
        exact sg_even (by omega)
      have e2 : Dt k (fun s x => R s (skp a (skp (b - 1) x))) = Dt k (fun s x => R s (skp b (skp a x))) := by
        refine Dt_congr fun s x _ _ => ?_
        congr 1
        unfold skp
        by_cases h1 : x < a
        · rw [if_pos (show x < b - 1 by omega), if_pos h1, if_pos (show x < b by omega)]
        · rw [if_neg h1]
          by_cases h2 : x < b - 1
          · rw [if_pos h2, if_neg h1, if_pos (show x + 1 < b by omega)]
          · rw [if_neg h2, if_neg (show ¬ x + 1 < a by omega), if_neg (show ¬ x + 1 < b by omega)]
      rw [e1, e2, Int.neg_mul]
    rcases Nat.lt_or_gt_of_ne hpq with h | h
    · rw [key p q h hq, Int.neg_mul, Int.neg_neg, Int.mul_comm (v p)]
    · rw [key q p h hp, Int.neg_mul, Int.mul_comm (v p)]
theorem Dt_ext {k : Nat} {R R' : Nat → Nat → Int} (h : R = R') : Dt k R = Dt k R' := by rw [h]
theorem rp_self (R : Nat → Nat → Int) (k : Nat) : rp R k (R k) = R := by
  funext s t
  unfold rp
  by_cases h : s = k
  · rw [if_pos h, h]
  · rw [if_neg h]
theorem Dt_add2 (R : Nat → Nat → Int) (k : Nat) (v w u : Nat → Int) : Dt (k + 2) (rp (rp R k (fun t => v t + w t)) (k + 1) u) = Dt (k + 2) (rp (rp R k v) (k + 1) u) + Dt (k + 2) (rp (rp R k w) (k + 1) u) := by
  rw [Dt_rp, Dt_rp, Dt_rp, ← su_add]
  refine su_congr fun t _ => ?_
  unfold cof
  have := Dt_add (fun s x => R s (skp t x)) k (fun x => v (skp t x)) (fun x => w (skp t x))
  have e : ∀ z : Nat → Int, (fun s x => rp R k z s (skp t x)) = rp (fun s x => R s (skp t x)) k (fun x => z (skp t x)) := fun z => rfl
  rw [e, e, e, this]
  grind
theorem Dt_swap (R : Nat → Nat → Int) (k : Nat) (v w : Nat → Int) : Dt (k + 2) (rp (rp R k v) (k + 1) w) = - Dt (k + 2) (rp (rp R k w) (k + 1) v) := by
  have h := Dt_two R k (fun t => v t + w t)
  have h1 := Dt_add2 R k v w (fun t => v t + w t)
  have h2 := Dt_add (rp R k v) (k + 1) v w
  have h3 := Dt_add (rp R k w) (k + 1) v w
  have h4 := Dt_two R k v
  have h5 := Dt_two R k w
  rw [h1] at h
  rw [show Dt (k + 2) (rp (rp R k v) (k + 1) fun t => v t + w t) = _ from h2, show Dt (k + 2) (rp (rp R k w) (k + 1) fun t => v t + w t) = _ from h3] at h
  rw [show Dt (k + 1 + 1) (rp (rp R k v) (k + 1) v) = 0 from h4, show Dt (k + 1 + 1) (rp (rp R k w) (k + 1) w) = 0 from h5] at h
  have h : 0 + Dt (k + 2) (rp (rp R k v) (k + 1) w) + (Dt (k + 2) (rp (rp R k w) (k + 1) v) + 0) = 0 := h
  omega
theorem Dt_eqrow : ∀ {k s : Nat} (R : Nat → Nat → Int), s < k → Dt (k + 1) (rp R k (R s)) = 0 := by
  intro k
  induction k with
  | zero => intro s R h; omega
  | succ k ih =>
    intro s R h
    by_cases hs : s = k
    · subst hs
      have := Dt_two R s (R s)
      rw [rp_self] at this
      exact this
    · have e : rp R (k + 1) (R s) = rp (rp R k (R k)) (k + 1) (R s) := by rw [rp_self]
      rw [e, Dt_swap, Dt_rp, su_zero]
      · rfl
      · intro t _
        unfold cof
        have e2 : (fun s' x => rp R k (R s) s' (skp t x)) = rp (fun s' x => R s' (skp t x)) k ((fun s' x => R s' (skp t x)) s) := rfl
        rw [e2, ih (fun s' x => R s' (skp t x)) (by omega), Int.mul_zero, Int.zero_mul]
theorem Dt_comb0 (R : Nat → Nat → Int) (k : Nat) (μ : Nat → Int) : ∀ n, n ≤ k → Dt (k + 1) (rp R k (fun t => su (fun s => μ s * R s t) n)) = 0 := by
  intro n
  induction n with
  | zero =>
    intro _
    rw [Dt_rp]
    exact su_zero fun t _ => Int.mul_zero _
  | succ n ih =>
    intro h
    have e : (fun t => su (fun s => μ s * R s t) (n + 1)) = (fun t => su (fun s => μ s * R s t) n + μ n * R n t) := rfl
    rw [e, Dt_add, ih (by omega), Dt_smul R k (μ n) (R n), Dt_eqrow R (by omega), Int.mul_zero]
    rfl
theorem Dt_comb (R : Nat → Nat → Int) (k : Nat) (c : Int) (v : Nat → Int) (μ : Nat → Int) (n : Nat) (hn : n ≤ k) : Dt (k + 1) (rp R k (fun t => c * v t + - su (fun s => μ s * R s t) n)) = c * Dt (k + 1) (rp R k v) := by
  rw [Dt_add, Dt_smul]
  have e : (fun t => - su (fun s => μ s * R s t) n) = (fun t => (-1) * su (fun s => μ s * R s t) n) := by
    funext t
    rw [Int.neg_one_mul]
  rw [e, Dt_smul, Dt_comb0 R k μ n hn, Int.mul_zero, Int.add_zero]
/-- where all leading minors are not 0, a row is cleared by those ahead -/
theorem cleared : ∀ (k : Nat) (R : Nat → Nat → Int), (∀ i, i ≤ k → Dt i R ≠ 0) → ∀ v : Nat → Int, ∃ (c : Int) (μ : Nat → Int), c ≠ 0 ∧ ∀ t, t < k → c * v t + - su (fun s => μ s * R s t) k = 0 := by
  intro k
  induction k with
  | zero => intro R _ v; exact ⟨1, fun _ => 0, by decide, fun t h => by omega⟩
  | succ k ih =>
    intro R hR v
    obtain ⟨c, μ, hc, h1⟩ := ih R (fun i hi => hR i (by omega)) v
    obtain ⟨d, ν, hd, h2⟩ := ih R (fun i hi => hR i (by omega)) (R k)
    have hrk : Dt (k + 1) (rp R k (fun t => d * R k t + - su (fun s => ν s * R s t) k)) = d * Dt (k + 1) R := by
      have := Dt_comb R k d (R k) ν k (Nat.le_refl _)
      rw [rp_self] at this
      exact this
    rw [Dt_last h2] at hrk
    have hr : d * R k k + - su (fun s => ν s * R s k) k ≠ 0 := by
      intro h
      rw [h, Int.zero_mul] at hrk
      rcases Int.mul_eq_zero.mp hrk.symm with h3 | h3
      · exact hd h3
      · exact hR (k + 1) (Nat.le_refl _) h3
    generalize hρ : d * R k k + - su (fun s => ν s * R s k) k = ρ at hr
    generalize hω : c * v k + - su (fun s => μ s * R s k) k = ω
    refine ⟨ρ * c, fun s => if s = k then ω * d else ρ * μ s - ω * ν s, fun h => ?_, fun t ht => ?_⟩
    · rcases Int.mul_eq_zero.mp h with h3 | h3
      · exact hr h3
      · exact hc h3
    · have e : su (fun s => (if s = k then ω * d else ρ * μ s - ω * ν s) * R s t) (k + 1) = ρ * su (fun s => μ s * R s t) k - ω * su (fun s => ν s * R s t) k + ω * d * R k t := by
        show su _ k + (if k = k then ω * d else _) * R k t = _
        rw [if_pos rfl]
        congr 1
        rw [Int.sub_eq_add_neg, ← su_mul, ← su_mul, ← su_neg, ← su_add]
        refine su_congr fun s hs => ?_
        rw [if_neg (by omega)]
        grind
      rw [e]
      by_cases htk : t = k
      · subst htk
        generalize su (fun s => μ s * R s t) t = A at *
        generalize su (fun s => ν s * R s t) t = B at *
        subst hρ
        subst hω
        grind
      · have h3 := h1 t (by omega)
        have h4 := h2 t (by omega)
        generalize su (fun s => μ s * R s t) k = A at *
        generalize su (fun s => ν s * R s t) k = B at *
        have hA : A = c * v t := by omega
        have hB : B = d * R k t := by omega
        rw [hA, hB]
        grind
/-- the last place's column in place of the k-th -/
def sj (k u : Nat) : Nat := if u = k then k + 1 else u
def ec (k : Nat) (R : Nat → Nat → Int) (v : Nat → Int) : Int := Dt (k + 1) (rp R k v)
def ej (k : Nat) (R : Nat → Nat → Int) (v : Nat → Int) : Int := Dt (k + 1) (rp (fun s u => R s (sj k u)) k (fun u => v (sj k u)))
theorem Dt_sj (k : Nat) (R : Nat → Nat → Int) : Dt k (fun s u => R s (sj k u)) = Dt k R := Dt_congr fun s t _ ht => by
  unfold sj
  rw [if_neg (by omega)]
theorem X_last {k : Nat} {R : Nat → Nat → Int} {v w : Nat → Int} (hw : ∀ t, t < k → w t = 0) : Dt (k + 2) (rp (rp R k v) (k + 1) w) = w (k + 1) * ec k R v - w k * ej k R v := by
  rw [Dt_rp]
  show (su _ k + cof (rp R k v) (k + 1) k * w k) + cof (rp R k v) (k + 1) (k + 1) * w (k + 1) = _
  rw [su_zero (fun i hi => by rw [hw i hi, Int.mul_zero]), Int.zero_add]
  have e1 : cof (rp R k v) (k + 1) (k + 1) = ec k R v := by
    unfold cof ec
    rw [show sg (k + 1 + (k + 1)) = 1 by unfold sg; rw [if_pos (by omega)], Int.one_mul]
    refine Dt_congr fun s t _ ht => ?_
    show rp R k v s (skp (k + 1) t) = rp R k v s t
    unfold skp
    rw [if_pos ht]
  have e2 : cof (rp R k v) (k + 1) k = - ej k R v := by
    unfold cof ej
    rw [show sg (k + 1 + k) = -1 by unfold sg; rw [if_neg (by omega)], Int.neg_one_mul]
    congr 1
    refine Dt_congr fun s t _ ht => ?_
    show rp R k v s (skp k t) = rp (fun s u => R s (sj k u)) k (fun u => v (sj k u)) s t
    unfold rp skp sj
    dsimp only
    by_cases h1 : t < k
    · rw [if_pos h1, if_neg (show ¬ t = k by omega)]
    · rw [if_neg h1, if_pos (show t = k by omega), show t = k by omega]
  rw [e1, e2]
  grind
theorem ec_comb (k : Nat) (R : Nat → Nat → Int) (c : Int) (v : Nat → Int) (μ : Nat → Int) : ec k R (fun t => c * v t + - su (fun s => μ s * R s t) k) = c * ec k R v := Dt_comb R k c v μ k (Nat.le_refl _)
theorem ej_comb (k : Nat) (R : Nat → Nat → Int) (c : Int) (v : Nat → Int) (μ : Nat → Int) : ej k R (fun t => c * v t + - su (fun s => μ s * R s t) k) = c * ej k R v := Dt_comb (fun s u => R s (sj k u)) k c (fun u => v (sj k u)) μ k (Nat.le_refl _)
theorem X_comb (k : Nat) (R : Nat → Nat → Int) (c : Int) (v w : Nat → Int) (μ : Nat → Int) : Dt (k + 2) (rp (rp R k v) (k + 1) (fun t => c * w t + - su (fun s => μ s * R s t) k)) = c * Dt (k + 2) (rp (rp R k v) (k + 1) w) := by
  have := Dt_comb (rp R k v) (k + 1) c w μ k (by omega)
  have e : (fun t => c * w t + - su (fun s => μ s * rp R k v s t) k) = (fun t => c * w t + - su (fun s => μ s * R s t) k) := by
    funext t
    rw [su_congr (f := fun s => μ s * rp R k v s t) (g := fun s => μ s * R s t) (fun s hs => by rw [show rp R k v s t = R s t from if_neg (by omega)])]
  rw [e] at this
  exact this
/-- Sylvester's identity, as Bareiss's step needs it -/
theorem sylvester {k : Nat} {R : Nat → Nat → Int} (hR : ∀ i, i ≤ k → Dt i R ≠ 0) (v w : Nat → Int) : ec k R v * ej k R w - ec k R w * ej k R v = Dt k R * Dt (k + 2) (rp (rp R k v) (k + 1) w) := by
  obtain ⟨c, μ, hc, h0⟩ := cleared k R hR w
  have hx := X_last (R := R) (v := v) h0
  rw [X_comb] at hx
  have h1 := ec_comb k R c w μ
  have h2 := ej_comb k R c w μ
  have h3 : ec k R (fun t => c * w t + - su (fun s => μ s * R s t) k) = (c * w k + - su (fun s => μ s * R s k) k) * Dt k R := Dt_last h0
  have h4 : ej k R (fun t => c * w t + - su (fun s => μ s * R s t) k) = (c * w (k + 1) + - su (fun s => μ s * R s (k + 1)) k) * Dt k R := by
    unfold ej
    rw [Dt_last (fun t ht => by
      have : sj k t = t := by unfold sj; rw [if_neg (by omega)]
      rw [this]
      exact h0 t ht), Dt_sj]
    have : sj k k = k + 1 := by unfold sj; rw [if_pos rfl]
    rw [this]
  rw [h1] at h3
  rw [h2] at h4
  generalize ec k R v = a at *
  generalize ec k R w = b at *
  generalize ej k R v = p at *
  generalize ej k R w = q at *
  generalize Dt k R = D at *
  generalize Dt (k + 2) (rp (rp R k v) (k + 1) w) = X at *
  generalize c * w k + - su (fun s => μ s * R s k) k = x at *
  generalize c * w (k + 1) + - su (fun s => μ s * R s (k + 1)) k = y at *
  have : c * (a * q - b * p) = c * (D * X) := by
    have e1 : c * (a * q - b * p) = a * (c * q) - (c * b) * p := by grind
    have e2 : c * (D * X) = D * (c * X) := by grind
    rw [e1, e2, h3, h4, hx]
    grind
  exact Int.eq_of_mul_eq_mul_left hc this
/-! bounds -/
def nsu (f : Nat → Nat) : Nat → Nat
  | 0 => 0
  | n + 1 => nsu f n + f n
def npr (f : Nat → Nat) : Nat → Nat
  | 0 => 1
  | n + 1 => npr f n * f n
theorem nsu_le {f g : Nat → Nat} : ∀ {n : Nat}, (∀ i, i < n → f i ≤ g i) → nsu f n ≤ nsu g n := by
  intro n
  induction n with
  | zero => intro _; exact Nat.le_refl _
  | succ n ih =>
    intro h
    exact Nat.add_le_add (ih fun i hi => h i (by omega)) (h n (by omega))
theorem npr_le {f g : Nat → Nat} : ∀ {n : Nat}, (∀ i, i < n → f i ≤ g i) → npr f n ≤ npr g n := by
  intro n
  induction n with
  | zero => intro _; exact Nat.le_refl _
  | succ n ih =>
    intro h
    exact Nat.mul_le_mul (ih fun i hi => h i (by omega)) (h n (by omega))
theorem nsu_mul (c : Nat) (f : Nat → Nat) : ∀ n, nsu (fun i => c * f i) n = c * nsu f n := by
  intro n
  induction n with
  | zero => rfl
  | succ n ih =>
    show nsu (fun i => c * f i) n + c * f n = c * (nsu f n + f n)
    rw [ih, Nat.mul_add]
theorem su_abs (f : Nat → Int) : ∀ n, (su f n).natAbs ≤ nsu (fun i => (f i).natAbs) n := by
  intro n
  induction n with
  | zero => exact Nat.le_refl _
  | succ n ih =>
    show (su f n + f n).natAbs ≤ nsu (fun i => (f i).natAbs) n + (f n).natAbs
    omega
theorem nsu_skp (f : Nat → Nat) (t : Nat) : ∀ n, nsu (fun u => f (skp t u)) n ≤ nsu f (n + 1) := by
  intro n
  induction n with
  | zero => exact Nat.zero_le _
  | succ n ih =>
    by_cases h : n < t
    · have e : nsu (fun u => f (skp t u)) (n + 1) = nsu f (n + 1) := by
        clear ih
        have : ∀ m, m ≤ t → nsu (fun u => f (skp t u)) m = nsu f m := by
          intro m
          induction m with
          | zero => intro _; rfl
          | succ m ih =>
            intro hm
            show nsu (fun u => f (skp t u)) m + f (skp t m) = nsu f m + f m
            rw [ih (by omega)]
            unfold skp
            rw [if_pos (by omega)]
        exact this (n + 1) (by omega)
      rw [e]
      exact Nat.le_add_right _ _
    · show nsu (fun u => f (skp t u)) n + f (skp t n) ≤ nsu f (n + 1) + f (n + 1)
      have : skp t n = n + 1 := by unfold skp; rw [if_neg h]
      rw [this]
      omega
theorem sg_abs (n : Nat) : (sg n).natAbs = 1 := by
  unfold sg
  split <;> rfl
/-- by the sums of the rows -/
theorem Dt_rows : ∀ (k : Nat) (R : Nat → Nat → Int), (Dt k R).natAbs ≤ npr (fun s => nsu (fun t => (R s t).natAbs) k) k := by
  intro k
  induction k with
  | zero => intro R; exact Nat.le_refl _
  | succ k ih =>
    intro R
    refine Nat.le_trans (su_abs _ _) ?_
    show _ ≤ npr _ k * nsu (fun t => (R k t).natAbs) (k + 1)
    rw [← nsu_mul]
    refine nsu_le fun t ht => ?_
    rw [Int.natAbs_mul, Int.natAbs_mul, sg_abs, Nat.one_mul]
    refine Nat.mul_le_mul_right _ (Nat.le_trans (ih _) (npr_le fun s hs => ?_))
    exact nsu_skp (fun u => (R s u).natAbs) t k
end
