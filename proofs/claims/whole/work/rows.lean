section
-- ===== PART A: goes FIRST, ahead of the names: the tables' words, and 'selects' of the private methods out of them =====
/-- a private method of a class that the tables say can be made, by its rows of tables_1 -/
def lw_okq (q : MethodName × Nat) : Prop := (q.1.cls ≠ "java/lang/invoke/MethodHandle" ∧ q.1.cls ≠ "java/lang/invoke/VarHandle") ∧ Cond.instantiable q.1.cls q.2 ∈ tables_1 ∧ Cond.privateMethod q.1 ∈ tables_1 ∧ Cond.instanceMethod q.1 ∈ tables_1
theorem lw_p0 : lw_okq (⟨"TensionNet$Net", "readJoints", "(LTensionNet$Slots;)V"⟩, 10) := ⟨⟨by decide +kernel, by decide +kernel⟩, List.mem_of_getElem? (i := 305) (by decide +kernel), List.mem_of_getElem? (i := 458) (by decide +kernel), List.mem_of_getElem? (i := 459) (by decide +kernel)⟩
theorem lw_p1 : lw_okq (⟨"TensionNet$Net", "readMembers", "(LTensionNet$Slots;)V"⟩, 10) := ⟨⟨by decide +kernel, by decide +kernel⟩, List.mem_of_getElem? (i := 305) (by decide +kernel), List.mem_of_getElem? (i := 466) (by decide +kernel), List.mem_of_getElem? (i := 467) (by decide +kernel)⟩
theorem lw_p2 : lw_okq (⟨"TensionNet$Net", "span", "(II)I"⟩, 10) := ⟨⟨by decide +kernel, by decide +kernel⟩, List.mem_of_getElem? (i := 305) (by decide +kernel), List.mem_of_getElem? (i := 470) (by decide +kernel), List.mem_of_getElem? (i := 471) (by decide +kernel)⟩
theorem lw_p3 : lw_okq (⟨"TensionNet", "forgetNet", "()V"⟩, 17) := ⟨⟨by decide +kernel, by decide +kernel⟩, List.mem_of_getElem? (i := 18) (by decide +kernel), List.mem_of_getElem? (i := 479) (by decide +kernel), List.mem_of_getElem? (i := 480) (by decide +kernel)⟩
theorem lw_p4 : lw_okq (⟨"TensionNet", "knowForces", "(Z)V"⟩, 17) := ⟨⟨by decide +kernel, by decide +kernel⟩, List.mem_of_getElem? (i := 18) (by decide +kernel), List.mem_of_getElem? (i := 506) (by decide +kernel), List.mem_of_getElem? (i := 507) (by decide +kernel)⟩
theorem lw_p5 : lw_okq (⟨"TensionNet$Grid", "holds", "(II)Z"⟩, 13) := ⟨⟨by decide +kernel, by decide +kernel⟩, List.mem_of_getElem? (i := 174) (by decide +kernel), List.mem_of_getElem? (i := 534) (by decide +kernel), List.mem_of_getElem? (i := 535) (by decide +kernel)⟩
theorem lw_p6 : lw_okq (⟨"TensionNet$Grid", "firstRowWith", "(I)I"⟩, 13) := ⟨⟨by decide +kernel, by decide +kernel⟩, List.mem_of_getElem? (i := 174) (by decide +kernel), List.mem_of_getElem? (i := 547) (by decide +kernel), List.mem_of_getElem? (i := 548) (by decide +kernel)⟩
theorem lw_p7 : lw_okq (⟨"TensionNet$Grid", "swapRows", "(II)V"⟩, 13) := ⟨⟨by decide +kernel, by decide +kernel⟩, List.mem_of_getElem? (i := 174) (by decide +kernel), List.mem_of_getElem? (i := 566) (by decide +kernel), List.mem_of_getElem? (i := 567) (by decide +kernel)⟩
theorem lw_p8 : lw_okq (⟨"TensionNet$Grid", "clearCell", "(II)V"⟩, 13) := ⟨⟨by decide +kernel, by decide +kernel⟩, List.mem_of_getElem? (i := 174) (by decide +kernel), List.mem_of_getElem? (i := 574) (by decide +kernel), List.mem_of_getElem? (i := 575) (by decide +kernel)⟩
theorem lw_p9 : lw_okq (⟨"TensionNet$Whole", "fit", "(I)I"⟩, 3) := ⟨⟨by decide +kernel, by decide +kernel⟩, List.mem_of_getElem? (i := 65) (by decide +kernel), List.mem_of_getElem? (i := 582) (by decide +kernel), List.mem_of_getElem? (i := 583) (by decide +kernel)⟩
theorem lw_p10 : lw_okq (⟨"TensionNet$Divider", "takeDigit", "([II)I"⟩, 4) := ⟨⟨by decide +kernel, by decide +kernel⟩, List.mem_of_getElem? (i := 119) (by decide +kernel), List.mem_of_getElem? (i := 633) (by decide +kernel), List.mem_of_getElem? (i := 634) (by decide +kernel)⟩
theorem lw_p11 : lw_okq (⟨"TensionNet$Divider", "giveBack", "([II)V"⟩, 4) := ⟨⟨by decide +kernel, by decide +kernel⟩, List.mem_of_getElem? (i := 119) (by decide +kernel), List.mem_of_getElem? (i := 642) (by decide +kernel), List.mem_of_getElem? (i := 643) (by decide +kernel)⟩
theorem lw_p12 : lw_okq (⟨"TensionNet$Grid", "freeColumn", "(I)I"⟩, 13) := ⟨⟨by decide +kernel, by decide +kernel⟩, List.mem_of_getElem? (i := 174) (by decide +kernel), List.mem_of_getElem? (i := 660) (by decide +kernel), List.mem_of_getElem? (i := 661) (by decide +kernel)⟩
theorem lw_p13 : lw_okq (⟨"TensionNet$Fraction", "lower", "(LTensionNet$Whole;LTensionNet$Whole;LTensionNet$Divider;)V"⟩, 3) := ⟨⟨by decide +kernel, by decide +kernel⟩, List.mem_of_getElem? (i := 59) (by decide +kernel), List.mem_of_getElem? (i := 683) (by decide +kernel), List.mem_of_getElem? (i := 684) (by decide +kernel)⟩
theorem lw_p14 : lw_okq (⟨"TensionNet", "knowMoves", "()V"⟩, 17) := ⟨⟨by decide +kernel, by decide +kernel⟩, List.mem_of_getElem? (i := 18) (by decide +kernel), List.mem_of_getElem? (i := 692) (by decide +kernel), List.mem_of_getElem? (i := 693) (by decide +kernel)⟩
theorem lw_p15 : lw_okq (⟨"TensionNet", "knowPlaces", "()V"⟩, 17) := ⟨⟨by decide +kernel, by decide +kernel⟩, List.mem_of_getElem? (i := 18) (by decide +kernel), List.mem_of_getElem? (i := 749) (by decide +kernel), List.mem_of_getElem? (i := 750) (by decide +kernel)⟩
def lw_privs_1 : List (MethodName × Nat) := [(⟨"TensionNet$Net", "readJoints", "(LTensionNet$Slots;)V"⟩, 10), (⟨"TensionNet$Net", "readMembers", "(LTensionNet$Slots;)V"⟩, 10), (⟨"TensionNet$Net", "span", "(II)I"⟩, 10), (⟨"TensionNet", "forgetNet", "()V"⟩, 17), (⟨"TensionNet", "knowForces", "(Z)V"⟩, 17), (⟨"TensionNet$Grid", "holds", "(II)Z"⟩, 13), (⟨"TensionNet$Grid", "firstRowWith", "(I)I"⟩, 13), (⟨"TensionNet$Grid", "swapRows", "(II)V"⟩, 13), (⟨"TensionNet$Grid", "clearCell", "(II)V"⟩, 13), (⟨"TensionNet$Whole", "fit", "(I)I"⟩, 3), (⟨"TensionNet$Divider", "takeDigit", "([II)I"⟩, 4), (⟨"TensionNet$Divider", "giveBack", "([II)V"⟩, 4), (⟨"TensionNet$Grid", "freeColumn", "(I)I"⟩, 13), (⟨"TensionNet$Fraction", "lower", "(LTensionNet$Whole;LTensionNet$Whole;LTensionNet$Divider;)V"⟩, 3), (⟨"TensionNet", "knowMoves", "()V"⟩, 17), (⟨"TensionNet", "knowPlaces", "()V"⟩, 17)]
theorem lw_r1 : ∀ q ∈ lw_privs_1, lw_okq q := List.forall_mem_cons.mpr ⟨lw_p0, List.forall_mem_cons.mpr ⟨lw_p1, List.forall_mem_cons.mpr ⟨lw_p2, List.forall_mem_cons.mpr ⟨lw_p3, List.forall_mem_cons.mpr ⟨lw_p4, List.forall_mem_cons.mpr ⟨lw_p5, List.forall_mem_cons.mpr ⟨lw_p6, List.forall_mem_cons.mpr ⟨lw_p7, List.forall_mem_cons.mpr ⟨lw_p8, List.forall_mem_cons.mpr ⟨lw_p9, List.forall_mem_cons.mpr ⟨lw_p10, List.forall_mem_cons.mpr ⟨lw_p11, List.forall_mem_cons.mpr ⟨lw_p12, List.forall_mem_cons.mpr ⟨lw_p13, List.forall_mem_cons.mpr ⟨lw_p14, List.forall_mem_cons.mpr ⟨lw_p15, fun _ h => absurd h List.not_mem_nil⟩⟩⟩⟩⟩⟩⟩⟩⟩⟩⟩⟩⟩⟩⟩⟩
theorem lw_p16 : lw_okq (⟨"TensionNet$Net", "addHold", "(LTensionNet$Grid;III)V"⟩, 10) := ⟨⟨by decide +kernel, by decide +kernel⟩, List.mem_of_getElem? (i := 305) (by decide +kernel), List.mem_of_getElem? (i := 757) (by decide +kernel), List.mem_of_getElem? (i := 758) (by decide +kernel)⟩
theorem lw_p17 : lw_okq (⟨"TensionNet$Cone", "begin", "(LTensionNet$Net;LTensionNet$Grid;)V"⟩, 8) := ⟨⟨by decide +kernel, by decide +kernel⟩, List.mem_of_getElem? (i := 225) (by decide +kernel), List.mem_of_getElem? (i := 774) (by decide +kernel), List.mem_of_getElem? (i := 775) (by decide +kernel)⟩
theorem lw_p18 : lw_okq (⟨"TensionNet$Cone", "allReached", "()Z"⟩, 8) := ⟨⟨by decide +kernel, by decide +kernel⟩, List.mem_of_getElem? (i := 225) (by decide +kernel), List.mem_of_getElem? (i := 780) (by decide +kernel), List.mem_of_getElem? (i := 781) (by decide +kernel)⟩
theorem lw_p19 : lw_okq (⟨"TensionNet$Cone", "tryRay", "(LTensionNet$Triple;)V"⟩, 8) := ⟨⟨by decide +kernel, by decide +kernel⟩, List.mem_of_getElem? (i := 225) (by decide +kernel), List.mem_of_getElem? (i := 784) (by decide +kernel), List.mem_of_getElem? (i := 785) (by decide +kernel)⟩
theorem lw_p20 : lw_okq (⟨"TensionNet$Cone", "signOfProduct", "(LTensionNet$Triple;LTensionNet$Triple;)I"⟩, 8) := ⟨⟨by decide +kernel, by decide +kernel⟩, List.mem_of_getElem? (i := 225) (by decide +kernel), List.mem_of_getElem? (i := 792) (by decide +kernel), List.mem_of_getElem? (i := 793) (by decide +kernel)⟩
theorem lw_p21 : lw_okq (⟨"TensionNet$Cone", "tryPlane", "()V"⟩, 8) := ⟨⟨by decide +kernel, by decide +kernel⟩, List.mem_of_getElem? (i := 225) (by decide +kernel), List.mem_of_getElem? (i := 806) (by decide +kernel), List.mem_of_getElem? (i := 807) (by decide +kernel)⟩
theorem lw_p22 : lw_okq (⟨"TensionNet$Form", "addUp", "(LTensionNet$Net;LTensionNet$Grid;II)V"⟩, 6) := ⟨⟨by decide +kernel, by decide +kernel⟩, List.mem_of_getElem? (i := 274) (by decide +kernel), List.mem_of_getElem? (i := 820) (by decide +kernel), List.mem_of_getElem? (i := 821) (by decide +kernel)⟩
theorem lw_p23 : lw_okq (⟨"TensionNet$Form", "fetchGap", "(LTensionNet$Whole;LTensionNet$Grid;III)V"⟩, 6) := ⟨⟨by decide +kernel, by decide +kernel⟩, List.mem_of_getElem? (i := 274) (by decide +kernel), List.mem_of_getElem? (i := 827) (by decide +kernel), List.mem_of_getElem? (i := 828) (by decide +kernel)⟩
theorem lw_p24 : lw_okq (⟨"TensionNetModel", "set", "(IJ)V"⟩, 24) := ⟨⟨by decide +kernel, by decide +kernel⟩, List.mem_of_getElem? (i := 870) (by decide +kernel), List.mem_of_getElem? (i := 876) (by decide +kernel), List.mem_of_getElem? (i := 877) (by decide +kernel)⟩
theorem lw_p25 : lw_okq (⟨"TensionNetModel", "carry", "(I)V"⟩, 24) := ⟨⟨by decide +kernel, by decide +kernel⟩, List.mem_of_getElem? (i := 870) (by decide +kernel), List.mem_of_getElem? (i := 880) (by decide +kernel), List.mem_of_getElem? (i := 881) (by decide +kernel)⟩
theorem lw_p26 : lw_okq (⟨"TensionNetModel", "isApart", "(II)Z"⟩, 24) := ⟨⟨by decide +kernel, by decide +kernel⟩, List.mem_of_getElem? (i := 870) (by decide +kernel), List.mem_of_getElem? (i := 987) (by decide +kernel), List.mem_of_getElem? (i := 988) (by decide +kernel)⟩
theorem lw_p27 : lw_okq (⟨"TensionNetModel", "isJoint", "(I)Z"⟩, 24) := ⟨⟨by decide +kernel, by decide +kernel⟩, List.mem_of_getElem? (i := 870) (by decide +kernel), List.mem_of_getElem? (i := 996) (by decide +kernel), List.mem_of_getElem? (i := 997) (by decide +kernel)⟩
theorem lw_p28 : lw_okq (⟨"TensionNetModel", "isMember", "(I)Z"⟩, 24) := ⟨⟨by decide +kernel, by decide +kernel⟩, List.mem_of_getElem? (i := 870) (by decide +kernel), List.mem_of_getElem? (i := 1007) (by decide +kernel), List.mem_of_getElem? (i := 1008) (by decide +kernel)⟩
theorem lw_p29 : lw_okq (⟨"TensionNetModel", "evens", "()V"⟩, 24) := ⟨⟨by decide +kernel, by decide +kernel⟩, List.mem_of_getElem? (i := 870) (by decide +kernel), List.mem_of_getElem? (i := 1015) (by decide +kernel), List.mem_of_getElem? (i := 1016) (by decide +kernel)⟩
theorem lw_p30 : lw_okq (⟨"TensionNetModel", "free", "()I"⟩, 24) := ⟨⟨by decide +kernel, by decide +kernel⟩, List.mem_of_getElem? (i := 870) (by decide +kernel), List.mem_of_getElem? (i := 1019) (by decide +kernel), List.mem_of_getElem? (i := 1020) (by decide +kernel)⟩
theorem lw_p31 : lw_okq (⟨"TensionNetModel", "freeOf", "(I)I"⟩, 24) := ⟨⟨by decide +kernel, by decide +kernel⟩, List.mem_of_getElem? (i := 870) (by decide +kernel), List.mem_of_getElem? (i := 1023) (by decide +kernel), List.mem_of_getElem? (i := 1024) (by decide +kernel)⟩
def lw_privs_2 : List (MethodName × Nat) := [(⟨"TensionNet$Net", "addHold", "(LTensionNet$Grid;III)V"⟩, 10), (⟨"TensionNet$Cone", "begin", "(LTensionNet$Net;LTensionNet$Grid;)V"⟩, 8), (⟨"TensionNet$Cone", "allReached", "()Z"⟩, 8), (⟨"TensionNet$Cone", "tryRay", "(LTensionNet$Triple;)V"⟩, 8), (⟨"TensionNet$Cone", "signOfProduct", "(LTensionNet$Triple;LTensionNet$Triple;)I"⟩, 8), (⟨"TensionNet$Cone", "tryPlane", "()V"⟩, 8), (⟨"TensionNet$Form", "addUp", "(LTensionNet$Net;LTensionNet$Grid;II)V"⟩, 6), (⟨"TensionNet$Form", "fetchGap", "(LTensionNet$Whole;LTensionNet$Grid;III)V"⟩, 6), (⟨"TensionNetModel", "set", "(IJ)V"⟩, 24), (⟨"TensionNetModel", "carry", "(I)V"⟩, 24), (⟨"TensionNetModel", "isApart", "(II)Z"⟩, 24), (⟨"TensionNetModel", "isJoint", "(I)Z"⟩, 24), (⟨"TensionNetModel", "isMember", "(I)Z"⟩, 24), (⟨"TensionNetModel", "evens", "()V"⟩, 24), (⟨"TensionNetModel", "free", "()I"⟩, 24), (⟨"TensionNetModel", "freeOf", "(I)I"⟩, 24)]
theorem lw_r2 : ∀ q ∈ lw_privs_2, lw_okq q := List.forall_mem_cons.mpr ⟨lw_p16, List.forall_mem_cons.mpr ⟨lw_p17, List.forall_mem_cons.mpr ⟨lw_p18, List.forall_mem_cons.mpr ⟨lw_p19, List.forall_mem_cons.mpr ⟨lw_p20, List.forall_mem_cons.mpr ⟨lw_p21, List.forall_mem_cons.mpr ⟨lw_p22, List.forall_mem_cons.mpr ⟨lw_p23, List.forall_mem_cons.mpr ⟨lw_p24, List.forall_mem_cons.mpr ⟨lw_p25, List.forall_mem_cons.mpr ⟨lw_p26, List.forall_mem_cons.mpr ⟨lw_p27, List.forall_mem_cons.mpr ⟨lw_p28, List.forall_mem_cons.mpr ⟨lw_p29, List.forall_mem_cons.mpr ⟨lw_p30, List.forall_mem_cons.mpr ⟨lw_p31, fun _ h => absurd h List.not_mem_nil⟩⟩⟩⟩⟩⟩⟩⟩⟩⟩⟩⟩⟩⟩⟩⟩
theorem lw_p32 : lw_okq (⟨"TensionNetModel", "cell", "(II)I"⟩, 24) := ⟨⟨by decide +kernel, by decide +kernel⟩, List.mem_of_getElem? (i := 870) (by decide +kernel), List.mem_of_getElem? (i := 1027) (by decide +kernel), List.mem_of_getElem? (i := 1028) (by decide +kernel)⟩
theorem lw_p33 : lw_okq (⟨"TensionNetModel", "far", "(III)I"⟩, 24) := ⟨⟨by decide +kernel, by decide +kernel⟩, List.mem_of_getElem? (i := 870) (by decide +kernel), List.mem_of_getElem? (i := 1031) (by decide +kernel), List.mem_of_getElem? (i := 1032) (by decide +kernel)⟩
theorem lw_p34 : lw_okq (⟨"TensionNetModel", "clear", "(I)V"⟩, 24) := ⟨⟨by decide +kernel, by decide +kernel⟩, List.mem_of_getElem? (i := 870) (by decide +kernel), List.mem_of_getElem? (i := 1035) (by decide +kernel), List.mem_of_getElem? (i := 1036) (by decide +kernel)⟩
theorem lw_p35 : lw_okq (⟨"TensionNetModel", "isZero", "(I)Z"⟩, 24) := ⟨⟨by decide +kernel, by decide +kernel⟩, List.mem_of_getElem? (i := 870) (by decide +kernel), List.mem_of_getElem? (i := 1039) (by decide +kernel), List.mem_of_getElem? (i := 1040) (by decide +kernel)⟩
theorem lw_p36 : lw_okq (⟨"TensionNetModel", "copy", "(II)V"⟩, 24) := ⟨⟨by decide +kernel, by decide +kernel⟩, List.mem_of_getElem? (i := 870) (by decide +kernel), List.mem_of_getElem? (i := 1043) (by decide +kernel), List.mem_of_getElem? (i := 1044) (by decide +kernel)⟩
theorem lw_p37 : lw_okq (⟨"TensionNetModel", "clears", "(II)V"⟩, 24) := ⟨⟨by decide +kernel, by decide +kernel⟩, List.mem_of_getElem? (i := 870) (by decide +kernel), List.mem_of_getElem? (i := 1047) (by decide +kernel), List.mem_of_getElem? (i := 1048) (by decide +kernel)⟩
theorem lw_p38 : lw_okq (⟨"TensionNetModel", "times", "(III)V"⟩, 24) := ⟨⟨by decide +kernel, by decide +kernel⟩, List.mem_of_getElem? (i := 870) (by decide +kernel), List.mem_of_getElem? (i := 1051) (by decide +kernel), List.mem_of_getElem? (i := 1052) (by decide +kernel)⟩
theorem lw_p39 : lw_okq (⟨"TensionNetModel", "isBelow", "(I)Z"⟩, 24) := ⟨⟨by decide +kernel, by decide +kernel⟩, List.mem_of_getElem? (i := 870) (by decide +kernel), List.mem_of_getElem? (i := 1055) (by decide +kernel), List.mem_of_getElem? (i := 1056) (by decide +kernel)⟩
theorem lw_p40 : lw_okq (⟨"TensionNetModel", "bare", "(I[J)V"⟩, 24) := ⟨⟨by decide +kernel, by decide +kernel⟩, List.mem_of_getElem? (i := 870) (by decide +kernel), List.mem_of_getElem? (i := 1059) (by decide +kernel), List.mem_of_getElem? (i := 1060) (by decide +kernel)⟩
theorem lw_p41 : lw_okq (⟨"TensionNetModel", "turn", "(I)V"⟩, 24) := ⟨⟨by decide +kernel, by decide +kernel⟩, List.mem_of_getElem? (i := 870) (by decide +kernel), List.mem_of_getElem? (i := 1063) (by decide +kernel), List.mem_of_getElem? (i := 1064) (by decide +kernel)⟩
theorem lw_p42 : lw_okq (⟨"TensionNetModel", "more", "(IIJ)V"⟩, 24) := ⟨⟨by decide +kernel, by decide +kernel⟩, List.mem_of_getElem? (i := 870) (by decide +kernel), List.mem_of_getElem? (i := 1071) (by decide +kernel), List.mem_of_getElem? (i := 1072) (by decide +kernel)⟩
theorem lw_p43 : lw_okq (⟨"TensionNetModel", "parts", "(II)V"⟩, 24) := ⟨⟨by decide +kernel, by decide +kernel⟩, List.mem_of_getElem? (i := 870) (by decide +kernel), List.mem_of_getElem? (i := 1075) (by decide +kernel), List.mem_of_getElem? (i := 1076) (by decide +kernel)⟩
theorem lw_p44 : lw_okq (⟨"TensionNetModel", "goesInto", "(JII)Z"⟩, 24) := ⟨⟨by decide +kernel, by decide +kernel⟩, List.mem_of_getElem? (i := 870) (by decide +kernel), List.mem_of_getElem? (i := 1080) (by decide +kernel), List.mem_of_getElem? (i := 1081) (by decide +kernel)⟩
theorem lw_p45 : lw_okq (⟨"TensionNetModel", "freeColumn", "(II)I"⟩, 24) := ⟨⟨by decide +kernel, by decide +kernel⟩, List.mem_of_getElem? (i := 870) (by decide +kernel), List.mem_of_getElem? (i := 1088) (by decide +kernel), List.mem_of_getElem? (i := 1089) (by decide +kernel)⟩
theorem lw_p46 : lw_okq (⟨"TensionNetModel", "basic", "(II)V"⟩, 24) := ⟨⟨by decide +kernel, by decide +kernel⟩, List.mem_of_getElem? (i := 870) (by decide +kernel), List.mem_of_getElem? (i := 1092) (by decide +kernel), List.mem_of_getElem? (i := 1093) (by decide +kernel)⟩
theorem lw_p47 : lw_okq (⟨"TensionNetModel", "result", "(II)V"⟩, 24) := ⟨⟨by decide +kernel, by decide +kernel⟩, List.mem_of_getElem? (i := 870) (by decide +kernel), List.mem_of_getElem? (i := 1096) (by decide +kernel), List.mem_of_getElem? (i := 1097) (by decide +kernel)⟩
def lw_privs_3 : List (MethodName × Nat) := [(⟨"TensionNetModel", "cell", "(II)I"⟩, 24), (⟨"TensionNetModel", "far", "(III)I"⟩, 24), (⟨"TensionNetModel", "clear", "(I)V"⟩, 24), (⟨"TensionNetModel", "isZero", "(I)Z"⟩, 24), (⟨"TensionNetModel", "copy", "(II)V"⟩, 24), (⟨"TensionNetModel", "clears", "(II)V"⟩, 24), (⟨"TensionNetModel", "times", "(III)V"⟩, 24), (⟨"TensionNetModel", "isBelow", "(I)Z"⟩, 24), (⟨"TensionNetModel", "bare", "(I[J)V"⟩, 24), (⟨"TensionNetModel", "turn", "(I)V"⟩, 24), (⟨"TensionNetModel", "more", "(IIJ)V"⟩, 24), (⟨"TensionNetModel", "parts", "(II)V"⟩, 24), (⟨"TensionNetModel", "goesInto", "(JII)Z"⟩, 24), (⟨"TensionNetModel", "freeColumn", "(II)I"⟩, 24), (⟨"TensionNetModel", "basic", "(II)V"⟩, 24), (⟨"TensionNetModel", "result", "(II)V"⟩, 24)]
theorem lw_r3 : ∀ q ∈ lw_privs_3, lw_okq q := List.forall_mem_cons.mpr ⟨lw_p32, List.forall_mem_cons.mpr ⟨lw_p33, List.forall_mem_cons.mpr ⟨lw_p34, List.forall_mem_cons.mpr ⟨lw_p35, List.forall_mem_cons.mpr ⟨lw_p36, List.forall_mem_cons.mpr ⟨lw_p37, List.forall_mem_cons.mpr ⟨lw_p38, List.forall_mem_cons.mpr ⟨lw_p39, List.forall_mem_cons.mpr ⟨lw_p40, List.forall_mem_cons.mpr ⟨lw_p41, List.forall_mem_cons.mpr ⟨lw_p42, List.forall_mem_cons.mpr ⟨lw_p43, List.forall_mem_cons.mpr ⟨lw_p44, List.forall_mem_cons.mpr ⟨lw_p45, List.forall_mem_cons.mpr ⟨lw_p46, List.forall_mem_cons.mpr ⟨lw_p47, fun _ h => absurd h List.not_mem_nil⟩⟩⟩⟩⟩⟩⟩⟩⟩⟩⟩⟩⟩⟩⟩⟩
theorem lw_p48 : lw_okq (⟨"TensionNetModel", "isEven", "(I)Z"⟩, 24) := ⟨⟨by decide +kernel, by decide +kernel⟩, List.mem_of_getElem? (i := 870) (by decide +kernel), List.mem_of_getElem? (i := 1100) (by decide +kernel), List.mem_of_getElem? (i := 1101) (by decide +kernel)⟩
theorem lw_p49 : lw_okq (⟨"TensionNetModel", "half", "(I)V"⟩, 24) := ⟨⟨by decide +kernel, by decide +kernel⟩, List.mem_of_getElem? (i := 870) (by decide +kernel), List.mem_of_getElem? (i := 1104) (by decide +kernel), List.mem_of_getElem? (i := 1105) (by decide +kernel)⟩
theorem lw_p50 : lw_okq (⟨"TensionNetModel", "isLess", "(II)Z"⟩, 24) := ⟨⟨by decide +kernel, by decide +kernel⟩, List.mem_of_getElem? (i := 870) (by decide +kernel), List.mem_of_getElem? (i := 1108) (by decide +kernel), List.mem_of_getElem? (i := 1109) (by decide +kernel)⟩
theorem lw_p51 : lw_okq (⟨"TensionNetModel", "moves", "()V"⟩, 24) := ⟨⟨by decide +kernel, by decide +kernel⟩, List.mem_of_getElem? (i := 870) (by decide +kernel), List.mem_of_getElem? (i := 1116) (by decide +kernel), List.mem_of_getElem? (i := 1117) (by decide +kernel)⟩
theorem lw_p52 : lw_okq (⟨"TensionNetModel", "isEvenTold", "(Z)Z"⟩, 24) := ⟨⟨by decide +kernel, by decide +kernel⟩, List.mem_of_getElem? (i := 870) (by decide +kernel), List.mem_of_getElem? (i := 1128) (by decide +kernel), List.mem_of_getElem? (i := 1129) (by decide +kernel)⟩
theorem lw_p53 : lw_okq (⟨"TensionNetModel", "leftOf", "(IIZ)J"⟩, 24) := ⟨⟨by decide +kernel, by decide +kernel⟩, List.mem_of_getElem? (i := 870) (by decide +kernel), List.mem_of_getElem? (i := 1132) (by decide +kernel), List.mem_of_getElem? (i := 1133) (by decide +kernel)⟩
theorem lw_p54 : lw_okq (⟨"TensionNetModel", "isBorne", "()Z"⟩, 24) := ⟨⟨by decide +kernel, by decide +kernel⟩, List.mem_of_getElem? (i := 870) (by decide +kernel), List.mem_of_getElem? (i := 1144) (by decide +kernel), List.mem_of_getElem? (i := 1145) (by decide +kernel)⟩
theorem lw_p55 : lw_okq (⟨"TensionNetModel", "isShaped", "()Z"⟩, 24) := ⟨⟨by decide +kernel, by decide +kernel⟩, List.mem_of_getElem? (i := 870) (by decide +kernel), List.mem_of_getElem? (i := 1156) (by decide +kernel), List.mem_of_getElem? (i := 1157) (by decide +kernel)⟩
theorem lw_p56 : lw_okq (⟨"TensionNetModel", "cone", "(II)I"⟩, 24) := ⟨⟨by decide +kernel, by decide +kernel⟩, List.mem_of_getElem? (i := 870) (by decide +kernel), List.mem_of_getElem? (i := 1168) (by decide +kernel), List.mem_of_getElem? (i := 1169) (by decide +kernel)⟩
theorem lw_p57 : lw_okq (⟨"TensionNetModel", "isTight", "()Z"⟩, 24) := ⟨⟨by decide +kernel, by decide +kernel⟩, List.mem_of_getElem? (i := 870) (by decide +kernel), List.mem_of_getElem? (i := 1172) (by decide +kernel), List.mem_of_getElem? (i := 1173) (by decide +kernel)⟩
theorem lw_p58 : lw_okq (⟨"TensionNetModel", "comesBoth", "(II)V"⟩, 24) := ⟨⟨by decide +kernel, by decide +kernel⟩, List.mem_of_getElem? (i := 870) (by decide +kernel), List.mem_of_getElem? (i := 1176) (by decide +kernel), List.mem_of_getElem? (i := 1177) (by decide +kernel)⟩
theorem lw_p59 : lw_okq (⟨"TensionNetModel", "comes", "(II)V"⟩, 24) := ⟨⟨by decide +kernel, by decide +kernel⟩, List.mem_of_getElem? (i := 870) (by decide +kernel), List.mem_of_getElem? (i := 1180) (by decide +kernel), List.mem_of_getElem? (i := 1181) (by decide +kernel)⟩
theorem lw_p60 : lw_okq (⟨"TensionNetModel", "product", "(II)I"⟩, 24) := ⟨⟨by decide +kernel, by decide +kernel⟩, List.mem_of_getElem? (i := 870) (by decide +kernel), List.mem_of_getElem? (i := 1184) (by decide +kernel), List.mem_of_getElem? (i := 1185) (by decide +kernel)⟩
theorem lw_p61 : lw_okq (⟨"TensionNetModel", "sign", "(I)I"⟩, 24) := ⟨⟨by decide +kernel, by decide +kernel⟩, List.mem_of_getElem? (i := 870) (by decide +kernel), List.mem_of_getElem? (i := 1188) (by decide +kernel), List.mem_of_getElem? (i := 1189) (by decide +kernel)⟩
theorem lw_p62 : lw_okq (⟨"TensionNetModel", "cross", "(III)V"⟩, 24) := ⟨⟨by decide +kernel, by decide +kernel⟩, List.mem_of_getElem? (i := 870) (by decide +kernel), List.mem_of_getElem? (i := 1192) (by decide +kernel), List.mem_of_getElem? (i := 1193) (by decide +kernel)⟩
theorem lw_p63 : lw_okq (⟨"TensionNetModel", "kept", "(II)I"⟩, 24) := ⟨⟨by decide +kernel, by decide +kernel⟩, List.mem_of_getElem? (i := 870) (by decide +kernel), List.mem_of_getElem? (i := 1200) (by decide +kernel), List.mem_of_getElem? (i := 1201) (by decide +kernel)⟩
def lw_privs_4 : List (MethodName × Nat) := [(⟨"TensionNetModel", "isEven", "(I)Z"⟩, 24), (⟨"TensionNetModel", "half", "(I)V"⟩, 24), (⟨"TensionNetModel", "isLess", "(II)Z"⟩, 24), (⟨"TensionNetModel", "moves", "()V"⟩, 24), (⟨"TensionNetModel", "isEvenTold", "(Z)Z"⟩, 24), (⟨"TensionNetModel", "leftOf", "(IIZ)J"⟩, 24), (⟨"TensionNetModel", "isBorne", "()Z"⟩, 24), (⟨"TensionNetModel", "isShaped", "()Z"⟩, 24), (⟨"TensionNetModel", "cone", "(II)I"⟩, 24), (⟨"TensionNetModel", "isTight", "()Z"⟩, 24), (⟨"TensionNetModel", "comesBoth", "(II)V"⟩, 24), (⟨"TensionNetModel", "comes", "(II)V"⟩, 24), (⟨"TensionNetModel", "product", "(II)I"⟩, 24), (⟨"TensionNetModel", "sign", "(I)I"⟩, 24), (⟨"TensionNetModel", "cross", "(III)V"⟩, 24), (⟨"TensionNetModel", "kept", "(II)I"⟩, 24)]
theorem lw_r4 : ∀ q ∈ lw_privs_4, lw_okq q := List.forall_mem_cons.mpr ⟨lw_p48, List.forall_mem_cons.mpr ⟨lw_p49, List.forall_mem_cons.mpr ⟨lw_p50, List.forall_mem_cons.mpr ⟨lw_p51, List.forall_mem_cons.mpr ⟨lw_p52, List.forall_mem_cons.mpr ⟨lw_p53, List.forall_mem_cons.mpr ⟨lw_p54, List.forall_mem_cons.mpr ⟨lw_p55, List.forall_mem_cons.mpr ⟨lw_p56, List.forall_mem_cons.mpr ⟨lw_p57, List.forall_mem_cons.mpr ⟨lw_p58, List.forall_mem_cons.mpr ⟨lw_p59, List.forall_mem_cons.mpr ⟨lw_p60, List.forall_mem_cons.mpr ⟨lw_p61, List.forall_mem_cons.mpr ⟨lw_p62, List.forall_mem_cons.mpr ⟨lw_p63, fun _ h => absurd h List.not_mem_nil⟩⟩⟩⟩⟩⟩⟩⟩⟩⟩⟩⟩⟩⟩⟩⟩
theorem lw_p64 : lw_okq (⟨"TensionNetModel", "form", "(II)I"⟩, 24) := ⟨⟨by decide +kernel, by decide +kernel⟩, List.mem_of_getElem? (i := 870) (by decide +kernel), List.mem_of_getElem? (i := 1204) (by decide +kernel), List.mem_of_getElem? (i := 1205) (by decide +kernel)⟩
theorem lw_p65 : lw_okq (⟨"TensionNetModel", "apart", "(IIII)V"⟩, 24) := ⟨⟨by decide +kernel, by decide +kernel⟩, List.mem_of_getElem? (i := 870) (by decide +kernel), List.mem_of_getElem? (i := 1208) (by decide +kernel), List.mem_of_getElem? (i := 1209) (by decide +kernel)⟩
theorem lw_p66 : lw_okq (⟨"TensionNetModel", "minor", "(IIIII)V"⟩, 24) := ⟨⟨by decide +kernel, by decide +kernel⟩, List.mem_of_getElem? (i := 870) (by decide +kernel), List.mem_of_getElem? (i := 1212) (by decide +kernel), List.mem_of_getElem? (i := 1213) (by decide +kernel)⟩
theorem lw_p67 : lw_okq (⟨"TensionNetModel", "manyParts", "([J)I"⟩, 24) := ⟨⟨by decide +kernel, by decide +kernel⟩, List.mem_of_getElem? (i := 870) (by decide +kernel), List.mem_of_getElem? (i := 1220) (by decide +kernel), List.mem_of_getElem? (i := 1221) (by decide +kernel)⟩
def lw_privs_5 : List (MethodName × Nat) := [(⟨"TensionNetModel", "form", "(II)I"⟩, 24), (⟨"TensionNetModel", "apart", "(IIII)V"⟩, 24), (⟨"TensionNetModel", "minor", "(IIIII)V"⟩, 24), (⟨"TensionNetModel", "manyParts", "([J)I"⟩, 24)]
theorem lw_r5 : ∀ q ∈ lw_privs_5, lw_okq q := List.forall_mem_cons.mpr ⟨lw_p64, List.forall_mem_cons.mpr ⟨lw_p65, List.forall_mem_cons.mpr ⟨lw_p66, List.forall_mem_cons.mpr ⟨lw_p67, fun _ h => absurd h List.not_mem_nil⟩⟩⟩⟩
def lw_privs : List (MethodName × Nat) := lw_privs_1 ++ (lw_privs_2 ++ (lw_privs_3 ++ (lw_privs_4 ++ (lw_privs_5))))
def lw_tbl : List Cond := k2_sels lw_privs ++ tables_1
theorem lw_privs_ok : ∀ q ∈ lw_privs, lw_okq q := by
  show ∀ q ∈ lw_privs_1 ++ (lw_privs_2 ++ (lw_privs_3 ++ (lw_privs_4 ++ (lw_privs_5)))), lw_okq q
  exact List.forall_mem_append.mpr ⟨lw_r1, List.forall_mem_append.mpr ⟨lw_r2, List.forall_mem_append.mpr ⟨lw_r3, List.forall_mem_append.mpr ⟨lw_r4, lw_r5⟩⟩⟩⟩
-- ===== end of PART A; then your names; then what follows =====
end
section
/-! the classes of the program: names, fields in the order of the slots, their types (by program out of the papers) -/
def qF0 : u_T := fun k => match k with
  | 0 => ("TensionNet$Cone", "asked", "[LTensionNet$Triple;", true)
  | 1 => ("TensionNet$Cone", "normal", "LTensionNet$Triple;", true)
  | 2 => ("TensionNet$Cone", "ray", "LTensionNet$Triple;", true)
  | 3 => ("TensionNet$Cone", "sum", "LTensionNet$Whole;", true)
  | 4 => ("TensionNet$Cone", "work", "LTensionNet$Whole;", true)
  | 5 => ("TensionNet$Cone", "signs", "[I", true)
  | 6 => ("TensionNet$Cone", "reached", "[Z", true)
  | _ => ("TensionNet$Cone", "members", "I", false)
def qY0 : List FieldType := [.array (.object "TensionNet$Triple"), .object "TensionNet$Triple", .object "TensionNet$Triple", .object "TensionNet$Whole", .object "TensionNet$Whole", .array (.int), .array (.boolean), .int]
def qF1 : u_T := fun k => match k with
  | 0 => ("TensionNet$Desk", "divider", "LTensionNet$Divider;", true)
  | 1 => ("TensionNet$Desk", "pivot", "LTensionNet$Whole;", true)
  | 2 => ("TensionNet$Desk", "factor", "LTensionNet$Whole;", true)
  | 3 => ("TensionNet$Desk", "here", "LTensionNet$Whole;", true)
  | 4 => ("TensionNet$Desk", "above", "LTensionNet$Whole;", true)
  | 5 => ("TensionNet$Desk", "product", "LTensionNet$Whole;", true)
  | _ => ("TensionNet$Desk", "other", "LTensionNet$Whole;", true)
def qY1 : List FieldType := [.object "TensionNet$Divider", .object "TensionNet$Whole", .object "TensionNet$Whole", .object "TensionNet$Whole", .object "TensionNet$Whole", .object "TensionNet$Whole", .object "TensionNet$Whole"]
def qF2 : u_T := fun k => match k with
  | 0 => ("TensionNet$Divider", "quotient", "LTensionNet$Whole;", true)
  | 1 => ("TensionNet$Divider", "scaled", "LTensionNet$Whole;", true)
  | 2 => ("TensionNet$Divider", "one", "LTensionNet$Whole;", true)
  | _ => ("TensionNet$Divider", "two", "LTensionNet$Whole;", true)
def qY2 : List FieldType := [.object "TensionNet$Whole", .object "TensionNet$Whole", .object "TensionNet$Whole", .object "TensionNet$Whole"]
def qF3 : u_T := fun k => match k with
  | 0 => ("TensionNet$Form", "table", "LTensionNet$Grid;", true)
  | 1 => ("TensionNet$Form", "sum", "LTensionNet$Whole;", true)
  | 2 => ("TensionNet$Form", "product", "LTensionNet$Whole;", true)
  | 3 => ("TensionNet$Form", "one", "LTensionNet$Whole;", true)
  | 4 => ("TensionNet$Form", "two", "LTensionNet$Whole;", true)
  | _ => ("TensionNet$Form", "strength", "LTensionNet$Whole;", true)
def qY3 : List FieldType := [.object "TensionNet$Grid", .object "TensionNet$Whole", .object "TensionNet$Whole", .object "TensionNet$Whole", .object "TensionNet$Whole", .object "TensionNet$Whole"]
def qF4 : u_T := fun k => match k with
  | 0 => ("TensionNet$Fraction", "top", "LTensionNet$Whole;", true)
  | 1 => ("TensionNet$Fraction", "bottom", "LTensionNet$Whole;", true)
  | _ => ("TensionNet$Fraction", "work", "LTensionNet$Whole;", true)
def qY4 : List FieldType := [.object "TensionNet$Whole", .object "TensionNet$Whole", .object "TensionNet$Whole"]
def qF5 : u_T := fun k => match k with
  | 0 => ("TensionNet$Grid", "height", "I", true)
  | 1 => ("TensionNet$Grid", "width", "I", true)
  | 2 => ("TensionNet$Grid", "cell", "I", true)
  | 3 => ("TensionNet$Grid", "parts", "[I", true)
  | 4 => ("TensionNet$Grid", "sizes", "[I", true)
  | 5 => ("TensionNet$Grid", "desk", "LTensionNet$Desk;", true)
  | 6 => ("TensionNet$Grid", "rows", "I", false)
  | 7 => ("TensionNet$Grid", "unknowns", "I", false)
  | 8 => ("TensionNet$Grid", "columns", "I", false)
  | 9 => ("TensionNet$Grid", "rank", "I", false)
  | 10 => ("TensionNet$Grid", "rowOf", "[I", true)
  | 11 => ("TensionNet$Grid", "bottom", "LTensionNet$Whole;", true)
  | _ => ("TensionNet$Grid", "leadsAbove", "Z", false)
def qY5 : List FieldType := [.int, .int, .int, .array (.int), .array (.int), .object "TensionNet$Desk", .int, .int, .int, .int, .array (.int), .object "TensionNet$Whole", .boolean]
def qF6 : u_T := fun k => match k with
  | 0 => ("TensionNet$Net", "joints", "I", false)
  | 1 => ("TensionNet$Net", "free", "I", false)
  | 2 => ("TensionNet$Net", "members", "I", false)
  | 3 => ("TensionNet$Net", "places", "[[I", true)
  | 4 => ("TensionNet$Net", "loads", "[[I", true)
  | 5 => ("TensionNet$Net", "order", "[I", true)
  | 6 => ("TensionNet$Net", "from", "[I", true)
  | 7 => ("TensionNet$Net", "to", "[I", true)
  | 8 => ("TensionNet$Net", "sorts", "[I", true)
  | _ => ("TensionNet$Net", "pulls", "[I", true)
def qY6 : List FieldType := [.int, .int, .int, .array (.array (.int)), .array (.array (.int)), .array (.int), .array (.int), .array (.int), .array (.int), .array (.int)]
def qF7 : u_T := fun k => match k with
  | 0 => ("TensionNet$Slots", "numbers", "[[J", true)
  | 1 => ("TensionNet$Slots", "widths", "[I", true)
  | 2 => ("TensionNet$Slots", "sizes", "[I", true)
  | 3 => ("TensionNet$Slots", "open", "I", false)
  | 4 => ("TensionNet$Slots", "at", "I", false)
  | _ => ("TensionNet$Slots", "refusal", "I", false)
def qY7 : List FieldType := [.array (.array (.long)), .array (.int), .array (.int), .int, .int, .int]
def qF8 : u_T := fun k => match k with
  | _ => ("TensionNet$Triple", "at", "[LTensionNet$Whole;", true)
def qY8 : List FieldType := [.array (.object "TensionNet$Whole")]
def qF9 : u_T := fun k => match k with
  | 0 => ("TensionNet$Whole", "parts", "[I", true)
  | 1 => ("TensionNet$Whole", "size", "I", false)
  | _ => ("TensionNet$Whole", "below", "Z", false)
def qY9 : List FieldType := [.array (.int), .int, .boolean]
def qF10 : u_T := fun k => match k with
  | 0 => ("TensionNet", "slots", "LTensionNet$Slots;", true)
  | 1 => ("TensionNet", "result", "LTensionNet$Fraction;", true)
  | 2 => ("TensionNet", "desk", "LTensionNet$Desk;", true)
  | 3 => ("TensionNet", "forces", "LTensionNet$Grid;", true)
  | 4 => ("TensionNet", "moves", "LTensionNet$Grid;", true)
  | 5 => ("TensionNet", "places", "LTensionNet$Grid;", true)
  | 6 => ("TensionNet", "cone", "LTensionNet$Cone;", true)
  | 7 => ("TensionNet", "form", "LTensionNet$Form;", true)
  | 8 => ("TensionNet", "top", "LTensionNet$Whole;", true)
  | 9 => ("TensionNet", "net", "LTensionNet$Net;", false)
  | 10 => ("TensionNet", "spare", "LTensionNet$Net;", false)
  | 11 => ("TensionNet", "forcesKnown", "Z", false)
  | 12 => ("TensionNet", "bearingKnown", "Z", false)
  | 13 => ("TensionNet", "movesKnown", "Z", false)
  | 14 => ("TensionNet", "placesKnown", "Z", false)
  | 15 => ("TensionNet", "tightKnown", "Z", false)
  | _ => ("TensionNet", "canBeTight", "Z", false)
def qY10 : List FieldType := [.object "TensionNet$Slots", .object "TensionNet$Fraction", .object "TensionNet$Desk", .object "TensionNet$Grid", .object "TensionNet$Grid", .object "TensionNet$Grid", .object "TensionNet$Cone", .object "TensionNet$Form", .object "TensionNet$Whole", .object "TensionNet$Net", .object "TensionNet$Net", .boolean, .boolean, .boolean, .boolean, .boolean, .boolean]
def qF11 : u_T := fun k => match k with
  | 0 => ("TensionNetModel", "n", "[J", true)
  | 1 => ("TensionNetModel", "ends", "[I", true)
  | 2 => ("TensionNetModel", "widths", "[I", true)
  | 3 => ("TensionNetModel", "numbers", "[J", true)
  | 4 => ("TensionNetModel", "joints", "I", false)
  | 5 => ("TensionNetModel", "x", "[I", true)
  | 6 => ("TensionNetModel", "y", "[I", true)
  | 7 => ("TensionNetModel", "fixed", "[Z", true)
  | 8 => ("TensionNetModel", "loadX", "[I", true)
  | 9 => ("TensionNetModel", "loadY", "[I", true)
  | 10 => ("TensionNetModel", "members", "I", false)
  | 11 => ("TensionNetModel", "from", "[I", true)
  | 12 => ("TensionNetModel", "to", "[I", true)
  | 13 => ("TensionNetModel", "sort", "[I", true)
  | 14 => ("TensionNetModel", "told", "[I", true)
  | 15 => ("TensionNetModel", "left", "[J", true)
  | 16 => ("TensionNetModel", "right", "[J", true)
  | 17 => ("TensionNetModel", "both", "[J", true)
  | 18 => ("TensionNetModel", "row", "[I", true)
  | 19 => ("TensionNetModel", "high", "I", false)
  | 20 => ("TensionNetModel", "wide", "I", false)
  | 21 => ("TensionNetModel", "rank", "I", false)
  | 22 => ("TensionNetModel", "rowOf", "[I", true)
  | _ => ("TensionNetModel", "cones", "I", false)
def qY11 : List FieldType := [.array (.long), .array (.int), .array (.int), .array (.long), .int, .array (.int), .array (.int), .array (.boolean), .array (.int), .array (.int), .int, .array (.int), .array (.int), .array (.int), .array (.int), .array (.long), .array (.long), .array (.long), .array (.int), .int, .int, .int, .array (.int), .int]
abbrev qcls : List vw_C := [("TensionNet$Cone", qF0, 8), ("TensionNet$Desk", qF1, 7), ("TensionNet$Divider", qF2, 4), ("TensionNet$Form", qF3, 6), ("TensionNet$Fraction", qF4, 3), ("TensionNet$Grid", qF5, 13), ("TensionNet$Net", qF6, 10), ("TensionNet$Slots", qF7, 6), ("TensionNet$Triple", qF8, 1), ("TensionNet$Whole", qF9, 3), ("TensionNet", qF10, 17), ("TensionNetModel", qF11, 24)]
def qYs : List (List FieldType) := [qY0, qY1, qY2, qY3, qY4, qY5, qY6, qY7, qY8, qY9, qY10, qY11]
def qty (ci k : Nat) : FieldType := (qYs.getD ci []).getD k .int
def gT : List Cond := lw_tbl.filter goodWord
theorem gT_in {w : Cond} (i : Nat) (h : lw_tbl[i]? = some w) (hg : goodWord w = true) : w ∈ gT := List.mem_filter.mpr ⟨List.mem_of_getElem? h, hg⟩
theorem gT_good {w : Cond} (h : w ∈ gT) : w ∈ lw_tbl ∧ goodWord w = true := List.mem_filter.mp h
/-- the words of a table by their places -/
def qPl (ps : List Nat) (ws : List Cond) : Bool := ps.length == ws.length && (ps.zip ws).all (fun q => lw_tbl[q.1]? == some q.2 && goodWord q.2)
theorem qPl_ok : ∀ {ps : List Nat} {ws : List Cond}, qPl ps ws = true → ∀ w ∈ ws, w ∈ gT := by
  intro ps ws h w hw
  simp only [qPl, Bool.and_eq_true, beq_iff_eq, List.all_eq_true] at h
  obtain ⟨k, hk⟩ := List.getElem?_of_mem hw
  have hkl : k < ws.length := (List.getElem?_eq_some_iff.mp hk).1
  have hp : ps[k]? = some ps[k] := List.getElem?_eq_getElem (by omega)
  have := h.2 (ps[k], w) (List.mem_of_getElem? (i := k) (by rw [List.getElem?_zip_eq_some]; exact ⟨hp, hk⟩))
  exact gT_in _ this.1 this.2
set_option maxRecDepth 20000 in
theorem qW0 : qPl [323, 325, 327, 329, 331, 333, 335, 337, 78, 293] (u_ws "TensionNet$Cone" qF0 8 ++ [.initialized "TensionNet$Cone", .instantiable "TensionNet$Cone" 8]) = true := by decide +kernel
set_option maxRecDepth 20000 in
theorem qW1 : qPl [226, 228, 230, 232, 234, 236, 238, 75, 181] (u_ws "TensionNet$Desk" qF1 7 ++ [.initialized "TensionNet$Desk", .instantiable "TensionNet$Desk" 7]) = true := by decide +kernel
set_option maxRecDepth 20000 in
theorem qW2 : qPl [200, 202, 204, 206, 76, 187] (u_ws "TensionNet$Divider" qF2 4 ++ [.initialized "TensionNet$Divider", .instantiable "TensionNet$Divider" 4]) = true := by decide +kernel
set_option maxRecDepth 20000 in
theorem qW3 : qPl [357, 359, 361, 363, 365, 367, 80, 342] (u_ws "TensionNet$Form" qF3 6 ++ [.initialized "TensionNet$Form", .instantiable "TensionNet$Form" 6]) = true := by decide +kernel
set_option maxRecDepth 20000 in
theorem qW4 : qPl [173, 175, 177, 72, 127] (u_ws "TensionNet$Fraction" qF4 3 ++ [.initialized "TensionNet$Fraction", .instantiable "TensionNet$Fraction" 3]) = true := by decide +kernel
set_option maxRecDepth 20000 in
theorem qW5 : qPl [265, 267, 269, 271, 273, 275, 277, 279, 281, 283, 285, 287, 289, 77, 242] (u_ws "TensionNet$Grid" qF5 13 ++ [.initialized "TensionNet$Grid", .instantiable "TensionNet$Grid" 13]) = true := by decide +kernel
set_option maxRecDepth 20000 in
theorem qW6 : qPl [403, 405, 407, 409, 411, 413, 415, 417, 419, 421, 81, 373] (u_ws "TensionNet$Net" qF6 10 ++ [.initialized "TensionNet$Net", .instantiable "TensionNet$Net" 10]) = true := by decide +kernel
set_option maxRecDepth 20000 in
theorem qW7 : qPl [111, 113, 115, 117, 119, 121, 70, 94] (u_ws "TensionNet$Slots" qF7 6 ++ [.initialized "TensionNet$Slots", .instantiable "TensionNet$Slots" 6]) = true := by decide +kernel
set_option maxRecDepth 20000 in
theorem qW8 : qPl [310, 79, 300] (u_ws "TensionNet$Triple" qF8 1 ++ [.initialized "TensionNet$Triple", .instantiable "TensionNet$Triple" 1]) = true := by decide +kernel
set_option maxRecDepth 20000 in
theorem qW9 : qPl [154, 156, 158, 73, 133] (u_ws "TensionNet$Whole" qF9 3 ++ [.initialized "TensionNet$Whole", .instantiable "TensionNet$Whole" 3]) = true := by decide +kernel
set_option maxRecDepth 20000 in
theorem qW10 : qPl [441, 443, 445, 447, 449, 451, 453, 455, 457, 459, 461, 463, 465, 467, 469, 471, 473, 69, 86] (u_ws "TensionNet" qF10 17 ++ [.initialized "TensionNet", .instantiable "TensionNet" 17]) = true := by decide +kernel
set_option maxRecDepth 20000 in
theorem qW11 : qPl [982, 984, 986, 988, 990, 992, 994, 996, 998, 1000, 1002, 1004, 1006, 1008, 1010, 1012, 1014, 1016, 1018, 1020, 1022, 1024, 1026, 1028, 82, 938] (u_ws "TensionNetModel" qF11 24 ++ [.initialized "TensionNetModel", .instantiable "TensionNetModel" 24]) = true := by decide +kernel
/-- what is known of each of them -/
def qcOK (ci : Nat) (q : vw_C) : Prop := (∀ w ∈ u_ws q.1 q.2.1 q.2.2, w ∈ gT) ∧ Cond.initialized q.1 ∈ gT ∧ Cond.instantiable q.1 q.2.2 ∈ gT ∧ (∀ k, k < q.2.2 → parseFieldDescriptor (q.2.1 k).2.2.1 = some (qty ci k)) ∧ (∀ a, a < q.2.2 → ∀ b, b < q.2.2 → a ≠ b → (q.2.1 a).2.1 ≠ (q.2.1 b).2.1) ∧ (∀ k, k < q.2.2 → (q.2.1 k).1 = q.1)
theorem qC0 : qcOK 0 ("TensionNet$Cone", qF0, 8) := ⟨fun w h => qPl_ok qW0 w (List.mem_append_left _ h), qPl_ok qW0 _ (List.mem_append_right _ (by simp)), qPl_ok qW0 _ (List.mem_append_right _ (by simp)), by decide +kernel, by decide +kernel, by decide +kernel⟩
theorem qC1 : qcOK 1 ("TensionNet$Desk", qF1, 7) := ⟨fun w h => qPl_ok qW1 w (List.mem_append_left _ h), qPl_ok qW1 _ (List.mem_append_right _ (by simp)), qPl_ok qW1 _ (List.mem_append_right _ (by simp)), by decide +kernel, by decide +kernel, by decide +kernel⟩
theorem qC2 : qcOK 2 ("TensionNet$Divider", qF2, 4) := ⟨fun w h => qPl_ok qW2 w (List.mem_append_left _ h), qPl_ok qW2 _ (List.mem_append_right _ (by simp)), qPl_ok qW2 _ (List.mem_append_right _ (by simp)), by decide +kernel, by decide +kernel, by decide +kernel⟩
theorem qC3 : qcOK 3 ("TensionNet$Form", qF3, 6) := ⟨fun w h => qPl_ok qW3 w (List.mem_append_left _ h), qPl_ok qW3 _ (List.mem_append_right _ (by simp)), qPl_ok qW3 _ (List.mem_append_right _ (by simp)), by decide +kernel, by decide +kernel, by decide +kernel⟩
theorem qC4 : qcOK 4 ("TensionNet$Fraction", qF4, 3) := ⟨fun w h => qPl_ok qW4 w (List.mem_append_left _ h), qPl_ok qW4 _ (List.mem_append_right _ (by simp)), qPl_ok qW4 _ (List.mem_append_right _ (by simp)), by decide +kernel, by decide +kernel, by decide +kernel⟩
theorem qC5 : qcOK 5 ("TensionNet$Grid", qF5, 13) := ⟨fun w h => qPl_ok qW5 w (List.mem_append_left _ h), qPl_ok qW5 _ (List.mem_append_right _ (by simp)), qPl_ok qW5 _ (List.mem_append_right _ (by simp)), by decide +kernel, by decide +kernel, by decide +kernel⟩
theorem qC6 : qcOK 6 ("TensionNet$Net", qF6, 10) := ⟨fun w h => qPl_ok qW6 w (List.mem_append_left _ h), qPl_ok qW6 _ (List.mem_append_right _ (by simp)), qPl_ok qW6 _ (List.mem_append_right _ (by simp)), by decide +kernel, by decide +kernel, by decide +kernel⟩
theorem qC7 : qcOK 7 ("TensionNet$Slots", qF7, 6) := ⟨fun w h => qPl_ok qW7 w (List.mem_append_left _ h), qPl_ok qW7 _ (List.mem_append_right _ (by simp)), qPl_ok qW7 _ (List.mem_append_right _ (by simp)), by decide +kernel, by decide +kernel, by decide +kernel⟩
theorem qC8 : qcOK 8 ("TensionNet$Triple", qF8, 1) := ⟨fun w h => qPl_ok qW8 w (List.mem_append_left _ h), qPl_ok qW8 _ (List.mem_append_right _ (by simp)), qPl_ok qW8 _ (List.mem_append_right _ (by simp)), by decide +kernel, by decide +kernel, by decide +kernel⟩
theorem qC9 : qcOK 9 ("TensionNet$Whole", qF9, 3) := ⟨fun w h => qPl_ok qW9 w (List.mem_append_left _ h), qPl_ok qW9 _ (List.mem_append_right _ (by simp)), qPl_ok qW9 _ (List.mem_append_right _ (by simp)), by decide +kernel, by decide +kernel, by decide +kernel⟩
theorem qC10 : qcOK 10 ("TensionNet", qF10, 17) := ⟨fun w h => qPl_ok qW10 w (List.mem_append_left _ h), qPl_ok qW10 _ (List.mem_append_right _ (by simp)), qPl_ok qW10 _ (List.mem_append_right _ (by simp)), by decide +kernel, by decide +kernel, by decide +kernel⟩
theorem qC11 : qcOK 11 ("TensionNetModel", qF11, 24) := ⟨fun w h => qPl_ok qW11 w (List.mem_append_left _ h), qPl_ok qW11 _ (List.mem_append_right _ (by simp)), qPl_ok qW11 _ (List.mem_append_right _ (by simp)), by decide +kernel, by decide +kernel, by decide +kernel⟩
theorem qcls_ok {ci : Nat} {q : vw_C} (h : qcls[ci]? = some q) : qcOK ci q := by
  match ci, h with
  | 0, h => cases h; exact qC0
  | 1, h => cases h; exact qC1
  | 2, h => cases h; exact qC2
  | 3, h => cases h; exact qC3
  | 4, h => cases h; exact qC4
  | 5, h => cases h; exact qC5
  | 6, h => cases h; exact qC6
  | 7, h => cases h; exact qC7
  | 8, h => cases h; exact qC8
  | 9, h => cases h; exact qC9
  | 10, h => cases h; exact qC10
  | 11, h => cases h; exact qC11
  | k + 12, h => simp [qcls] at h
end
section
/-! THE PURE EVALUATOR of the program's bytecode. A heap is (cells by number, how many, how many slots); an array's first number is its tag: 0 int, 1 long, 2 boolean, 3 Whole, 4 Triple, 5 rows of int, 6 rows of long. A row of code: (pc, instruction, length, a, b, place of its word). -/
abbrev eH : Type := (Nat → va_E) × Nat × Nat
abbrev eL : Type := List (Option Value)
abbrev eR : Type := Option Value × eH
abbrev eM : Type := Nat → List Value → eH → Option eR
abbrev eRow : Type := Nat × Instr × Nat × Nat × Nat × Nat
abbrev eS : Type := Nat × eL × List Value × eH
abbrev eO : Type := Option (eS ⊕ eR)
abbrev eSc : Type := Option (Nat × (Nat → Int32))
def eFind : List eRow → Nat → Option eRow
  | [], _ => none
  | r :: t, pc => bif Nat.beq r.1 pc then some r else eFind t pc
def eKl (o : Option Value) : Option Value := match o with
  | some (.long _) => none
  | some (.double _) => none
  | o => o
def eKill : eL → Nat → eL
  | ls, 0 => ls
  | ls, i + 1 => ls.set i (eKl (ls.getD i none))
def eSet1 (ls : eL) (i : Nat) (v : Value) : eL := (eKill ls i).set i (some v)
def eSet2 (ls : eL) (i : Nat) (v : Value) : eL := ((eKill ls i).set i (some v)).set (i + 1) none
def eSum : List Value → Nat
  | [] => 0
  | v :: t => v.category + eSum t
section EVO
variable {α : Type}
def oA (o : Option Value) (f : Value → Option α) : Option α := match o with
  | some (.ref a) => f (.ref a)
  | some (.float a) => f (.float a)
  | _ => none
def oI (o : Option Value) (f : Int32 → Option α) : Option α := match o with
  | some (.int x) => f x
  | _ => none
def oL (o : Option Value) (f : Int64 → Option α) : Option α := match o with
  | some (.long x) => f x
  | _ => none
def sI (st : List Value) (f : Int32 → List Value → Option α) : Option α := match st with
  | .int x :: t => f x t
  | _ => none
def sL (st : List Value) (f : Int64 → List Value → Option α) : Option α := match st with
  | .long x :: t => f x t
  | _ => none
def sR (st : List Value) (f : Nat → List Value → Option α) : Option α := match st with
  | .ref x :: t => f x t
  | _ => none
def sII (st : List Value) (f : Int32 → Int32 → List Value → Option α) : Option α := match st with
  | .int y :: .int x :: t => f x y t
  | _ => none
def sLL (st : List Value) (f : Int64 → Int64 → List Value → Option α) : Option α := match st with
  | .long y :: .long x :: t => f x y t
  | _ => none
def sLI (st : List Value) (f : Int64 → Int32 → List Value → Option α) : Option α := match st with
  | .int y :: .long x :: t => f x y t
  | _ => none
def sIR (st : List Value) (f : Int32 → Nat → List Value → Option α) : Option α := match st with
  | .int i :: .ref a :: t => f i a t
  | _ => none
def sIIR (st : List Value) (f : Int32 → Int32 → Nat → List Value → Option α) : Option α := match st with
  | .int x :: .int i :: .ref a :: t => f x i a t
  | _ => none
def sLIR (st : List Value) (f : Int64 → Int32 → Nat → List Value → Option α) : Option α := match st with
  | .long x :: .int i :: .ref a :: t => f x i a t
  | _ => none
def sRIR (st : List Value) (f : Nat → Int32 → Nat → List Value → Option α) : Option α := match st with
  | .ref x :: .int i :: .ref a :: t => f x i a t
  | _ => none
def sVR (st : List Value) (f : Value → Nat → List Value → Option α) : Option α := match st with
  | v :: .ref a :: t => f v a t
  | _ => none
def sV (st : List Value) (f : Value → List Value → Option α) : Option α := match st with
  | v :: t => f v t
  | _ => none
def sCpy (st : List Value) (f : Nat → Int32 → Nat → Int32 → Int32 → List Value → Option α) : Option α := match st with
  | .int n :: .int dp :: .ref a1 :: .int sp :: .ref a0 :: t => f a0 sp a1 dp n t
  | _ => none
def sIF (st : List Value) (f : Int32 → Nat → List Value → Option α) (g : Int32 → List Value → Option α) : Option α := match st with
  | .int i :: .ref a :: t => f i a t
  | .int i :: .float _ :: t => g i t
  | _ => none
def sRF (st : List Value) (f : Nat → List Value → Option α) (g : List Value → Option α) : Option α := match st with
  | .ref a :: t => f a t
  | .float _ :: t => g t
  | _ => none
def oSc (sc : Option (Nat × (Nat → Int32))) (f : Nat → (Nat → Int32) → Option α) : Option α := match sc with
  | some (n, g) => f n g
  | none => none
def hO (h : eH) (a : Nat) (f : Nat → List Value → Option α) : Option α := match h.1 a with
  | .inr (ci, fs) => f ci fs
  | _ => none
def hI (h : eH) (a : Nat) (tg : Nat) (f : Nat → (Nat → Int32) → Option α) : Option α := match h.1 a with
  | .inl (t, n, .inl g) => bif Nat.beq t tg then f n g else none
  | _ => none
def hL (h : eH) (a : Nat) (f : Nat → (Nat → Int64) → Option α) : Option α := match h.1 a with
  | .inl (t, n, .inr (.inl g)) => bif Nat.beq t 1 then f n g else none
  | _ => none
def hQ (h : eH) (a : Nat) (f : Nat → Nat → (Nat → Option Nat) → Option α) : Option α := match h.1 a with
  | .inl (t, n, .inr (.inr (.inr (.inr g)))) => bif Nat.ble 3 t && Nat.ble t 6 then f t n g else none
  | _ => none
def hN (h : eH) (a : Nat) (f : Nat → Option α) : Option α := match h.1 a with
  | .inl (t, n, _) => bif Nat.ble t 6 then f n else none
  | _ => none
def inR (i : Int32) (n : Nat) (o : Option α) : Option α := if i < 0 ∨ n ≤ i.toNatClampNeg then none else o
def bo (b : Bool) (o : Option α) : Option α := bif b then o else none
end EVO
def okv (ty : FieldType) (v : Value) : Bool := match ty, v with
  | .int, .int _ => true
  | .long, .long _ => true
  | .boolean, .int x => x == 0 || x == 1
  | .object _, .ref _ => true
  | .array _, .ref _ => true
  | _, _ => false
def eUp (h : eH) (a : Nat) (e : va_E) : eH := (va_up h.1 a e, h.2.1, h.2.2)
def eDf (ci : Nat) : List Value := (qYs.getD ci []).map defaultValue
def eInv (M : eM) (j : Nat) (as t : List Value) (h : eH) (k : List Value → eH → eO) : eO := bo (Nat.ble (eSum t) 8) (match M j as h with
  | some (v, h') => k (v.toList ++ t) h'
  | none => none)
def eVirt (M : eM) (r : eRow) (ls : eL) (st : List Value) (h : eH) : eO := sR (st.drop r.2.2.2.2.1) (fun a t => eInv M r.2.2.2.1 (.ref a :: (st.take r.2.2.2.2.1).reverse) t h (fun s h' => some (.inl (r.1 + 3, ls, s, h'))))
def eStat (M : eM) (r : eRow) (ls : eL) (st : List Value) (h : eH) : eO := bo (Nat.ble r.2.2.2.2.1 st.length) (eInv M r.2.2.2.1 (st.take r.2.2.2.2.1).reverse (st.drop r.2.2.2.2.1) h (fun s h' => some (.inl (r.1 + 3, ls, s, h'))))
def eCpy (pc : Nat) (ls : eL) (st : List Value) (h : eH) : eO := sCpy st (fun a0 sp a1 dp n t => hI h a0 0 (fun n0 f => hI h a1 0 (fun n1 g => bo (Nat.ble (eSum t) 8) (if sp < 0 ∨ dp < 0 ∨ n < 0 ∨ n0 < sp.toNatClampNeg + n.toNatClampNeg ∨ n1 < dp.toNatClampNeg + n.toNatClampNeg then none else some (.inl (pc + 3, ls, t, eUp h a1 (.inl (0, n1, .inl (va_cpy f g sp.toNatClampNeg dp.toNatClampNeg n.toNatClampNeg)))))))))
def eNewA (pc : Nat) (ls : eL) (st : List Value) (h : eH) (z : vp_A → (Nat × vp_A)) (q : Nat → vp_A) (len : Nat) : eO := sI st (fun c t => if c < 0 ∨ 1000000 < c.toNatClampNeg then none else some (.inl (pc + len, ls, .ref h.2.1 :: t, (va_up h.1 h.2.1 (.inl (z (q c.toNatClampNeg))), h.2.1 + 1, h.2.2 + c.toNatClampNeg))))
def eNewAt (a : ArrayType) (pc : Nat) (ls : eL) (st : List Value) (h : eH) : eO := match a with
  | .int => eNewA pc ls st h (fun x => (0, x)) (fun n => (n, .inl (fun _ => 0))) 2
  | .long => eNewA pc ls st h (fun x => (1, x)) (fun n => (n, .inr (.inl (fun _ => 0)))) 2
  | .boolean => eNewA pc ls st h (fun x => (2, x)) (fun n => (n, .inl (fun _ => 0))) 2
  | _ => none
def eMul (r : eRow) (ls : eL) (st : List Value) (h : eH) : eO := sII st (fun n k t => if n < 0 ∨ k < 0 ∨ 1000 < n.toNatClampNeg ∨ 1000 < k.toNatClampNeg then none else some (.inl (r.1 + 4, ls, .ref h.2.1 :: t,
  ((fun i => if i = h.2.1 then .inl (r.2.2.2.1, n.toNatClampNeg, .inr (.inr (.inr (.inr (fun j => if j < n.toNatClampNeg then some (h.2.1 + 1 + j) else none))))) else if h.2.1 < i ∧ i < h.2.1 + 1 + n.toNatClampNeg then .inl (r.2.2.2.2.1, k.toNatClampNeg, (bif Nat.beq r.2.2.2.2.1 0 then .inl (fun _ => 0) else .inr (.inl (fun _ => 0)))) else h.1 i), h.2.1 + 1 + n.toNatClampNeg, h.2.2 + n.toNatClampNeg + n.toNatClampNeg * k.toNatClampNeg))))
def eSw (pc : Nat) (x : Int32) (dflt lo hi : Int) (offs : Array Int) : Option Int := if x.toInt < lo ∨ hi < x.toInt then some ((pc : Int) + dflt) else (offs[(x.toInt - lo).toNat]?).map (fun o => (pc : Int) + o)
/-- one instruction -/
def estep (sc : eSc) (M : eM) (r : eRow) (ls : eL) (st : List Value) (h : eH) : eO :=
  match r.2.1 with
  | .aload_n n => oA (ls.getD n.val none) (fun v => some (.inl (r.1 + 1, ls, v :: st, h)))
  | .aload n => oA (ls.getD n none) (fun v => some (.inl (r.1 + 2, ls, v :: st, h)))
  | .iload_n n => oI (ls.getD n.val none) (fun v => some (.inl (r.1 + 1, ls, .int v :: st, h)))
  | .iload n => oI (ls.getD n none) (fun v => some (.inl (r.1 + 2, ls, .int v :: st, h)))
  | .lload_n n => oL (ls.getD n.val none) (fun v => some (.inl (r.1 + 1, ls, .long v :: st, h)))
  | .lload n => oL (ls.getD n none) (fun v => some (.inl (r.1 + 2, ls, .long v :: st, h)))
  | .istore_n n => sI st (fun x t => some (.inl (r.1 + 1, eSet1 ls n.val (.int x), t, h)))
  | .istore n => sI st (fun x t => some (.inl (r.1 + 2, eSet1 ls n (.int x), t, h)))
  | .astore_n n => sR st (fun x t => some (.inl (r.1 + 1, eSet1 ls n.val (.ref x), t, h)))
  | .astore n => sR st (fun x t => some (.inl (r.1 + 2, eSet1 ls n (.ref x), t, h)))
  | .lstore_n n => sL st (fun x t => some (.inl (r.1 + 1, eSet2 ls n.val (.long x), t, h)))
  | .lstore n => sL st (fun x t => some (.inl (r.1 + 2, eSet2 ls n (.long x), t, h)))
  | .iinc i n => oI (ls.getD i none) (fun x => some (.inl (r.1 + 3, eSet1 ls i (.int (x + Int32.ofInt n)), st, h)))
  | .iconst n => some (.inl (r.1 + 1, ls, .int (Int32.ofInt n) :: st, h))
  | .bipush n => some (.inl (r.1 + 2, ls, .int (Int8.ofInt n).toInt32 :: st, h))
  | .sipush n => some (.inl (r.1 + 3, ls, .int (Int16.ofInt n).toInt32 :: st, h))
  | .lconst n => some (.inl (r.1 + 1, ls, .long (Int64.ofNat n.val) :: st, h))
  | .ldc _ => some (.inl (r.1 + 2, ls, .int (Int32.ofNat r.2.2.2.1) :: st, h))
  | .ldc2_w _ => some (.inl (r.1 + 3, ls, .long (bif Nat.beq r.2.2.2.2.1 0 then Int64.ofNat r.2.2.2.1 else -Int64.ofNat r.2.2.2.1) :: st, h))
  | .iadd => sII st (fun x y t => some (.inl (r.1 + 1, ls, .int (x + y) :: t, h)))
  | .isub => sII st (fun x y t => some (.inl (r.1 + 1, ls, .int (x - y) :: t, h)))
  | .imul => sII st (fun x y t => some (.inl (r.1 + 1, ls, .int (x * y) :: t, h)))
  | .iand => sII st (fun x y t => some (.inl (r.1 + 1, ls, .int (x &&& y) :: t, h)))
  | .ior => sII st (fun x y t => some (.inl (r.1 + 1, ls, .int (x ||| y) :: t, h)))
  | .ishr => sII st (fun x y t => some (.inl (r.1 + 1, ls, .int (x >>> (y &&& 31)) :: t, h)))
  | .iushr => sII st (fun x y t => some (.inl (r.1 + 1, ls, .int (x.toUInt32 >>> (y.toUInt32 &&& Int32.toUInt32 31)).toInt32 :: t, h)))
  | .idiv => sII st (fun x y t => if y = 0 then none else some (.inl (r.1 + 1, ls, .int (x / y) :: t, h)))
  | .irem => sII st (fun x y t => if y = 0 then none else some (.inl (r.1 + 1, ls, .int (x - x / y * y) :: t, h)))
  | .ineg => sI st (fun x t => some (.inl (r.1 + 1, ls, .int (-x) :: t, h)))
  | .ladd => sLL st (fun x y t => some (.inl (r.1 + 1, ls, .long (x + y) :: t, h)))
  | .lsub => sLL st (fun x y t => some (.inl (r.1 + 1, ls, .long (x - y) :: t, h)))
  | .lmul => sLL st (fun x y t => some (.inl (r.1 + 1, ls, .long (x * y) :: t, h)))
  | .land => sLL st (fun x y t => some (.inl (r.1 + 1, ls, .long (x &&& y) :: t, h)))
  | .lor => sLL st (fun x y t => some (.inl (r.1 + 1, ls, .long (x ||| y) :: t, h)))
  | .lxor => sLL st (fun x y t => some (.inl (r.1 + 1, ls, .long (x ^^^ y) :: t, h)))
  | .ldiv => sLL st (fun x y t => if y = 0 then none else some (.inl (r.1 + 1, ls, .long (x / y) :: t, h)))
  | .lrem => sLL st (fun x y t => if y = 0 then none else some (.inl (r.1 + 1, ls, .long (x - x / y * y) :: t, h)))
  | .lneg => sL st (fun x t => some (.inl (r.1 + 1, ls, .long (-x) :: t, h)))
  | .lshl => sLI st (fun x y t => some (.inl (r.1 + 1, ls, .long (x <<< (y.toInt64 &&& 63)) :: t, h)))
  | .lcmp => sLL st (fun x y t => some (.inl (r.1 + 1, ls, .int (lg_cmp x y) :: t, h)))
  | .i2l => sI st (fun x t => some (.inl (r.1 + 1, ls, .long x.toInt64 :: t, h)))
  | .l2i => sL st (fun x t => some (.inl (r.1 + 1, ls, .int x.toInt32 :: t, h)))
  | .i2b => sI st (fun x t => some (.inl (r.1 + 1, ls, .int x.toInt8.toInt32 :: t, h)))
  | .i2s => sI st (fun x t => some (.inl (r.1 + 1, ls, .int x.toInt16.toInt32 :: t, h)))
  | .dup => sV st (fun v t => bo (Nat.beq v.category 1) (some (.inl (r.1 + 1, ls, v :: v :: t, h))))
  | .pop => sV st (fun v t => bo (Nat.beq v.category 1) (some (.inl (r.1 + 1, ls, t, h))))
  | .dup2 => sV st (fun v t => sV t (fun u t => bo (Nat.beq v.category 1 && Nat.beq u.category 1) (some (.inl (r.1 + 1, ls, v :: u :: v :: u :: t, h)))))
  | .goto _ => some (.inl (r.2.2.2.1, ls, st, h))
  | .ifCond c _ => sI st (fun x t => match c with
    | .eq => if x = 0 then some (.inl (r.2.2.2.1, ls, t, h)) else some (.inl (r.1 + 3, ls, t, h))
    | .ne => if x = 0 then some (.inl (r.1 + 3, ls, t, h)) else some (.inl (r.2.2.2.1, ls, t, h))
    | .lt => if x < 0 then some (.inl (r.2.2.2.1, ls, t, h)) else some (.inl (r.1 + 3, ls, t, h))
    | .ge => if 0 ≤ x then some (.inl (r.2.2.2.1, ls, t, h)) else some (.inl (r.1 + 3, ls, t, h))
    | .gt => if 0 < x then some (.inl (r.2.2.2.1, ls, t, h)) else some (.inl (r.1 + 3, ls, t, h))
    | .le => if x ≤ 0 then some (.inl (r.2.2.2.1, ls, t, h)) else some (.inl (r.1 + 3, ls, t, h)))
  | .if_icmp c _ => sII st (fun x y t => match c with
    | .eq => if x = y then some (.inl (r.2.2.2.1, ls, t, h)) else some (.inl (r.1 + 3, ls, t, h))
    | .ne => if x = y then some (.inl (r.1 + 3, ls, t, h)) else some (.inl (r.2.2.2.1, ls, t, h))
    | .lt => if x < y then some (.inl (r.2.2.2.1, ls, t, h)) else some (.inl (r.1 + 3, ls, t, h))
    | .ge => if y ≤ x then some (.inl (r.2.2.2.1, ls, t, h)) else some (.inl (r.1 + 3, ls, t, h))
    | .gt => if y < x then some (.inl (r.2.2.2.1, ls, t, h)) else some (.inl (r.1 + 3, ls, t, h))
    | .le => if x ≤ y then some (.inl (r.2.2.2.1, ls, t, h)) else some (.inl (r.1 + 3, ls, t, h)))
  | .tableswitch d lo hi offs => sI st (fun x t => match eSw r.1 x d lo hi offs with
    | some z => if 0 ≤ z then some (.inl (z.toNat, ls, t, h)) else none
    | none => none)
  | .getfield _ => sR st (fun a t => hO h a (fun ci fs => bo (Nat.beq ci r.2.2.2.1) (match fs[r.2.2.2.2.1]? with
    | some v => some (.inl (r.1 + 3, ls, v :: t, h))
    | none => none)))
  | .putfield _ => sVR st (fun v a t => hO h a (fun ci fs => bo (Nat.beq ci r.2.2.2.1 && okv (qty ci r.2.2.2.2.1) v && Nat.blt r.2.2.2.2.1 fs.length) (some (.inl (r.1 + 3, ls, t, eUp h a (.inr (ci, fs.set r.2.2.2.2.1 v)))))))
  | .iaload => sIF st (fun i a t => hI h a 0 (fun n f => inR i n (some (.inl (r.1 + 1, ls, .int (f i.toNatClampNeg) :: t, h))))) (fun i t => oSc sc (fun n f => inR i n (some (.inl (r.1 + 1, ls, .int (f i.toNatClampNeg) :: t, h)))))
  | .baload => sIR st (fun i a t => hI h a 2 (fun n f => inR i n (some (.inl (r.1 + 1, ls, .int (f i.toNatClampNeg) :: t, h)))))
  | .laload => sIR st (fun i a t => hL h a (fun n f => inR i n (some (.inl (r.1 + 1, ls, .long (f i.toNatClampNeg) :: t, h)))))
  | .aaload => sIR st (fun i a t => hQ h a (fun _ n f => inR i n (match f i.toNatClampNeg with
    | some q => some (.inl (r.1 + 1, ls, .ref q :: t, h))
    | none => none)))
  | .iastore => sIIR st (fun x i a t => hI h a 0 (fun n f => inR i n (some (.inl (r.1 + 1, ls, t, eUp h a (.inl (0, n, .inl (upd f i.toNatClampNeg x))))))))
  | .bastore => sIIR st (fun x i a t => hI h a 2 (fun n f => inR i n (bo (x == 0 || x == 1) (some (.inl (r.1 + 1, ls, t, eUp h a (.inl (2, n, .inl (upd f i.toNatClampNeg x)))))))))
  | .lastore => sLIR st (fun x i a t => hL h a (fun n f => inR i n (some (.inl (r.1 + 1, ls, t, eUp h a (.inl (1, n, .inr (.inl (vp_updL f i.toNatClampNeg x)))))))))
  | .aastore => sRIR st (fun v i a t => hQ h a (fun tg n f => hO h v (fun cv _ => bo ((Nat.beq tg 3 && Nat.beq cv 9) || (Nat.beq tg 4 && Nat.beq cv 8)) (inR i n (some (.inl (r.1 + 1, ls, t, eUp h a (.inl (tg, n, .inr (.inr (.inr (.inr (va_up f i.toNatClampNeg (some v))))))))))))))
  | .arraylength => sRF st (fun a t => hN h a (fun n => some (.inl (r.1 + 1, ls, .int (Int32.ofNat n) :: t, h)))) (fun t => oSc sc (fun n _ => some (.inl (r.1 + 1, ls, .int (Int32.ofNat n) :: t, h))))
  | .new _ => bo (Nat.blt r.2.2.2.1 12) (some (.inl (r.1 + 3, ls, .ref h.2.1 :: st, (va_up h.1 h.2.1 (.inr (r.2.2.2.1, eDf r.2.2.2.1)), h.2.1 + 1, h.2.2 + (eDf r.2.2.2.1).length))))
  | .newarray a => eNewAt a r.1 ls st h
  | .anewarray _ => eNewA r.1 ls st h (fun x => (r.2.2.2.1, x)) (fun n => (n, .inr (.inr (.inr (.inr (fun _ => none)))))) 3
  | .multianewarray _ _ => eMul r ls st h
  | .invokevirtual _ => eVirt M r ls st h
  | .invokespecial _ => bif Nat.beq r.2.2.2.1 9999 then sR st (fun _ t => bo (Nat.ble (eSum t) 8) (some (.inl (r.1 + 3, ls, t, h)))) else eVirt M r ls st h
  | .invokestatic _ => bif Nat.beq r.2.2.2.1 9998 then eCpy r.1 ls st h else eStat M r ls st h
  | .ireturn => (match st with
    | [.int x] => bo (Nat.beq r.2.2.2.1 0 || (x == 0 || x == 1)) (some (.inr (some (.int x), h)))
    | _ => none)
  | .lreturn => (match st with
    | [.long x] => some (.inr (some (.long x), h))
    | _ => none)
  | .areturn => (match st with
    | [.ref x] => some (.inr (some (.ref x), h))
    | _ => none)
  | .return_ => (match st with
    | [] => some (.inr (none, h))
    | _ => none)
  | _ => none
def eExec : Nat → eSc → eM → List eRow → eS → Option eR
  | 0, _, _, _, _ => none
  | f + 1, sc, M, tb, q => match eFind tb q.1 with
    | none => none
    | some r => match estep sc M r q.2.1 q.2.2.1 q.2.2.2 with
      | none => none
      | some (.inl q') => eExec f sc M tb q'
      | some (.inr x) => some x
theorem eExec_mono {sc : eSc} {M : eM} {tb : List eRow} : ∀ {f : Nat} {q : eS} {x : eR}, eExec f sc M tb q = some x → ∀ d, eExec (f + d) sc M tb q = some x := by
  intro f
  induction f with
  | zero => intro q x h; cases h
  | succ f ih =>
    intro q x h d
    rw [show f + 1 + d = (f + d) + 1 by omega]
    unfold eExec at h ⊢
    cases hf : eFind tb q.1 with
    | none => rw [hf] at h; cases h
    | some r =>
      rw [hf] at h
      dsimp only at h ⊢
      cases hs : estep sc M r q.2.1 q.2.2.1 q.2.2.2 with
      | none => rw [hs] at h; cases h
      | some y =>
        rw [hs] at h
        cases y with
        | inl q' => exact ih h d
        | inr z => exact h
def eRuns (sc : eSc) (M : eM) (tb : List eRow) (q : eS) (x : eR) : Prop := ∃ f, eExec f sc M tb q = some x
theorem eRuns_det {sc : eSc} {M : eM} {tb : List eRow} {q : eS} {x y : eR} (h1 : eRuns sc M tb q x) (h2 : eRuns sc M tb q y) : x = y := by
  obtain ⟨f, h1⟩ := h1
  obtain ⟨g, h2⟩ := h2
  have a := eExec_mono h1 g
  have b := eExec_mono h2 f
  rw [show g + f = f + g by omega] at b
  exact Option.some.inj (a.symm.trans b)
noncomputable def eRun (sc : eSc) (M : eM) (tb : List eRow) (q : eS) : Option eR := @dite _ (∃ x, eRuns sc M tb q x) (Classical.propDecidable _) (fun h => some h.choose) (fun _ => none)
theorem eRun_iff {sc : eSc} {M : eM} {tb : List eRow} {q : eS} {x : eR} : eRun sc M tb q = some x ↔ eRuns sc M tb q x := by
  unfold eRun
  by_cases h : ∃ x, eRuns sc M tb q x
  · rw [dif_pos h]
    constructor
    · intro e
      rw [← Option.some.inj e]
      exact h.choose_spec
    · intro e
      rw [eRuns_det h.choose_spec e]
  · rw [dif_neg h]
    constructor
    · intro e; cases e
    · intro e; exact absurd ⟨x, e⟩ h
theorem eRun_ext {sc : eSc} {M : eM} {tb : List eRow} {q q' : eS} (h : ∀ x, eRuns sc M tb q x ↔ eRuns sc M tb q' x) : eRun sc M tb q = eRun sc M tb q' := by
  cases h1 : eRun sc M tb q with
  | some x => exact (eRun_iff.mpr ((h x).mp (eRun_iff.mp h1))).symm
  | none =>
    cases h2 : eRun sc M tb q' with
    | none => rfl
    | some y =>
      have := eRun_iff.mpr ((h y).mpr (eRun_iff.mp h2))
      rw [h1] at this
      cases this
theorem eRun_go {sc : eSc} {M : eM} {tb : List eRow} {q q' : eS} {r : eRow} (hf : eFind tb q.1 = some r) (hs : estep sc M r q.2.1 q.2.2.1 q.2.2.2 = some (.inl q')) : eRun sc M tb q = eRun sc M tb q' := by
  refine eRun_ext fun x => ⟨?_, ?_⟩
  · rintro ⟨f, h⟩
    cases f with
    | zero => cases h
    | succ f =>
      unfold eExec at h
      rw [hf] at h
      dsimp only at h
      rw [hs] at h
      exact ⟨f, h⟩
  · rintro ⟨f, h⟩
    refine ⟨f + 1, ?_⟩
    unfold eExec
    rw [hf]
    dsimp only
    rw [hs]
    exact h
theorem eRun_end {sc : eSc} {M : eM} {tb : List eRow} {q : eS} {r : eRow} {x : eR} (hf : eFind tb q.1 = some r) (hs : estep sc M r q.2.1 q.2.2.1 q.2.2.2 = some (.inr x)) : eRun sc M tb q = some x := by
  refine eRun_iff.mpr ⟨1, ?_⟩
  unfold eExec
  rw [hf]
  dsimp only
  rw [hs]
theorem eRun_no {sc : eSc} {M : eM} {tb : List eRow} {q : eS} {r : eRow} (hf : eFind tb q.1 = some r) (hs : estep sc M r q.2.1 q.2.2.1 q.2.2.2 = none) : eRun sc M tb q = none := by
  cases h : eRun sc M tb q with
  | none => rfl
  | some x =>
    obtain ⟨f, h⟩ := eRun_iff.mp h
    cases f with
    | zero => cases h
    | succ f =>
      unfold eExec at h
      rw [hf] at h
      dsimp only at h
      rw [hs] at h
      cases h
end
section
/-! HOW A HEAP OF THE EVALUATOR LIES IN THE MACHINE: cell i at base + i; the script's cell is b (its reference is written as a float) -/
def qbad : va_E := .inr (99, [])
def lf (b base : Nat) (v : Value) : Value := match v with
  | .ref i => .ref (base + i)
  | .float _ => .ref b
  | v => v
def lfE (dA : Nat → ClassId) (b base : Nat) (x : va_E) : va_E := match x with
  | .inl (t, n, .inr (.inr (.inr (.inr g)))) => .inl (dA t, n, .inr (.inr (.inr (.inr (fun j => (g j).map (base + ·))))))
  | .inl (t, a) => .inl (dA t, a)
  | .inr (ci, fs) => .inr (ci, fs.map (lf b base))
def wl (dA : Nat → ClassId) (b base : Nat) (h : eH) : va_W := (List.range h.2.1).map (fun i => (base + i, lfE dA b base (h.1 i)))
def WH (D : va_G) (dA : Nat → ClassId) (b base : Nat) (h : eH) (H : Heap) : Prop := H.size = base + h.2.1 ∧ va_P D qcls (wl dA b base h) H ∧ ∀ i, h.2.1 ≤ i → h.1 i = qbad
abbrev tysL (dA : Nat → ClassId) : List (ClassId × FieldType) := [(dA 0, .int), (dA 1, .long), (dA 2, .boolean), (dA 3, .object "TensionNet$Whole"), (dA 4, .object "TensionNet$Triple"), (dA 5, .array .int), (dA 6, .array .long)]
def qOv : List FieldType := [.object "TensionNet$Whole", .object "TensionNet$Triple", .array .int, .array .long]
def qNe : List (String × Nat × MethodName) := [("TensionNet", 25, ⟨"TensionNet$Desk", "<init>", "()V"⟩), ("TensionNet$Desk", 11, ⟨"TensionNet$Divider", "<init>", "()V"⟩), ("TensionNet", 72, ⟨"TensionNet$Net", "<init>", "()V"⟩)]
def KK (D : va_G) (dA : Nat → ClassId) (U : State) : Prop := va_K D qcls (tysL dA) U ∧ (∀ t ∈ qOv, (Cond.arrayOver t).before #[] U = true) ∧ ∀ q ∈ qNe, va_Nw (.methodLinkNest q.1 q.2.1 q.2.2 "TensionNet") U
theorem ao_moved {t : FieldType} {A A' : Array Value} {u U : State} (hvm : u.vm.Alike U.vm) (h : (Cond.arrayOver t).before A u = true) : (Cond.arrayOver t).before A' U = true := by
  have h1 : (Cond.arrayOver t).before A (u.setVm U.vm) = true := by rw [Cond.arrayOver_setVmC hvm]; exact h
  exact h1
theorem KK.warm {D : va_G} {dA : Nat → ClassId} {s U : State} (hW : s.WarmedH U.vm) (h : KK D dA s) : KK D dA U := ⟨va_K.moved hW.alike h.1, fun t ht => ao_moved hW.alike (h.2.1 t ht), fun q hq => va_Nw.warmM hW (h.2.2 q hq)⟩
theorem KK.same {D : va_G} {dA : Nat → ClassId} {s U : State} (hv : s.vm = U.vm) (h : KK D dA s) : KK D dA U := ⟨va_K.moved (by rw [hv]; exact Vm.Alike.refl _) h.1, fun t ht => ao_moved (by rw [hv]; exact Vm.Alike.refl _) (h.2.1 t ht), fun q hq => (h.2.2 q hq).same rfl hv⟩
theorem wl_len {dA : Nat → ClassId} {b base : Nat} {h : eH} : (wl dA b base h).length = h.2.1 := by simp [wl]
theorem wl_at {dA : Nat → ClassId} {b base : Nat} {h : eH} {i : Nat} (hi : i < h.2.1) : (wl dA b base h)[i]? = some (base + i, lfE dA b base (h.1 i)) := by
  unfold wl
  rw [List.getElem?_map, List.getElem?_range hi]
  rfl
theorem wl_set {dA : Nat → ClassId} {b base : Nat} {h : eH} {i : Nat} {e : va_E} (hi : i < h.2.1) : (wl dA b base h).set i (base + i, lfE dA b base e) = wl dA b base (eUp h i e) := by
  refine List.ext_getElem? fun j => ?_
  by_cases hj : j < h.2.1
  · rw [wl_at (h := eUp h i e) hj]
    by_cases hij : i = j
    · subst hij
      rw [List.getElem?_set_self (by rw [wl_len]; exact hi)]
      simp [eUp, va_up]
    · rw [List.getElem?_set_ne hij, wl_at hj]
      simp [eUp, va_up, Ne.symm hij]
  · rw [List.getElem?_eq_none (by rw [List.length_set, wl_len]; omega), List.getElem?_eq_none (by rw [wl_len]; show h.2.1 ≤ j; omega)]
theorem wl_push {dA : Nat → ClassId} {b base : Nat} {h : eH} {e : va_E} {k : Nat} : wl dA b base h ++ [(base + h.2.1, lfE dA b base e)] = wl dA b base (va_up h.1 h.2.1 e, h.2.1 + 1, k) := by
  unfold wl
  dsimp only
  rw [List.range_succ, List.map_append]
  congr 1
  · refine List.map_congr_left fun i hi => ?_
    have : i < h.2.1 := List.mem_range.mp hi
    rw [show va_up h.1 h.2.1 e i = h.1 i from if_neg (by omega)]
  · show _ = [(base + h.2.1, lfE dA b base (va_up h.1 h.2.1 e h.2.1))]
    rw [show va_up h.1 h.2.1 e h.2.1 = e from if_pos rfl]
theorem wl_D {dA : Nat → ClassId} {b base : Nat} {h : eH} : va_D (fun q => base ≤ q) (wl dA b base h) := by
  have key : ∀ (i : Nat) (q : Nat × va_E), (wl dA b base h)[i]? = some q → q.1 = base + i := by
    intro i q hq
    have hi : i < h.2.1 := by rw [← wl_len (dA := dA) (b := b) (base := base)]; exact (List.getElem?_eq_some_iff.mp hq).1
    rw [wl_at hi] at hq
    cases hq
    rfl
  refine ⟨fun i j x y hi hj hxy => ?_, fun k q hk => ?_⟩
  · have := key i x hi
    have := key j y hj
    omega
  · rw [key k q hk]
    exact Nat.le_add_right _ _
theorem WH.lt {D : va_G} {dA : Nat → ClassId} {b base : Nat} {h : eH} {H : Heap} (hw : WH D dA b base h H) {a : Nat} {e : va_E} (he : h.1 a = e) (hne : e ≠ qbad) : a < h.2.1 := by
  by_cases hlt : a < h.2.1
  · exact hlt
  · exact absurd (he.symm.trans (hw.2.2 a (by omega))) hne
theorem WH.up {D : va_G} {dA : Nat → ClassId} {b base : Nat} {h : eH} {H H1 : Heap} (hw : WH D dA b base h H) {a : Nat} {e : va_E} (ha : a < h.2.1) (hz : H1.size = H.size) (hP : va_P D qcls ((wl dA b base h).set a (base + a, lfE dA b base e)) H1) : WH D dA b base (eUp h a e) H1 := by
  refine ⟨by rw [hz]; exact hw.1, by rw [← wl_set ha]; exact hP, fun i hi => ?_⟩
  show va_up h.1 a e i = qbad
  rw [show va_up h.1 a e i = h.1 i from if_neg (by have : h.2.1 ≤ i := hi; omega)]
  exact hw.2.2 i hi
/-- the locals -/
def eEnt (b base : Nat) (ls : eL) : List (Nat × Value) := (List.range ls.length).filterMap (fun i => (ls.getD i none).map (fun v => (i, lf b base v)))
theorem eEnt_mem {b base : Nat} {ls : eL} {q : Nat × Value} : q ∈ eEnt b base ls ↔ ∃ v, ls.getD q.1 none = some v ∧ q.2 = lf b base v := by
  unfold eEnt
  rw [List.mem_filterMap]
  constructor
  · rintro ⟨i, -, hi⟩
    cases hv : ls.getD i none with
    | none => rw [hv] at hi; cases hi
    | some v =>
      rw [hv] at hi
      cases hi
      exact ⟨v, hv, rfl⟩
  · rintro ⟨v, hv, he⟩
    have hlt : q.1 < ls.length := by
      by_cases h : q.1 < ls.length
      · exact h
      · rw [List.getD_eq_getElem?_getD, List.getElem?_eq_none (by omega)] at hv
        cases hv
    refine ⟨q.1, List.mem_range.mpr hlt, ?_⟩
    rw [hv]
    show some (q.1, lf b base v) = some q
    rw [← he]
theorem lv_incl {arr : Array Slot} {nL : Nat} {l l' : List (Nat × Value)} (h : lv_has arr nL l) (hi : ∀ q ∈ l', q ∈ l) : lv_has arr nL l' := ⟨h.1, h.2.1, fun q hq => h.2.2 q (hi q hq)⟩
theorem ent_at {b base : Nat} {ls : eL} {arr : Array Slot} {nL i : Nat} {v : Value} (h : lv_has arr nL (eEnt b base ls)) (hv : ls.getD i none = some v) : arr[i]? = some (.val (lf b base v)) := h.2.2 (i, lf b base v) (eEnt_mem.mpr ⟨v, hv, rfl⟩)
theorem lf_cat (b base : Nat) (v : Value) : (lf b base v).category = v.category := by cases v <;> rfl
theorem getD_set_self {α : Type} {l : List α} {i : Nat} {v d u : α} (h : (l.set i v).getD i d = u) (hne : u ≠ d) : u = v := by
  rw [List.getD_eq_getElem?_getD] at h
  by_cases hi : i < l.length
  · rw [List.getElem?_set_self hi] at h
    exact h.symm
  · rw [List.getElem?_eq_none (by rw [List.length_set]; omega)] at h
    exact absurd h.symm hne
theorem getD_set_ne {α : Type} {l : List α} {i j : Nat} {v d : α} (h : j ≠ i) : (l.set i v).getD j d = l.getD j d := by
  rw [List.getD_eq_getElem?_getD, List.getD_eq_getElem?_getD, List.getElem?_set_ne (Ne.symm h)]
theorem eKl_some {o : Option Value} {v : Value} (h : eKl o = some v) : o = some v ∧ v.category = 1 := by
  unfold eKl at h
  split at h
  · cases h
  · cases h
  · next h1 h2 =>
    subst h
    refine ⟨rfl, ?_⟩
    cases v <;> first | rfl | exact absurd rfl (h1 _) | exact absurd rfl (h2 _)
theorem eKill_get {ls : eL} {i j : Nat} {v : Value} (hj : j ≠ i) (h : (eKill ls i).getD j none = some v) : ls.getD j none = some v ∧ ¬ (j + 1 = i ∧ v.category = 2) := by
  cases i with
  | zero => exact ⟨h, fun q => by omega⟩
  | succ i =>
    unfold eKill at h
    by_cases hji : j = i
    · subst hji
      have h2 := getD_set_self h (by simp)
      have h3 := eKl_some h2.symm
      exact ⟨h3.1, fun q => by rw [h3.2] at q; exact absurd q.2 (by decide)⟩
    · rw [getD_set_ne hji] at h
      exact ⟨h, fun q => by omega⟩
theorem eKill_len (ls : eL) (i : Nat) : (eKill ls i).length = ls.length := by
  cases i with
  | zero => rfl
  | succ i => exact List.length_set ..
theorem eSet1_len (ls : eL) (i : Nat) (v : Value) : (eSet1 ls i v).length = ls.length := by
  unfold eSet1
  rw [List.length_set, eKill_len]
theorem eSet2_len (ls : eL) (i : Nat) (v : Value) : (eSet2 ls i v).length = ls.length := by
  unfold eSet2
  rw [List.length_set, List.length_set, eKill_len]
theorem eSet1_in {b base : Nat} {ls : eL} {i : Nat} {v : Value} : ∀ q ∈ eEnt b base (eSet1 ls i v), q ∈ (i, lf b base v) :: (eEnt b base ls).filter (fun q => !(q.1 == i) && !(q.1 + 1 == i && q.2.category == 2)) := by
  intro q hq
  obtain ⟨u, hu, he⟩ := eEnt_mem.mp hq
  unfold eSet1 at hu
  by_cases hi : q.1 = i
  · rw [hi] at hu
    have := Option.some.inj (getD_set_self hu (by simp))
    subst this
    refine List.mem_cons.mpr (Or.inl ?_)
    rw [← hi, ← he]
  · rw [getD_set_ne hi] at hu
    obtain ⟨h1, h2⟩ := eKill_get hi hu
    refine List.mem_cons.mpr (Or.inr (List.mem_filter.mpr ⟨eEnt_mem.mpr ⟨u, h1, he⟩, ?_⟩))
    rw [he, lf_cat]
    simp only [Bool.and_eq_true, Bool.not_eq_true', beq_eq_false_iff_ne, ne_eq, Bool.and_eq_false_iff]
    refine ⟨hi, ?_⟩
    by_cases h3 : q.1 + 1 = i
    · exact Or.inr (fun h4 => h2 ⟨h3, h4⟩)
    · exact Or.inl h3
theorem eSet2_in {b base : Nat} {ls : eL} {i : Nat} {v : Value} : ∀ q ∈ eEnt b base (eSet2 ls i v), q ∈ (i, lf b base v) :: (eEnt b base ls).filter (fun q => !(q.1 == i) && (!(q.1 == i + 1) && !(q.1 + 1 == i && q.2.category == 2))) := by
  intro q hq
  obtain ⟨u, hu, he⟩ := eEnt_mem.mp hq
  unfold eSet2 at hu
  have h9 : q.1 ≠ i + 1 := by
    intro h
    rw [h] at hu
    have := getD_set_self hu (by simp)
    cases this
  rw [getD_set_ne h9] at hu
  by_cases hi : q.1 = i
  · rw [hi] at hu
    have := Option.some.inj (getD_set_self hu (by simp))
    subst this
    refine List.mem_cons.mpr (Or.inl ?_)
    rw [← hi, ← he]
  · rw [getD_set_ne hi] at hu
    obtain ⟨h1, h2⟩ := eKill_get hi hu
    refine List.mem_cons.mpr (Or.inr (List.mem_filter.mpr ⟨eEnt_mem.mpr ⟨u, h1, he⟩, ?_⟩))
    rw [he, lf_cat]
    simp only [Bool.and_eq_true, Bool.not_eq_true', beq_eq_false_iff_ne, ne_eq, Bool.and_eq_false_iff]
    refine ⟨hi, h9, ?_⟩
    by_cases h3 : q.1 + 1 = i
    · exact Or.inr (fun h4 => h2 ⟨h3, h4⟩)
    · exact Or.inl h3
/-- the locals at the entry -/
def entL (n : Nat) (as : List Value) : eL := as.flatMap (fun v => if v.category = 2 then [some v, none] else [some v]) ++ List.replicate (n - (as.flatMap (fun v => if v.category = 2 then [some v, none] else [some v])).length) none
theorem ent_args {b base : Nat} : ∀ (as : List Value) (i j : Nat) (v : Value) (t : eL), (∀ k, t.getD k none = none) → ((as.flatMap (fun v => if v.category = 2 then [some v, none] else [some v])) ++ t).getD j none = some v → (i + j, lf b base v) ∈ lv_args i (as.map (lf b base)) := by
  intro as
  induction as with
  | nil =>
    intro i j v t ht h
    rw [List.flatMap_nil, List.nil_append, ht] at h
    cases h
  | cons a as ih =>
    intro i j v t ht h
    show (i + j, lf b base v) ∈ (i, lf b base a) :: lv_args (if (lf b base a).category = 2 then i + 2 else i + 1) (as.map (lf b base))
    rw [lf_cat, List.flatMap_cons] at *
    by_cases hc : a.category = 2
    · rw [if_pos hc] at h ⊢
      match j, h with
      | 0, h => cases h; exact List.mem_cons_self
      | 1, h => cases h
      | j + 2, h =>
        have := ih (i + 2) j v t ht h
        rw [show i + (j + 2) = i + 2 + j by omega]
        exact List.mem_cons_of_mem _ this
    · rw [if_neg hc] at h ⊢
      match j, h with
      | 0, h => cases h; exact List.mem_cons_self
      | j + 1, h =>
        have := ih (i + 1) j v t ht h
        rw [show i + (j + 1) = i + 1 + j by omega]
        exact List.mem_cons_of_mem _ this
theorem entL_in {b base n : Nat} {as : List Value} : ∀ q ∈ eEnt b base (entL n as), q ∈ lv_args 0 (as.map (lf b base)) := by
  intro q hq
  obtain ⟨u, hu, he⟩ := eEnt_mem.mp hq
  have := ent_args (b := b) (base := base) as 0 q.1 u (List.replicate _ none) (fun k => by
    rw [List.getD_eq_getElem?_getD, List.getElem?_replicate]
    split <;> rfl) hu
  rw [Nat.zero_add, ← he] at this
  exact this
theorem entL_sl {b base : Nat} (as : List Value) : (lg_sl (as.map (lf b base))).length = (as.flatMap (fun v => if v.category = 2 then [some v, (none : Option Value)] else [some v])).length := by
  induction as with
  | nil => rfl
  | cons a as ih =>
    show (lg_sl (lf b base a :: as.map (lf b base))).length = _
    unfold lg_sl at ih ⊢
    rw [List.flatMap_cons, List.flatMap_cons, List.length_append, List.length_append, ih, lf_cat]
    by_cases hc : a.category = 2
    · rw [if_pos hc, if_pos hc]; rfl
    · rw [if_neg hc, if_neg hc]; rfl
theorem eSum_map {b base : Nat} (t : List Value) : ((t.map (lf b base)).map fun v => v.category).sum = eSum t := by
  induction t with
  | nil => rfl
  | cons v t ih =>
    simp only [List.map_cons, List.sum_cons, eSum, ih, lf_cat]
/-! what it takes that a step is one -/
section IV
variable {α : Type} {z : α}
theorem iv_oA {o : Option Value} {f : Value → Option α} (h : oA o f = some z) : ∃ v, o = some v ∧ ((∃ a, v = .ref a) ∨ ∃ a, v = .float a) ∧ f v = some z := by
  unfold oA at h
  split at h
  · exact ⟨_, rfl, Or.inl ⟨_, rfl⟩, h⟩
  · exact ⟨_, rfl, Or.inr ⟨_, rfl⟩, h⟩
  · cases h
theorem iv_oI {o : Option Value} {f : Int32 → Option α} (h : oI o f = some z) : ∃ x, o = some (.int x) ∧ f x = some z := by
  unfold oI at h
  split at h
  · exact ⟨_, rfl, h⟩
  · cases h
theorem iv_oL {o : Option Value} {f : Int64 → Option α} (h : oL o f = some z) : ∃ x, o = some (.long x) ∧ f x = some z := by
  unfold oL at h
  split at h
  · exact ⟨_, rfl, h⟩
  · cases h
theorem iv_sI {st : List Value} {f : Int32 → List Value → Option α} (h : sI st f = some z) : ∃ x t, st = .int x :: t ∧ f x t = some z := by
  unfold sI at h
  split at h
  · exact ⟨_, _, rfl, h⟩
  · cases h
theorem iv_sL {st : List Value} {f : Int64 → List Value → Option α} (h : sL st f = some z) : ∃ x t, st = .long x :: t ∧ f x t = some z := by
  unfold sL at h
  split at h
  · exact ⟨_, _, rfl, h⟩
  · cases h
theorem iv_sR {st : List Value} {f : Nat → List Value → Option α} (h : sR st f = some z) : ∃ x t, st = .ref x :: t ∧ f x t = some z := by
  unfold sR at h
  split at h
  · exact ⟨_, _, rfl, h⟩
  · cases h
theorem iv_sII {st : List Value} {f : Int32 → Int32 → List Value → Option α} (h : sII st f = some z) : ∃ x y t, st = .int y :: .int x :: t ∧ f x y t = some z := by
  unfold sII at h
  split at h
  · exact ⟨_, _, _, rfl, h⟩
  · cases h
theorem iv_sLL {st : List Value} {f : Int64 → Int64 → List Value → Option α} (h : sLL st f = some z) : ∃ x y t, st = .long y :: .long x :: t ∧ f x y t = some z := by
  unfold sLL at h
  split at h
  · exact ⟨_, _, _, rfl, h⟩
  · cases h
theorem iv_sLI {st : List Value} {f : Int64 → Int32 → List Value → Option α} (h : sLI st f = some z) : ∃ x y t, st = .int y :: .long x :: t ∧ f x y t = some z := by
  unfold sLI at h
  split at h
  · exact ⟨_, _, _, rfl, h⟩
  · cases h
theorem iv_sIR {st : List Value} {f : Int32 → Nat → List Value → Option α} (h : sIR st f = some z) : ∃ i a t, st = .int i :: .ref a :: t ∧ f i a t = some z := by
  unfold sIR at h
  split at h
  · exact ⟨_, _, _, rfl, h⟩
  · cases h
theorem iv_sIIR {st : List Value} {f : Int32 → Int32 → Nat → List Value → Option α} (h : sIIR st f = some z) : ∃ x i a t, st = .int x :: .int i :: .ref a :: t ∧ f x i a t = some z := by
  unfold sIIR at h
  split at h
  · exact ⟨_, _, _, _, rfl, h⟩
  · cases h
theorem iv_sLIR {st : List Value} {f : Int64 → Int32 → Nat → List Value → Option α} (h : sLIR st f = some z) : ∃ x i a t, st = .long x :: .int i :: .ref a :: t ∧ f x i a t = some z := by
  unfold sLIR at h
  split at h
  · exact ⟨_, _, _, _, rfl, h⟩
  · cases h
theorem iv_sRIR {st : List Value} {f : Nat → Int32 → Nat → List Value → Option α} (h : sRIR st f = some z) : ∃ x i a t, st = .ref x :: .int i :: .ref a :: t ∧ f x i a t = some z := by
  unfold sRIR at h
  split at h
  · exact ⟨_, _, _, _, rfl, h⟩
  · cases h
theorem iv_sVR {st : List Value} {f : Value → Nat → List Value → Option α} (h : sVR st f = some z) : ∃ v a t, st = v :: .ref a :: t ∧ f v a t = some z := by
  unfold sVR at h
  split at h
  · exact ⟨_, _, _, rfl, h⟩
  · cases h
theorem iv_sV {st : List Value} {f : Value → List Value → Option α} (h : sV st f = some z) : ∃ v t, st = v :: t ∧ f v t = some z := by
  unfold sV at h
  split at h
  · exact ⟨_, _, rfl, h⟩
  · cases h
theorem iv_sCpy {st : List Value} {f : Nat → Int32 → Nat → Int32 → Int32 → List Value → Option α} (h : sCpy st f = some z) : ∃ a0 sp a1 dp n t, st = .int n :: .int dp :: .ref a1 :: .int sp :: .ref a0 :: t ∧ f a0 sp a1 dp n t = some z := by
  unfold sCpy at h
  split at h
  · exact ⟨_, _, _, _, _, _, rfl, h⟩
  · cases h
theorem iv_sIF {st : List Value} {f : Int32 → Nat → List Value → Option α} {g : Int32 → List Value → Option α} (h : sIF st f g = some z) : (∃ i a t, st = .int i :: .ref a :: t ∧ f i a t = some z) ∨ ∃ i x t, st = .int i :: .float x :: t ∧ g i t = some z := by
  unfold sIF at h
  split at h
  · exact Or.inl ⟨_, _, _, rfl, h⟩
  · exact Or.inr ⟨_, _, _, rfl, h⟩
  · cases h
theorem iv_sRF {st : List Value} {f : Nat → List Value → Option α} {g : List Value → Option α} (h : sRF st f g = some z) : (∃ a t, st = .ref a :: t ∧ f a t = some z) ∨ ∃ x t, st = .float x :: t ∧ g t = some z := by
  unfold sRF at h
  split at h
  · exact Or.inl ⟨_, _, rfl, h⟩
  · exact Or.inr ⟨_, _, rfl, h⟩
  · cases h
theorem iv_oSc {sc : Option (Nat × (Nat → Int32))} {f : Nat → (Nat → Int32) → Option α} (h : oSc sc f = some z) : ∃ n g, sc = some (n, g) ∧ f n g = some z := by
  unfold oSc at h
  split at h
  · exact ⟨_, _, rfl, h⟩
  · cases h
theorem iv_bo {b : Bool} {o : Option α} (h : bo b o = some z) : b = true ∧ o = some z := by
  cases b with
  | false => cases h
  | true => exact ⟨rfl, h⟩
theorem iv_hO {h0 : eH} {a : Nat} {f : Nat → List Value → Option α} (h : hO h0 a f = some z) : ∃ ci fs, h0.1 a = .inr (ci, fs) ∧ f ci fs = some z := by
  unfold hO at h
  split at h
  · next e => exact ⟨_, _, e, h⟩
  · cases h
theorem iv_hI {h0 : eH} {a tg : Nat} {f : Nat → (Nat → Int32) → Option α} (h : hI h0 a tg f = some z) : ∃ n g, h0.1 a = .inl (tg, n, .inl g) ∧ f n g = some z := by
  unfold hI at h
  split at h
  · next t n g e =>
    obtain ⟨h1, h2⟩ := iv_bo h
    rw [Nat.eq_of_beq_eq_true h1] at e
    exact ⟨_, _, e, h2⟩
  · cases h
theorem iv_hL {h0 : eH} {a : Nat} {f : Nat → (Nat → Int64) → Option α} (h : hL h0 a f = some z) : ∃ n g, h0.1 a = .inl (1, n, .inr (.inl g)) ∧ f n g = some z := by
  unfold hL at h
  split at h
  · next t n g e =>
    obtain ⟨h1, h2⟩ := iv_bo h
    rw [Nat.eq_of_beq_eq_true h1] at e
    exact ⟨_, _, e, h2⟩
  · cases h
theorem iv_hQ {h0 : eH} {a : Nat} {f : Nat → Nat → (Nat → Option Nat) → Option α} (h : hQ h0 a f = some z) : ∃ t n g, h0.1 a = .inl (t, n, .inr (.inr (.inr (.inr g)))) ∧ 3 ≤ t ∧ t ≤ 6 ∧ f t n g = some z := by
  unfold hQ at h
  split at h
  · next t n g e =>
    obtain ⟨h1, h2⟩ := iv_bo h
    rw [Bool.and_eq_true] at h1
    exact ⟨_, _, _, e, Nat.le_of_ble_eq_true h1.1, Nat.le_of_ble_eq_true h1.2, h2⟩
  · cases h
theorem iv_hN {h0 : eH} {a : Nat} {f : Nat → Option α} (h : hN h0 a f = some z) : ∃ t x, h0.1 a = .inl (t, x) ∧ t ≤ 6 ∧ f x.1 = some z := by
  unfold hN at h
  split at h
  · next t n g e =>
    obtain ⟨h1, h2⟩ := iv_bo h
    exact ⟨_, _, e, Nat.le_of_ble_eq_true h1, h2⟩
  · cases h
theorem iv_in {i : Int32} {n : Nat} {o : Option α} (h : inR i n o = some z) : vp_in i n ∧ o = some z := by
  unfold inR at h
  by_cases hc : i < 0 ∨ n ≤ i.toNatClampNeg
  · rw [if_pos hc] at h; cases h
  · rw [if_neg hc] at h; exact ⟨hc, h⟩
end IV
end
section
/-! what is checked of the rows of code, and of the methods, by the kernel -/
abbrev eMI : Type := MethodName × ByteArray × Nat × Option FieldType × Bool × (Nat × Nat × Nat × Nat) × Nat × Nat × Nat
def wAt (i : Nat) (w : Cond) : Bool := lw_tbl[i]? == some w && goodWord w
theorem wAt_ok {i : Nat} {w : Cond} (h : wAt i w = true) : w ∈ gT := by
  simp only [wAt, Bool.and_eq_true, beq_iff_eq] at h
  exact gT_in i h.1 h.2
def mB (i : eMI) : Bool :=
  plainName i.1.cls && wAt i.2.2.2.2.2.1.1 (.code i.1 i.2.1 i.2.2.1 i.2.2.2.1) && (bif i.2.2.2.2.1 then wAt i.2.2.2.2.2.1.2.1 (.static i.1) else wAt i.2.2.2.2.2.1.2.1 (.instanceMethod i.1)) &&
  (i.2.2.2.2.1 || i.1.name == "<init>" || wAt i.2.2.2.2.2.1.2.2.1 (.selects i.1.cls i.1 i.1)) && wAt i.2.2.2.2.2.1.2.2.2 (.initialized i.1.cls) && (i.1.cls != "java/lang/invoke/MethodHandle" && i.1.cls != "java/lang/invoke/VarHandle") &&
  (i.2.2.2.2.1 || (match qcls[i.2.2.2.2.2.2.1]? with | some q => q.1 == i.1.cls | none => false))
def mOK (i : eMI) : Prop := plainName i.1.cls = true ∧ Cond.code i.1 i.2.1 i.2.2.1 i.2.2.2.1 ∈ gT ∧ (i.2.2.2.2.1 = true → Cond.static i.1 ∈ gT) ∧ (i.2.2.2.2.1 = false → Cond.instanceMethod i.1 ∈ gT) ∧ (i.2.2.2.2.1 = false → i.1.name ≠ "<init>" → Cond.selects i.1.cls i.1 i.1 ∈ gT) ∧ Cond.initialized i.1.cls ∈ gT ∧ (i.1.cls ≠ "java/lang/invoke/MethodHandle" ∧ i.1.cls ≠ "java/lang/invoke/VarHandle") ∧ (i.2.2.2.2.1 = false → ∃ q, qcls[i.2.2.2.2.2.2.1]? = some q ∧ q.1 = i.1.cls)
theorem mB_ok {i : eMI} (h : mB i = true) : mOK i := by
  simp only [mB, Bool.and_eq_true, Bool.or_eq_true, beq_iff_eq, bne_iff_ne, ne_eq] at h
  obtain ⟨⟨⟨⟨⟨⟨h1, h2⟩, h3⟩, h4⟩, h5⟩, h6⟩, h7⟩ := h
  refine ⟨h1, wAt_ok h2, fun hs => ?_, fun hs => ?_, fun hs hn => ?_, wAt_ok h5, h6, fun hs => ?_⟩
  · rw [hs] at h3; exact wAt_ok h3
  · rw [hs] at h3; exact wAt_ok h3
  · rcases h4 with (h4 | h4) | h4
    · rw [hs] at h4; cases h4
    · exact absurd h4 hn
    · exact wAt_ok h4
  · rcases h7 with h7 | h7
    · rw [hs] at h7; cases h7
    · split at h7
      · next q hq => exact ⟨q, hq, by simpa using h7⟩
      · cases h7
section CHK
variable (qm : Nat → eMI) (k : Nat)
/-- a call's own: the callee is an earlier method, its room fits, so many arguments -/
def cB (r : eRow) : Bool :=
  Nat.blt r.2.2.2.1 k && mB (qm r.2.2.2.1) && Nat.ble ((qm r.2.2.2.1).2.2.2.2.2.2.2.1 + 1) (qm k).2.2.2.2.2.2.2.1 && Nat.ble (8 + ((qm r.2.2.2.1).2.2.1 + 11) + (qm r.2.2.2.1).2.2.2.2.2.2.2.2) (qm k).2.2.2.2.2.2.2.2 && ((parseMethodDescriptor (qm r.2.2.2.1).1.desc).map (fun d => d.parameters.length) == some r.2.2.2.2.1)
def fB (r : eRow) (idx : Nat) : Bool := match qcls[r.2.2.2.1]? with
  | some q => Nat.blt r.2.2.2.2.1 q.2.2 && wAt r.2.2.2.2.2 (.fieldLink (qm k).1.cls idx q.1 (q.2.1 r.2.2.2.2.1).2.1 (q.2.1 r.2.2.2.2.1).2.2.1)
  | none => false
def pB (r : eRow) : Bool := match qcls[r.2.2.2.1]? with
  | some q => (q.2.1 r.2.2.2.2.1).2.2.2 == false || ((qm k).1.name == "<init>" && (qm k).1.cls == q.1)
  | none => false
def jB (r : eRow) (off : Int) : Bool := decide ((r.1 : Int) + off = (r.2.2.2.1 : Int)) && Nat.beq r.2.2.1 3
def iB (r : eRow) : Bool := match r.2.1 with
  | .aload_n _ => Nat.beq r.2.2.1 1
  | .aload _ => Nat.beq r.2.2.1 2
  | .iload_n _ => Nat.beq r.2.2.1 1
  | .iload _ => Nat.beq r.2.2.1 2
  | .lload_n _ => Nat.beq r.2.2.1 1
  | .lload _ => Nat.beq r.2.2.1 2
  | .istore_n n => Nat.beq r.2.2.1 1 && Nat.blt n.val (qm k).2.2.1
  | .istore n => Nat.beq r.2.2.1 2 && Nat.blt n (qm k).2.2.1
  | .astore_n n => Nat.beq r.2.2.1 1 && Nat.blt n.val (qm k).2.2.1
  | .astore n => Nat.beq r.2.2.1 2 && Nat.blt n (qm k).2.2.1
  | .lstore_n n => Nat.beq r.2.2.1 1 && Nat.blt (n.val + 1) (qm k).2.2.1
  | .lstore n => Nat.beq r.2.2.1 2 && Nat.blt (n + 1) (qm k).2.2.1
  | .iinc i _ => Nat.beq r.2.2.1 3 && Nat.blt i (qm k).2.2.1
  | .iconst _ => Nat.beq r.2.2.1 1
  | .bipush _ => Nat.beq r.2.2.1 2
  | .sipush _ => Nat.beq r.2.2.1 3
  | .lconst _ => Nat.beq r.2.2.1 1
  | .ldc i => Nat.beq r.2.2.1 2 && wAt r.2.2.2.2.2 (.constant (qm k).1.cls i (Int32.ofNat r.2.2.2.1))
  | .ldc2_w i => Nat.beq r.2.2.1 3 && wAt r.2.2.2.2.2 (.constantLong (qm k).1.cls i (bif Nat.beq r.2.2.2.2.1 0 then Int64.ofNat r.2.2.2.1 else -Int64.ofNat r.2.2.2.1))
  | .iadd => Nat.beq r.2.2.1 1
  | .isub => Nat.beq r.2.2.1 1
  | .imul => Nat.beq r.2.2.1 1
  | .iand => Nat.beq r.2.2.1 1
  | .ior => Nat.beq r.2.2.1 1
  | .ishr => Nat.beq r.2.2.1 1
  | .iushr => Nat.beq r.2.2.1 1
  | .idiv => Nat.beq r.2.2.1 1
  | .irem => Nat.beq r.2.2.1 1
  | .ineg => Nat.beq r.2.2.1 1
  | .ladd => Nat.beq r.2.2.1 1
  | .lsub => Nat.beq r.2.2.1 1
  | .lmul => Nat.beq r.2.2.1 1
  | .land => Nat.beq r.2.2.1 1
  | .lor => Nat.beq r.2.2.1 1
  | .lxor => Nat.beq r.2.2.1 1
  | .ldiv => Nat.beq r.2.2.1 1
  | .lrem => Nat.beq r.2.2.1 1
  | .lneg => Nat.beq r.2.2.1 1
  | .lshl => Nat.beq r.2.2.1 1
  | .lcmp => Nat.beq r.2.2.1 1
  | .i2l => Nat.beq r.2.2.1 1
  | .l2i => Nat.beq r.2.2.1 1
  | .i2b => Nat.beq r.2.2.1 1
  | .i2s => Nat.beq r.2.2.1 1
  | .dup => Nat.beq r.2.2.1 1
  | .pop => Nat.beq r.2.2.1 1
  | .dup2 => Nat.beq r.2.2.1 1
  | .goto off => jB r off
  | .ifCond _ off => jB r off
  | .if_icmp _ off => jB r off
  | .tableswitch _ _ _ _ => true
  | .getfield i => Nat.beq r.2.2.1 3 && fB qm k r i
  | .putfield i => Nat.beq r.2.2.1 3 && fB qm k r i && pB qm k r
  | .iaload => Nat.beq r.2.2.1 1
  | .baload => Nat.beq r.2.2.1 1
  | .laload => Nat.beq r.2.2.1 1
  | .aaload => Nat.beq r.2.2.1 1
  | .iastore => Nat.beq r.2.2.1 1
  | .bastore => Nat.beq r.2.2.1 1
  | .lastore => Nat.beq r.2.2.1 1
  | .aastore => Nat.beq r.2.2.1 1
  | .arraylength => Nat.beq r.2.2.1 1
  | .new i => Nat.beq r.2.2.1 3 && (match qcls[r.2.2.2.1]? with | some q => wAt r.2.2.2.2.2 (.classLink (qm k).1.cls i q.1) | none => false)
  | .newarray a => Nat.beq r.2.2.1 2 && wAt r.2.2.2.2.2 (.arrayClass (newarray.typeOf a))
  | .anewarray i => Nat.beq r.2.2.1 3 && ((Nat.beq r.2.2.2.1 3 && wAt r.2.2.2.2.2 (.classLink (qm k).1.cls i "TensionNet$Whole")) || (Nat.beq r.2.2.2.1 4 && wAt r.2.2.2.2.2 (.classLink (qm k).1.cls i "TensionNet$Triple")))
  | .multianewarray i d => Nat.beq r.2.2.1 4 && Nat.beq d 2 && ((Nat.beq r.2.2.2.1 5 && Nat.beq r.2.2.2.2.1 0 && wAt r.2.2.2.2.2 (.classLink (qm k).1.cls i ("[" ++ (FieldType.array .int).toString))) || (Nat.beq r.2.2.2.1 6 && Nat.beq r.2.2.2.2.1 1 && wAt r.2.2.2.2.2 (.classLink (qm k).1.cls i ("[" ++ (FieldType.array .long).toString))))
  | .invokevirtual i => Nat.beq r.2.2.1 3 && cB qm k r && !(qm r.2.2.2.1).2.2.2.2.1 && (qm r.2.2.2.1).1.name != "<init>" && wAt r.2.2.2.2.2 (.methodLink (qm k).1.cls i (qm r.2.2.2.1).1)
  | .invokespecial i => Nat.beq r.2.2.1 3 && (bif Nat.beq r.2.2.2.1 9999 then wAt r.2.2.2.2.2 (.methodLink (qm k).1.cls i objectInit) && Nat.ble 1 (qm k).2.2.2.2.2.2.2.1 && Nat.ble 20 (qm k).2.2.2.2.2.2.2.2 else
      (cB qm k r && !(qm r.2.2.2.1).2.2.2.2.1 && (qm r.2.2.2.1).1.name == "<init>" && (qm r.2.2.2.1).2.2.2.1 == none && (wAt r.2.2.2.2.2 (.methodLink (qm k).1.cls i (qm r.2.2.2.1).1) || decide (((qm k).1.cls, i, (qm r.2.2.2.1).1) ∈ qNe))))
  | .invokestatic i => Nat.beq r.2.2.1 3 && (bif Nat.beq r.2.2.2.1 9998 then wAt r.2.2.2.2.2 (.methodLink (qm k).1.cls i arraycopyName) && Nat.ble 1 (qm k).2.2.2.2.2.2.2.1 && Nat.ble 40 (qm k).2.2.2.2.2.2.2.2 else
      (cB qm k r && (qm r.2.2.2.1).2.2.2.2.1 && wAt r.2.2.2.2.2 (.methodLink (qm k).1.cls i (qm r.2.2.2.1).1)))
  | .ireturn => Nat.beq r.2.2.1 1 && ((Nat.beq r.2.2.2.1 0 && (qm k).2.2.2.1 == some .int) || (Nat.beq r.2.2.2.1 1 && (qm k).2.2.2.1 == some .boolean))
  | .lreturn => Nat.beq r.2.2.1 1 && (qm k).2.2.2.1 == some .long
  | .areturn => Nat.beq r.2.2.1 1 && (qm k).2.2.2.1 == some (.object "TensionNet$Whole")
  | .return_ => Nat.beq r.2.2.1 1 && (qm k).2.2.2.1 == none
  | _ => false
def rB (r : eRow) : Bool := decide (decode (qm k).2.1 r.1 = .ok (r.2.1, r.2.2.1)) && iB qm k r
end CHK
theorem qObjI : Cond.instanceMethod objectInit ∈ gT ∧ Cond.code objectInit ⟨#[0xb1]⟩ 1 none ∈ gT := ⟨wAt_ok (i := 91) (by decide +kernel), wAt_ok (i := 92) (by decide +kernel)⟩
theorem qCpyW : Cond.native arraycopyName ∈ gT ∧ Cond.static arraycopyName ∈ gT ∧ Cond.initialized "java/lang/System" ∈ gT := ⟨wAt_ok (i := 628) (by decide +kernel), wAt_ok (i := 627) (by decide +kernel), wAt_ok (i := 84) (by decide +kernel)⟩
theorem qArrW : Cond.arrayClass .int ∈ gT ∧ Cond.arrayClass .long ∈ gT ∧ Cond.arrayClass .boolean ∈ gT := ⟨wAt_ok (i := 125) (by decide +kernel), wAt_ok (i := 124) (by decide +kernel), wAt_ok (i := 340) (by decide +kernel)⟩
end
section
/-! A STEP OF THE EVALUATOR IS A STEP OF THE MACHINE -/
def eQ (D : va_G) (dA : Nat → ClassId) (b base : Nat) (x : eR) : Array Value → State → Outcome → State → Prop := fun _ st oc t => oc = .returned (x.1.map (lf b base)) ∧ WH D dA b base x.2 t.heap ∧ KK D dA t ∧ va_F (fun q => base ≤ q) st t
def ePc (D : va_G) (dA : Nat → ClassId) (b base : Nat) (as : List Value) (h : eH) : Array Value → State → Prop := va_Pc (as.map (lf b base)) (fun U => WH D dA b base h U.heap ∧ KK D dA U)
abbrev eRm (i : eMI) (h : eH) (x : eR) : Room := { frames := i.2.2.2.2.2.2.2.1, cells := x.2.2.1 - h.2.1, slots := x.2.2.2 - h.2.2, locals := i.2.2.2.2.2.2.2.2 }
def eMet (l : Launch) (D : va_G) (dA : Nat → ClassId) (b base : Nat) (i : eMI) (as : List Value) (h : eH) (x : eR) : Prop := Met l i.1 (Cond.code i.1 i.2.1 i.2.2.1 i.2.2.2.1 :: gT) (eRm i h x) (ePc D dA b base as h) (eQ D dA b base x) (x.2.2.1 - h.2.1) (x.2.2.2 - h.2.2) (fun q => base ≤ q)
def eMOK (qm : Nat → eMI) (l : Launch) (D : va_G) (dA : Nat → ClassId) (b base k : Nat) (M : eM) : Prop := ∀ (j : Nat) (as : List Value) (h : eH) (x : eR), j < k → M j as h = some x → eMet l D dA b base (qm j) as h x ∧ h.2.1 ≤ x.2.2.1 ∧ h.2.2 ≤ x.2.2.2 ∧ ((qm j).2.2.2.2.1 = false → ∀ a t, as = .ref a :: t → ∃ fs, h.1 a = .inr ((qm j).2.2.2.2.2.2.1, fs))
def eCx (p : Program) (s : State) (m : MethodId) (args : Array Value) (meth : Method) (c : Code) (D : va_G) (dA : Nat → ClassId) (b base : Nat) (sc : eSc) (i : eMI) (Ts : List Cond) : Prop :=
  p.tables.exec = Jvm.exec ∧ c.code = i.2.1 ∧ c.maxLocals = i.2.2.1 ∧ s.vm.findClass i.1.cls = some m.cls ∧ (∀ w ∈ Ts, w.before args s = true) ∧ (∀ w ∈ gT, w ∈ Ts) ∧ KK D dA s ∧ base ≤ s.heap.size ∧ (i.1.name = "<init>" → meth.name = "<init>") ∧ (∀ L xs, sc = some (L, xs) → va_X b L xs s s.heap ∧ b < s.heap.size ∧ b < base)
section SND
variable {p : Program} {l : Launch} {e : Env} {R : Room} {s : State} {m : MethodId} {args : Array Value} {below : List Frame} {meth : Method} {c : Code} {D : va_G} {dA : Nat → ClassId} {b base : Nat}
def eGo (p : Program) (l : Launch) (e : Env) (R : Room) (s : State) (m : MethodId) (args : Array Value) (below : List Frame) (meth : Method) (c : Code) (D : va_G) (dA : Nat → ClassId) (b base nL : Nat) (pc : Nat) (ls : eL) (st : List Value) (h : eH) (q' : eS) : Prop :=
  h.2.1 ≤ q'.2.2.2.2.1 ∧ h.2.2 ≤ q'.2.2.2.2.2 ∧ q'.2.1.length = ls.length ∧ ∀ {H : Heap} {locs : List Loc} {cells slots : Nat} {arr : Array Slot} {Q : State → Prop}, lv_has arr nL (eEnt b base ls) → WH D dA b base h H → va_S (fun q => base ≤ q) s.heap H locs → cells + (q'.2.2.2.2.1 - h.2.1) ≤ R.cells → slots + (q'.2.2.2.2.2 - h.2.2) ≤ R.slots →
    (∀ (H' : Heap) (locs' : List Loc) (arr' : Array Slot), lv_has arr' nL (eEnt b base q'.2.1) → WH D dA b base q'.2.2.2 H' → va_S (fun q => base ≤ q) s.heap H' locs' → W p l e R s m args below meth c H' locs' (cells + (q'.2.2.2.2.1 - h.2.1)) (slots + (q'.2.2.2.2.2 - h.2.2)) Q (F0 m q'.1 arr' (q'.2.2.1.map (lf b base)))) →
    W p l e R s m args below meth c H locs cells slots Q (F0 m pc arr (st.map (lf b base)))
/-- the heap stays -/
theorem eGo.pure {nL pc pc' : Nat} {ls ls' : eL} {st st' : List Value} {h : eH} (hl : ls'.length = ls.length)
    (k : ∀ {H : Heap} {locs : List Loc} {cells slots : Nat} {arr : Array Slot} {Q : State → Prop}, lv_has arr nL (eEnt b base ls) → WH D dA b base h H → va_S (fun q => base ≤ q) s.heap H locs → (∀ arr' : Array Slot, lv_has arr' nL (eEnt b base ls') → W p l e R s m args below meth c H locs cells slots Q (F0 m pc' arr' (st'.map (lf b base)))) → W p l e R s m args below meth c H locs cells slots Q (F0 m pc arr (st.map (lf b base)))) :
    eGo p l e R s m args below meth c D dA b base nL pc ls st h (pc', ls', st', h) := by
  refine ⟨Nat.le_refl _, Nat.le_refl _, hl, fun {H locs cells slots arr Q} hl hw hS h1 h2 kk => k hl hw hS fun arr' hl' => ?_⟩
  have := kk H locs arr' hl' hw hS
  simpa using this
/-- the locals stay too -/
theorem eGo.pure1 {nL pc pc' : Nat} {ls : eL} {st st' : List Value} {h : eH}
    (k : ∀ {H : Heap} {locs : List Loc} {cells slots : Nat} {arr : Array Slot} {Q : State → Prop}, lv_has arr nL (eEnt b base ls) → WH D dA b base h H → va_S (fun q => base ≤ q) s.heap H locs → W p l e R s m args below meth c H locs cells slots Q (F0 m pc' arr (st'.map (lf b base))) → W p l e R s m args below meth c H locs cells slots Q (F0 m pc arr (st.map (lf b base)))) :
    eGo p l e R s m args below meth c D dA b base nL pc ls st h (pc', ls, st', h) := eGo.pure rfl fun hl hw hS kk => k hl hw hS (kk _ hl)
/-- one cell changes -/
theorem eGo.put {nL pc pc' : Nat} {ls : eL} {st st' : List Value} {h : eH} {a : Nat} {x : va_E} (ha : h.1 a ≠ qbad)
    (k : ∀ {H : Heap} {locs : List Loc} {cells slots : Nat} {arr : Array Slot} {Q : State → Prop}, lv_has arr nL (eEnt b base ls) → WH D dA b base h H → a < h.2.1 → va_S (fun q => base ≤ q) s.heap H locs → (∀ (H' : Heap) (locs' : List Loc), va_P D qcls ((wl dA b base h).set a (base + a, lfE dA b base x)) H' → H'.size = H.size → va_S (fun q => base ≤ q) s.heap H' locs' → W p l e R s m args below meth c H' locs' cells slots Q (F0 m pc' arr (st'.map (lf b base)))) → W p l e R s m args below meth c H locs cells slots Q (F0 m pc arr (st.map (lf b base)))) :
    eGo p l e R s m args below meth c D dA b base nL pc ls st h (pc', ls, st', eUp h a x) := by
  refine ⟨Nat.le_refl _, Nat.le_refl _, rfl, fun {H locs cells slots arr Q} hl hw hS h1 h2 kk => ?_⟩
  have hlt := hw.lt rfl ha
  refine k hl hw hlt hS fun H' locs' hP hz hS' => ?_
  have := kk H' locs' arr hl (hw.up hlt hz hP) hS'
  simpa [eUp] using this
theorem lf_int (x : Int32) : lf b base (.int x) = .int x := rfl
theorem W_size {H H' : Heap} {locs' : List Loc} {P : Prop} (h : P) : P := h
theorem okv_ok {ty : FieldType} {v : Value} (h : okv ty v = true) : narrow ty (lf b base v) = lf b base v ∧ fits ty (lf b base v) = true := by
  unfold okv at h
  split at h
  · exact ⟨rfl, rfl⟩
  · exact ⟨rfl, rfl⟩
  · next x =>
    simp only [Bool.or_eq_true, beq_iff_eq] at h
    rcases h with rfl | rfl
    · exact ⟨show narrow .boolean (.int 0) = .int 0 by decide, show fits .boolean (.int 0) = true by decide⟩
    · exact ⟨show narrow .boolean (.int 1) = .int 1 by decide, show fits .boolean (.int 1) = true by decide⟩
  · exact ⟨rfl, rfl⟩
  · exact ⟨rfl, rfl⟩
  · cases h
theorem nb {x y : Nat} (h : Nat.beq x y = true) : x = y := Nat.eq_of_beq_eq_true h
-- CASES
theorem bal {α : Type} {c : Prop} [Decidable c] {x y z : α} (h : (if c then x else y) = z) : (c ∧ x = z) ∨ (¬ c ∧ y = z) := by
  by_cases hc : c
  · rw [if_pos hc] at h; exact Or.inl ⟨hc, h⟩
  · rw [if_neg hc] at h; exact Or.inr ⟨hc, h⟩
theorem jB_ok {r : eRow} {off : Int} (h : jB r off = true) : (r.1 : Int) + off = (r.2.2.2.1 : Int) ∧ r.2.2.1 = 3 := by
  simp only [jB, Bool.and_eq_true, decide_eq_true_eq] at h
  exact ⟨h.1, nb h.2⟩
theorem fB_ok {qm : Nat → eMI} {k : Nat} {r : eRow} {idx : Nat} (h : fB qm k r idx = true) : ∃ q, qcls[r.2.2.2.1]? = some q ∧ r.2.2.2.2.1 < q.2.2 ∧ Cond.fieldLink (qm k).1.cls idx q.1 (q.2.1 r.2.2.2.2.1).2.1 (q.2.1 r.2.2.2.2.1).2.2.1 ∈ gT := by
  unfold fB at h
  split at h
  · next q hq =>
    rw [Bool.and_eq_true] at h
    exact ⟨q, hq, Nat.le_of_ble_eq_true h.1, wAt_ok h.2⟩
  · cases h
theorem cB_ok {qm : Nat → eMI} {k : Nat} {r : eRow} (h : cB qm k r = true) : r.2.2.2.1 < k ∧ mOK (qm r.2.2.2.1) ∧ (qm r.2.2.2.1).2.2.2.2.2.2.2.1 + 1 ≤ (qm k).2.2.2.2.2.2.2.1 ∧ 8 + ((qm r.2.2.2.1).2.2.1 + 11) + (qm r.2.2.2.1).2.2.2.2.2.2.2.2 ≤ (qm k).2.2.2.2.2.2.2.2 ∧ (parseMethodDescriptor (qm r.2.2.2.1).1.desc).map (fun d => d.parameters.length) = some r.2.2.2.2.1 := by
  simp only [cB, Bool.and_eq_true, beq_iff_eq] at h
  obtain ⟨⟨⟨⟨h1, h2⟩, h3⟩, h4⟩, h5⟩ := h
  exact ⟨Nat.le_of_ble_eq_true h1, mB_ok h2, Nat.le_of_ble_eq_true h3, Nat.le_of_ble_eq_true h4, h5⟩
theorem tysL_at {t : Nat} {ty : FieldType} (h : (tysL dA)[t]? = some (dA t, ty)) : (tysL dA)[t]? = some (dA t, ty) := h
/-- the rows of code speak of the words that all methods share -/
theorem goodG {Ts : List Cond} {i : eMI} (hT : ∀ w ∈ gT, w ∈ Ts) (hm : mOK i) : GoodIn Ts (Cond.code i.1 i.2.1 i.2.2.1 i.2.2.2.1 :: gT) := by
  intro w hw
  have hg : w ∈ gT := by
    rcases List.mem_cons.mp hw with rfl | h
    · exact hm.2.1
    · exact h
  exact ⟨hT w hg, good_of_word (gT_good hg).2⟩
theorem ePc_blind {as : List Value} {h : eH} : FrameBlind (ePc D dA b base as h) := fun a U g mk q => ⟨q.1, q.2.1, KK.same (s := U) (U := U.calling g mk a) rfl q.2.2⟩
/-- behind a call -/
theorem e_call {H : Heap} {locs : List Loc} {cells slots pc : Nat} {arr : Array Slot} {Q : State → Prop} {x : eR} {h : eH} {st0 t : List Value} {a : Array Value} (hr : va_Run p l e R s m args below meth c H locs cells slots (x.2.2.1 - h.2.1) (x.2.2.2 - h.2.2) (F0 m pc arr st0) (t.map (lf b base)) (eQ D dA b base x a) (fun q => base ≤ q)) (hS : va_S (fun q => base ≤ q) s.heap H locs)
    (kk : ∀ (H' : Heap) (locs' : List Loc), WH D dA b base x.2 H' → va_S (fun q => base ≤ q) s.heap H' locs' → W p l e R s m args below meth c H' locs' (cells + (x.2.2.1 - h.2.1)) (slots + (x.2.2.2 - h.2.2)) Q (F0 m (pc + 3) arr ((x.1.toList ++ t).map (lf b base)))) : W p l e R s m args below meth c H locs cells slots Q (F0 m pc arr st0) := by
  intro T hT X
  obtain ⟨v, st₀, u, T', L, h0, X', hL, e1, e2, ⟨hv, hw, -, hz, hk⟩, go⟩ := hr T hT X
  have hv' : v = x.1.map (lf b base) := by injection hv
  rw [h0] at hz hk
  have hSt : v.toList ++ t.map (lf b base) = (x.1.toList ++ t).map (lf b base) := by
    rw [hv', List.map_append]
    congr 1
    cases x.1 <;> rfl
  obtain ⟨t2, a1, b1⟩ := kk T'.heap (locs ++ L) (by rw [e1]; exact hw) ⟨Nat.le_trans hS.1 (by rw [e1]; exact hz), fun q g1 g2 => by
      rw [e1, hk q (Nat.lt_of_lt_of_le g1 hS.1) g2]
      exact hS.2.1 q g1 g2, fun q hq => by
      rcases List.mem_append.mp hq with h | h
      · exact hS.2.2 q h
      · exact hL q h⟩ T' rfl X'
  rw [← hSt] at a1
  exact ⟨t2, go t2 a1, b1⟩
section CASES
variable {qm : Nat → eMI} {k : Nat} {sc : eSc} {M : eM} {Ts : List Cond}

theorem sd_aload_n (C : eCx p s m args meth c D dA b base sc (qm k) Ts) (hM : eMOK qm l D dA b base k M) (hRf : R.frames = (qm k).2.2.2.2.2.2.2.1) (hRl : R.locals = (qm k).2.2.2.2.2.2.2.2) {pc len ra rb wi : Nat} {n : Fin 4} {ls : eL} {st : List Value} {h : eH} {q' : eS} (hd : decode (qm k).2.1 pc = .ok (.aload_n n, len)) (hi : iB qm k (pc, .aload_n n, len, ra, rb, wi) = true) (hs : estep sc M (pc, .aload_n n, len, ra, rb, wi) ls st h = some (.inl q')) : eGo p l e R s m args below meth c D dA b base (qm k).2.2.1 pc ls st h q' := by
  obtain ⟨hx, hb, hml, hown, hts0, hT, hK, hbs, hin, hsc⟩ := C
  have hts : ∀ w ∈ gT, w.before args s = true := fun w h => hts0 w (hT w h)
  have hlen : len = 1 := nb hi
  subst hlen
  have hs : oA (ls.getD n.val none) (fun v => some (.inl (pc + 1, ls, v :: st, h))) = some (Sum.inl q' : eS ⊕ eR) := hs
  obtain ⟨v, hv, hk, hs⟩ := iv_oA hs
  cases hs
  refine eGo.pure1 fun hl hw hS kk => ?_
  have ha := ent_at hl hv
  rcases hk with ⟨a, rfl⟩ | ⟨a, rfl⟩
  · exact lv_aload_n hx hb hd rfl ha kk
  · exact lv_aload_n hx hb hd rfl ha kk
theorem sd_aload (C : eCx p s m args meth c D dA b base sc (qm k) Ts) (hM : eMOK qm l D dA b base k M) (hRf : R.frames = (qm k).2.2.2.2.2.2.2.1) (hRl : R.locals = (qm k).2.2.2.2.2.2.2.2) {pc len ra rb wi : Nat} {n : Nat} {ls : eL} {st : List Value} {h : eH} {q' : eS} (hd : decode (qm k).2.1 pc = .ok (.aload n, len)) (hi : iB qm k (pc, .aload n, len, ra, rb, wi) = true) (hs : estep sc M (pc, .aload n, len, ra, rb, wi) ls st h = some (.inl q')) : eGo p l e R s m args below meth c D dA b base (qm k).2.2.1 pc ls st h q' := by
  obtain ⟨hx, hb, hml, hown, hts0, hT, hK, hbs, hin, hsc⟩ := C
  have hts : ∀ w ∈ gT, w.before args s = true := fun w h => hts0 w (hT w h)
  have hlen : len = 2 := nb hi
  subst hlen
  have hs : oA (ls.getD n none) (fun v => some (.inl (pc + 2, ls, v :: st, h))) = some (Sum.inl q' : eS ⊕ eR) := hs
  obtain ⟨v, hv, hk, hs⟩ := iv_oA hs
  cases hs
  refine eGo.pure1 fun hl hw hS kk => ?_
  have ha := ent_at hl hv
  rcases hk with ⟨a, rfl⟩ | ⟨a, rfl⟩
  · exact lv_aload hx hb hd ha kk
  · exact lv_aload hx hb hd ha kk
theorem sd_iload_n (C : eCx p s m args meth c D dA b base sc (qm k) Ts) (hM : eMOK qm l D dA b base k M) (hRf : R.frames = (qm k).2.2.2.2.2.2.2.1) (hRl : R.locals = (qm k).2.2.2.2.2.2.2.2) {pc len ra rb wi : Nat} {n : Fin 4} {ls : eL} {st : List Value} {h : eH} {q' : eS} (hd : decode (qm k).2.1 pc = .ok (.iload_n n, len)) (hi : iB qm k (pc, .iload_n n, len, ra, rb, wi) = true) (hs : estep sc M (pc, .iload_n n, len, ra, rb, wi) ls st h = some (.inl q')) : eGo p l e R s m args below meth c D dA b base (qm k).2.2.1 pc ls st h q' := by
  obtain ⟨hx, hb, hml, hown, hts0, hT, hK, hbs, hin, hsc⟩ := C
  have hts : ∀ w ∈ gT, w.before args s = true := fun w h => hts0 w (hT w h)
  have hlen : len = 1 := nb hi
  subst hlen
  obtain ⟨v, hv, hs⟩ := iv_oI hs
  cases hs
  exact eGo.pure1 fun hl hw hS kk => lv_iload_n hx hb hd rfl (ent_at hl hv) kk
theorem sd_iload (C : eCx p s m args meth c D dA b base sc (qm k) Ts) (hM : eMOK qm l D dA b base k M) (hRf : R.frames = (qm k).2.2.2.2.2.2.2.1) (hRl : R.locals = (qm k).2.2.2.2.2.2.2.2) {pc len ra rb wi : Nat} {n : Nat} {ls : eL} {st : List Value} {h : eH} {q' : eS} (hd : decode (qm k).2.1 pc = .ok (.iload n, len)) (hi : iB qm k (pc, .iload n, len, ra, rb, wi) = true) (hs : estep sc M (pc, .iload n, len, ra, rb, wi) ls st h = some (.inl q')) : eGo p l e R s m args below meth c D dA b base (qm k).2.2.1 pc ls st h q' := by
  obtain ⟨hx, hb, hml, hown, hts0, hT, hK, hbs, hin, hsc⟩ := C
  have hts : ∀ w ∈ gT, w.before args s = true := fun w h => hts0 w (hT w h)
  have hlen : len = 2 := nb hi
  subst hlen
  obtain ⟨v, hv, hs⟩ := iv_oI hs
  cases hs
  exact eGo.pure1 fun hl hw hS kk => lv_iload hx hb hd (ent_at hl hv) kk
theorem sd_lload_n (C : eCx p s m args meth c D dA b base sc (qm k) Ts) (hM : eMOK qm l D dA b base k M) (hRf : R.frames = (qm k).2.2.2.2.2.2.2.1) (hRl : R.locals = (qm k).2.2.2.2.2.2.2.2) {pc len ra rb wi : Nat} {n : Fin 4} {ls : eL} {st : List Value} {h : eH} {q' : eS} (hd : decode (qm k).2.1 pc = .ok (.lload_n n, len)) (hi : iB qm k (pc, .lload_n n, len, ra, rb, wi) = true) (hs : estep sc M (pc, .lload_n n, len, ra, rb, wi) ls st h = some (.inl q')) : eGo p l e R s m args below meth c D dA b base (qm k).2.2.1 pc ls st h q' := by
  obtain ⟨hx, hb, hml, hown, hts0, hT, hK, hbs, hin, hsc⟩ := C
  have hts : ∀ w ∈ gT, w.before args s = true := fun w h => hts0 w (hT w h)
  have hlen : len = 1 := nb hi
  subst hlen
  obtain ⟨v, hv, hs⟩ := iv_oL hs
  cases hs
  exact eGo.pure1 fun hl hw hS kk => lv_lload_n hx hb hd rfl (ent_at hl hv) kk
theorem sd_lload (C : eCx p s m args meth c D dA b base sc (qm k) Ts) (hM : eMOK qm l D dA b base k M) (hRf : R.frames = (qm k).2.2.2.2.2.2.2.1) (hRl : R.locals = (qm k).2.2.2.2.2.2.2.2) {pc len ra rb wi : Nat} {n : Nat} {ls : eL} {st : List Value} {h : eH} {q' : eS} (hd : decode (qm k).2.1 pc = .ok (.lload n, len)) (hi : iB qm k (pc, .lload n, len, ra, rb, wi) = true) (hs : estep sc M (pc, .lload n, len, ra, rb, wi) ls st h = some (.inl q')) : eGo p l e R s m args below meth c D dA b base (qm k).2.2.1 pc ls st h q' := by
  obtain ⟨hx, hb, hml, hown, hts0, hT, hK, hbs, hin, hsc⟩ := C
  have hts : ∀ w ∈ gT, w.before args s = true := fun w h => hts0 w (hT w h)
  have hlen : len = 2 := nb hi
  subst hlen
  obtain ⟨v, hv, hs⟩ := iv_oL hs
  cases hs
  exact eGo.pure1 fun hl hw hS kk => lv_lload hx hb hd (ent_at hl hv) kk
theorem sd_istore_n (C : eCx p s m args meth c D dA b base sc (qm k) Ts) (hM : eMOK qm l D dA b base k M) (hRf : R.frames = (qm k).2.2.2.2.2.2.2.1) (hRl : R.locals = (qm k).2.2.2.2.2.2.2.2) {pc len ra rb wi : Nat} {n : Fin 4} {ls : eL} {st : List Value} {h : eH} {q' : eS} (hd : decode (qm k).2.1 pc = .ok (.istore_n n, len)) (hi : iB qm k (pc, .istore_n n, len, ra, rb, wi) = true) (hs : estep sc M (pc, .istore_n n, len, ra, rb, wi) ls st h = some (.inl q')) : eGo p l e R s m args below meth c D dA b base (qm k).2.2.1 pc ls st h q' := by
  obtain ⟨hx, hb, hml, hown, hts0, hT, hK, hbs, hin, hsc⟩ := C
  have hts : ∀ w ∈ gT, w.before args s = true := fun w h => hts0 w (hT w h)
  have hi : (Nat.beq len 1 && _) = true := hi
  rw [Bool.and_eq_true] at hi
  have hlen : len = 1 := nb hi.1
  subst hlen
  obtain ⟨x, t, rfl, hs⟩ := iv_sI hs
  cases hs
  exact eGo.pure (eSet1_len ..) fun hl hw hS kk => lv_istore_n hx hb hd rfl hl (Nat.le_of_ble_eq_true hi.2) rfl (fun arr' hl' => kk arr' (lv_incl hl' eSet1_in))
theorem sd_istore (C : eCx p s m args meth c D dA b base sc (qm k) Ts) (hM : eMOK qm l D dA b base k M) (hRf : R.frames = (qm k).2.2.2.2.2.2.2.1) (hRl : R.locals = (qm k).2.2.2.2.2.2.2.2) {pc len ra rb wi : Nat} {n : Nat} {ls : eL} {st : List Value} {h : eH} {q' : eS} (hd : decode (qm k).2.1 pc = .ok (.istore n, len)) (hi : iB qm k (pc, .istore n, len, ra, rb, wi) = true) (hs : estep sc M (pc, .istore n, len, ra, rb, wi) ls st h = some (.inl q')) : eGo p l e R s m args below meth c D dA b base (qm k).2.2.1 pc ls st h q' := by
  obtain ⟨hx, hb, hml, hown, hts0, hT, hK, hbs, hin, hsc⟩ := C
  have hts : ∀ w ∈ gT, w.before args s = true := fun w h => hts0 w (hT w h)
  have hi : (Nat.beq len 2 && _) = true := hi
  rw [Bool.and_eq_true] at hi
  have hlen : len = 2 := nb hi.1
  subst hlen
  obtain ⟨x, t, rfl, hs⟩ := iv_sI hs
  cases hs
  exact eGo.pure (eSet1_len ..) fun hl hw hS kk => lv_istore hx hb hd hl (Nat.le_of_ble_eq_true hi.2) rfl (fun arr' hl' => kk arr' (lv_incl hl' eSet1_in))
theorem sd_astore_n (C : eCx p s m args meth c D dA b base sc (qm k) Ts) (hM : eMOK qm l D dA b base k M) (hRf : R.frames = (qm k).2.2.2.2.2.2.2.1) (hRl : R.locals = (qm k).2.2.2.2.2.2.2.2) {pc len ra rb wi : Nat} {n : Fin 4} {ls : eL} {st : List Value} {h : eH} {q' : eS} (hd : decode (qm k).2.1 pc = .ok (.astore_n n, len)) (hi : iB qm k (pc, .astore_n n, len, ra, rb, wi) = true) (hs : estep sc M (pc, .astore_n n, len, ra, rb, wi) ls st h = some (.inl q')) : eGo p l e R s m args below meth c D dA b base (qm k).2.2.1 pc ls st h q' := by
  obtain ⟨hx, hb, hml, hown, hts0, hT, hK, hbs, hin, hsc⟩ := C
  have hts : ∀ w ∈ gT, w.before args s = true := fun w h => hts0 w (hT w h)
  have hi : (Nat.beq len 1 && _) = true := hi
  rw [Bool.and_eq_true] at hi
  have hlen : len = 1 := nb hi.1
  subst hlen
  obtain ⟨x, t, rfl, hs⟩ := iv_sR hs
  cases hs
  exact eGo.pure (eSet1_len ..) fun hl hw hS kk => lv_astore_n hx hb hd rfl hl (Nat.le_of_ble_eq_true hi.2) rfl (fun arr' hl' => kk arr' (lv_incl hl' eSet1_in))
theorem sd_astore (C : eCx p s m args meth c D dA b base sc (qm k) Ts) (hM : eMOK qm l D dA b base k M) (hRf : R.frames = (qm k).2.2.2.2.2.2.2.1) (hRl : R.locals = (qm k).2.2.2.2.2.2.2.2) {pc len ra rb wi : Nat} {n : Nat} {ls : eL} {st : List Value} {h : eH} {q' : eS} (hd : decode (qm k).2.1 pc = .ok (.astore n, len)) (hi : iB qm k (pc, .astore n, len, ra, rb, wi) = true) (hs : estep sc M (pc, .astore n, len, ra, rb, wi) ls st h = some (.inl q')) : eGo p l e R s m args below meth c D dA b base (qm k).2.2.1 pc ls st h q' := by
  obtain ⟨hx, hb, hml, hown, hts0, hT, hK, hbs, hin, hsc⟩ := C
  have hts : ∀ w ∈ gT, w.before args s = true := fun w h => hts0 w (hT w h)
  have hi : (Nat.beq len 2 && _) = true := hi
  rw [Bool.and_eq_true] at hi
  have hlen : len = 2 := nb hi.1
  subst hlen
  obtain ⟨x, t, rfl, hs⟩ := iv_sR hs
  cases hs
  exact eGo.pure (eSet1_len ..) fun hl hw hS kk => lv_astore hx hb hd hl (Nat.le_of_ble_eq_true hi.2) rfl (fun arr' hl' => kk arr' (lv_incl hl' eSet1_in))
theorem sd_lstore_n (C : eCx p s m args meth c D dA b base sc (qm k) Ts) (hM : eMOK qm l D dA b base k M) (hRf : R.frames = (qm k).2.2.2.2.2.2.2.1) (hRl : R.locals = (qm k).2.2.2.2.2.2.2.2) {pc len ra rb wi : Nat} {n : Fin 4} {ls : eL} {st : List Value} {h : eH} {q' : eS} (hd : decode (qm k).2.1 pc = .ok (.lstore_n n, len)) (hi : iB qm k (pc, .lstore_n n, len, ra, rb, wi) = true) (hs : estep sc M (pc, .lstore_n n, len, ra, rb, wi) ls st h = some (.inl q')) : eGo p l e R s m args below meth c D dA b base (qm k).2.2.1 pc ls st h q' := by
  obtain ⟨hx, hb, hml, hown, hts0, hT, hK, hbs, hin, hsc⟩ := C
  have hts : ∀ w ∈ gT, w.before args s = true := fun w h => hts0 w (hT w h)
  have hi : (Nat.beq len 1 && _) = true := hi
  rw [Bool.and_eq_true] at hi
  have hlen : len = 1 := nb hi.1
  subst hlen
  obtain ⟨x, t, rfl, hs⟩ := iv_sL hs
  cases hs
  exact eGo.pure (eSet2_len ..) fun hl hw hS kk => lv_lstore_n hx hb hd rfl hl (Nat.le_of_ble_eq_true hi.2) rfl (fun arr' hl' => kk arr' (lv_incl hl' eSet2_in))
theorem sd_lstore (C : eCx p s m args meth c D dA b base sc (qm k) Ts) (hM : eMOK qm l D dA b base k M) (hRf : R.frames = (qm k).2.2.2.2.2.2.2.1) (hRl : R.locals = (qm k).2.2.2.2.2.2.2.2) {pc len ra rb wi : Nat} {n : Nat} {ls : eL} {st : List Value} {h : eH} {q' : eS} (hd : decode (qm k).2.1 pc = .ok (.lstore n, len)) (hi : iB qm k (pc, .lstore n, len, ra, rb, wi) = true) (hs : estep sc M (pc, .lstore n, len, ra, rb, wi) ls st h = some (.inl q')) : eGo p l e R s m args below meth c D dA b base (qm k).2.2.1 pc ls st h q' := by
  obtain ⟨hx, hb, hml, hown, hts0, hT, hK, hbs, hin, hsc⟩ := C
  have hts : ∀ w ∈ gT, w.before args s = true := fun w h => hts0 w (hT w h)
  have hi : (Nat.beq len 2 && _) = true := hi
  rw [Bool.and_eq_true] at hi
  have hlen : len = 2 := nb hi.1
  subst hlen
  obtain ⟨x, t, rfl, hs⟩ := iv_sL hs
  cases hs
  exact eGo.pure (eSet2_len ..) fun hl hw hS kk => lv_lstore hx hb hd hl (Nat.le_of_ble_eq_true hi.2) rfl (fun arr' hl' => kk arr' (lv_incl hl' eSet2_in))
theorem sd_iinc (C : eCx p s m args meth c D dA b base sc (qm k) Ts) (hM : eMOK qm l D dA b base k M) (hRf : R.frames = (qm k).2.2.2.2.2.2.2.1) (hRl : R.locals = (qm k).2.2.2.2.2.2.2.2) {pc len ra rb wi : Nat} {i : Nat} {n : Int} {ls : eL} {st : List Value} {h : eH} {q' : eS} (hd : decode (qm k).2.1 pc = .ok (.iinc i n, len)) (hi : iB qm k (pc, .iinc i n, len, ra, rb, wi) = true) (hs : estep sc M (pc, .iinc i n, len, ra, rb, wi) ls st h = some (.inl q')) : eGo p l e R s m args below meth c D dA b base (qm k).2.2.1 pc ls st h q' := by
  obtain ⟨hx, hb, hml, hown, hts0, hT, hK, hbs, hin, hsc⟩ := C
  have hts : ∀ w ∈ gT, w.before args s = true := fun w h => hts0 w (hT w h)
  have hi : (Nat.beq len 3 && _) = true := hi
  rw [Bool.and_eq_true] at hi
  have hlen : len = 3 := nb hi.1
  subst hlen
  obtain ⟨x, hv, hs⟩ := iv_oI hs
  cases hs
  refine eGo.pure (eSet1_len ..) fun hl hw hS kk => ?_
  obtain ⟨j, hj⟩ := List.getElem?_of_mem (eEnt_mem.mpr ⟨Value.int x, hv, rfl⟩ : (i, Value.int x) ∈ eEnt b base ls)
  exact lv_iinc hx hb hd hl hj rfl (Nat.le_of_ble_eq_true hi.2) rfl (fun arr' hl' => kk arr' (lv_incl hl' eSet1_in))
theorem sd_iconst (C : eCx p s m args meth c D dA b base sc (qm k) Ts) (hM : eMOK qm l D dA b base k M) (hRf : R.frames = (qm k).2.2.2.2.2.2.2.1) (hRl : R.locals = (qm k).2.2.2.2.2.2.2.2) {pc len ra rb wi : Nat} {n : Int} {ls : eL} {st : List Value} {h : eH} {q' : eS} (hd : decode (qm k).2.1 pc = .ok (.iconst n, len)) (hi : iB qm k (pc, .iconst n, len, ra, rb, wi) = true) (hs : estep sc M (pc, .iconst n, len, ra, rb, wi) ls st h = some (.inl q')) : eGo p l e R s m args below meth c D dA b base (qm k).2.2.1 pc ls st h q' := by
  obtain ⟨hx, hb, hml, hown, hts0, hT, hK, hbs, hin, hsc⟩ := C
  have hts : ∀ w ∈ gT, w.before args s = true := fun w h => hts0 w (hT w h)
  have hlen : len = 1 := nb hi
  subst hlen
  cases hs
  exact eGo.pure1 fun hl hw hS kk => lv_iconst hx hb hd rfl kk
theorem sd_bipush (C : eCx p s m args meth c D dA b base sc (qm k) Ts) (hM : eMOK qm l D dA b base k M) (hRf : R.frames = (qm k).2.2.2.2.2.2.2.1) (hRl : R.locals = (qm k).2.2.2.2.2.2.2.2) {pc len ra rb wi : Nat} {n : Int} {ls : eL} {st : List Value} {h : eH} {q' : eS} (hd : decode (qm k).2.1 pc = .ok (.bipush n, len)) (hi : iB qm k (pc, .bipush n, len, ra, rb, wi) = true) (hs : estep sc M (pc, .bipush n, len, ra, rb, wi) ls st h = some (.inl q')) : eGo p l e R s m args below meth c D dA b base (qm k).2.2.1 pc ls st h q' := by
  obtain ⟨hx, hb, hml, hown, hts0, hT, hK, hbs, hin, hsc⟩ := C
  have hts : ∀ w ∈ gT, w.before args s = true := fun w h => hts0 w (hT w h)
  have hlen : len = 2 := nb hi
  subst hlen
  cases hs
  exact eGo.pure1 fun hl hw hS kk => lv_bipush hx hb hd rfl kk
theorem sd_sipush (C : eCx p s m args meth c D dA b base sc (qm k) Ts) (hM : eMOK qm l D dA b base k M) (hRf : R.frames = (qm k).2.2.2.2.2.2.2.1) (hRl : R.locals = (qm k).2.2.2.2.2.2.2.2) {pc len ra rb wi : Nat} {n : Int} {ls : eL} {st : List Value} {h : eH} {q' : eS} (hd : decode (qm k).2.1 pc = .ok (.sipush n, len)) (hi : iB qm k (pc, .sipush n, len, ra, rb, wi) = true) (hs : estep sc M (pc, .sipush n, len, ra, rb, wi) ls st h = some (.inl q')) : eGo p l e R s m args below meth c D dA b base (qm k).2.2.1 pc ls st h q' := by
  obtain ⟨hx, hb, hml, hown, hts0, hT, hK, hbs, hin, hsc⟩ := C
  have hts : ∀ w ∈ gT, w.before args s = true := fun w h => hts0 w (hT w h)
  have hlen : len = 3 := nb hi
  subst hlen
  cases hs
  exact eGo.pure1 fun hl hw hS kk => lv_sipush hx hb hd rfl kk
theorem sd_lconst (C : eCx p s m args meth c D dA b base sc (qm k) Ts) (hM : eMOK qm l D dA b base k M) (hRf : R.frames = (qm k).2.2.2.2.2.2.2.1) (hRl : R.locals = (qm k).2.2.2.2.2.2.2.2) {pc len ra rb wi : Nat} {n : Fin 2} {ls : eL} {st : List Value} {h : eH} {q' : eS} (hd : decode (qm k).2.1 pc = .ok (.lconst n, len)) (hi : iB qm k (pc, .lconst n, len, ra, rb, wi) = true) (hs : estep sc M (pc, .lconst n, len, ra, rb, wi) ls st h = some (.inl q')) : eGo p l e R s m args below meth c D dA b base (qm k).2.2.1 pc ls st h q' := by
  obtain ⟨hx, hb, hml, hown, hts0, hT, hK, hbs, hin, hsc⟩ := C
  have hts : ∀ w ∈ gT, w.before args s = true := fun w h => hts0 w (hT w h)
  have hlen : len = 1 := nb hi
  subst hlen
  cases hs
  exact eGo.pure1 fun hl hw hS kk => lv_lconst hx hb hd rfl kk
theorem sd_ldc (C : eCx p s m args meth c D dA b base sc (qm k) Ts) (hM : eMOK qm l D dA b base k M) (hRf : R.frames = (qm k).2.2.2.2.2.2.2.1) (hRl : R.locals = (qm k).2.2.2.2.2.2.2.2) {pc len ra rb wi : Nat} {n : Nat} {ls : eL} {st : List Value} {h : eH} {q' : eS} (hd : decode (qm k).2.1 pc = .ok (.ldc n, len)) (hi : iB qm k (pc, .ldc n, len, ra, rb, wi) = true) (hs : estep sc M (pc, .ldc n, len, ra, rb, wi) ls st h = some (.inl q')) : eGo p l e R s m args below meth c D dA b base (qm k).2.2.1 pc ls st h q' := by
  obtain ⟨hx, hb, hml, hown, hts0, hT, hK, hbs, hin, hsc⟩ := C
  have hts : ∀ w ∈ gT, w.before args s = true := fun w h => hts0 w (hT w h)
  have hi : (Nat.beq len 2 && _) = true := hi
  rw [Bool.and_eq_true] at hi
  have hlen : len = 2 := nb hi.1
  subst hlen
  cases hs
  exact eGo.pure1 fun hl hw hS kk => lv_ldc hx hb hown (hts _ (wAt_ok hi.2)) hd kk
theorem sd_ldc2_w (C : eCx p s m args meth c D dA b base sc (qm k) Ts) (hM : eMOK qm l D dA b base k M) (hRf : R.frames = (qm k).2.2.2.2.2.2.2.1) (hRl : R.locals = (qm k).2.2.2.2.2.2.2.2) {pc len ra rb wi : Nat} {n : Nat} {ls : eL} {st : List Value} {h : eH} {q' : eS} (hd : decode (qm k).2.1 pc = .ok (.ldc2_w n, len)) (hi : iB qm k (pc, .ldc2_w n, len, ra, rb, wi) = true) (hs : estep sc M (pc, .ldc2_w n, len, ra, rb, wi) ls st h = some (.inl q')) : eGo p l e R s m args below meth c D dA b base (qm k).2.2.1 pc ls st h q' := by
  obtain ⟨hx, hb, hml, hown, hts0, hT, hK, hbs, hin, hsc⟩ := C
  have hts : ∀ w ∈ gT, w.before args s = true := fun w h => hts0 w (hT w h)
  have hi : (Nat.beq len 3 && _) = true := hi
  rw [Bool.and_eq_true] at hi
  have hlen : len = 3 := nb hi.1
  subst hlen
  cases hs
  exact eGo.pure1 fun hl hw hS kk => lv_ldc2 hx hb hown (hts _ (wAt_ok hi.2)) hd kk
theorem sd_iadd (C : eCx p s m args meth c D dA b base sc (qm k) Ts) (hM : eMOK qm l D dA b base k M) (hRf : R.frames = (qm k).2.2.2.2.2.2.2.1) (hRl : R.locals = (qm k).2.2.2.2.2.2.2.2) {pc len ra rb wi : Nat}  {ls : eL} {st : List Value} {h : eH} {q' : eS} (hd : decode (qm k).2.1 pc = .ok (.iadd, len)) (hi : iB qm k (pc, .iadd, len, ra, rb, wi) = true) (hs : estep sc M (pc, .iadd, len, ra, rb, wi) ls st h = some (.inl q')) : eGo p l e R s m args below meth c D dA b base (qm k).2.2.1 pc ls st h q' := by
  obtain ⟨hx, hb, hml, hown, hts0, hT, hK, hbs, hin, hsc⟩ := C
  have hts : ∀ w ∈ gT, w.before args s = true := fun w h => hts0 w (hT w h)
  have hlen : len = 1 := nb hi
  subst hlen
  obtain ⟨x, y, t, rfl, hs⟩ := iv_sII hs
  cases hs
  exact eGo.pure1 fun hl hw hS kk => lv_iadd hx hb hd kk
theorem sd_isub (C : eCx p s m args meth c D dA b base sc (qm k) Ts) (hM : eMOK qm l D dA b base k M) (hRf : R.frames = (qm k).2.2.2.2.2.2.2.1) (hRl : R.locals = (qm k).2.2.2.2.2.2.2.2) {pc len ra rb wi : Nat}  {ls : eL} {st : List Value} {h : eH} {q' : eS} (hd : decode (qm k).2.1 pc = .ok (.isub, len)) (hi : iB qm k (pc, .isub, len, ra, rb, wi) = true) (hs : estep sc M (pc, .isub, len, ra, rb, wi) ls st h = some (.inl q')) : eGo p l e R s m args below meth c D dA b base (qm k).2.2.1 pc ls st h q' := by
  obtain ⟨hx, hb, hml, hown, hts0, hT, hK, hbs, hin, hsc⟩ := C
  have hts : ∀ w ∈ gT, w.before args s = true := fun w h => hts0 w (hT w h)
  have hlen : len = 1 := nb hi
  subst hlen
  obtain ⟨x, y, t, rfl, hs⟩ := iv_sII hs
  cases hs
  exact eGo.pure1 fun hl hw hS kk => lv_isub hx hb hd kk
theorem sd_imul (C : eCx p s m args meth c D dA b base sc (qm k) Ts) (hM : eMOK qm l D dA b base k M) (hRf : R.frames = (qm k).2.2.2.2.2.2.2.1) (hRl : R.locals = (qm k).2.2.2.2.2.2.2.2) {pc len ra rb wi : Nat}  {ls : eL} {st : List Value} {h : eH} {q' : eS} (hd : decode (qm k).2.1 pc = .ok (.imul, len)) (hi : iB qm k (pc, .imul, len, ra, rb, wi) = true) (hs : estep sc M (pc, .imul, len, ra, rb, wi) ls st h = some (.inl q')) : eGo p l e R s m args below meth c D dA b base (qm k).2.2.1 pc ls st h q' := by
  obtain ⟨hx, hb, hml, hown, hts0, hT, hK, hbs, hin, hsc⟩ := C
  have hts : ∀ w ∈ gT, w.before args s = true := fun w h => hts0 w (hT w h)
  have hlen : len = 1 := nb hi
  subst hlen
  obtain ⟨x, y, t, rfl, hs⟩ := iv_sII hs
  cases hs
  exact eGo.pure1 fun hl hw hS kk => lv_imul hx hb hd kk
theorem sd_iand (C : eCx p s m args meth c D dA b base sc (qm k) Ts) (hM : eMOK qm l D dA b base k M) (hRf : R.frames = (qm k).2.2.2.2.2.2.2.1) (hRl : R.locals = (qm k).2.2.2.2.2.2.2.2) {pc len ra rb wi : Nat}  {ls : eL} {st : List Value} {h : eH} {q' : eS} (hd : decode (qm k).2.1 pc = .ok (.iand, len)) (hi : iB qm k (pc, .iand, len, ra, rb, wi) = true) (hs : estep sc M (pc, .iand, len, ra, rb, wi) ls st h = some (.inl q')) : eGo p l e R s m args below meth c D dA b base (qm k).2.2.1 pc ls st h q' := by
  obtain ⟨hx, hb, hml, hown, hts0, hT, hK, hbs, hin, hsc⟩ := C
  have hts : ∀ w ∈ gT, w.before args s = true := fun w h => hts0 w (hT w h)
  have hlen : len = 1 := nb hi
  subst hlen
  obtain ⟨x, y, t, rfl, hs⟩ := iv_sII hs
  cases hs
  exact eGo.pure1 fun hl hw hS kk => lv_iand hx hb hd kk
theorem sd_ior (C : eCx p s m args meth c D dA b base sc (qm k) Ts) (hM : eMOK qm l D dA b base k M) (hRf : R.frames = (qm k).2.2.2.2.2.2.2.1) (hRl : R.locals = (qm k).2.2.2.2.2.2.2.2) {pc len ra rb wi : Nat}  {ls : eL} {st : List Value} {h : eH} {q' : eS} (hd : decode (qm k).2.1 pc = .ok (.ior, len)) (hi : iB qm k (pc, .ior, len, ra, rb, wi) = true) (hs : estep sc M (pc, .ior, len, ra, rb, wi) ls st h = some (.inl q')) : eGo p l e R s m args below meth c D dA b base (qm k).2.2.1 pc ls st h q' := by
  obtain ⟨hx, hb, hml, hown, hts0, hT, hK, hbs, hin, hsc⟩ := C
  have hts : ∀ w ∈ gT, w.before args s = true := fun w h => hts0 w (hT w h)
  have hlen : len = 1 := nb hi
  subst hlen
  obtain ⟨x, y, t, rfl, hs⟩ := iv_sII hs
  cases hs
  exact eGo.pure1 fun hl hw hS kk => lv_ior hx hb hd kk
theorem sd_ishr (C : eCx p s m args meth c D dA b base sc (qm k) Ts) (hM : eMOK qm l D dA b base k M) (hRf : R.frames = (qm k).2.2.2.2.2.2.2.1) (hRl : R.locals = (qm k).2.2.2.2.2.2.2.2) {pc len ra rb wi : Nat}  {ls : eL} {st : List Value} {h : eH} {q' : eS} (hd : decode (qm k).2.1 pc = .ok (.ishr, len)) (hi : iB qm k (pc, .ishr, len, ra, rb, wi) = true) (hs : estep sc M (pc, .ishr, len, ra, rb, wi) ls st h = some (.inl q')) : eGo p l e R s m args below meth c D dA b base (qm k).2.2.1 pc ls st h q' := by
  obtain ⟨hx, hb, hml, hown, hts0, hT, hK, hbs, hin, hsc⟩ := C
  have hts : ∀ w ∈ gT, w.before args s = true := fun w h => hts0 w (hT w h)
  have hlen : len = 1 := nb hi
  subst hlen
  obtain ⟨x, y, t, rfl, hs⟩ := iv_sII hs
  cases hs
  exact eGo.pure1 fun hl hw hS kk => lv_ishr hx hb hd kk
theorem sd_iushr (C : eCx p s m args meth c D dA b base sc (qm k) Ts) (hM : eMOK qm l D dA b base k M) (hRf : R.frames = (qm k).2.2.2.2.2.2.2.1) (hRl : R.locals = (qm k).2.2.2.2.2.2.2.2) {pc len ra rb wi : Nat}  {ls : eL} {st : List Value} {h : eH} {q' : eS} (hd : decode (qm k).2.1 pc = .ok (.iushr, len)) (hi : iB qm k (pc, .iushr, len, ra, rb, wi) = true) (hs : estep sc M (pc, .iushr, len, ra, rb, wi) ls st h = some (.inl q')) : eGo p l e R s m args below meth c D dA b base (qm k).2.2.1 pc ls st h q' := by
  obtain ⟨hx, hb, hml, hown, hts0, hT, hK, hbs, hin, hsc⟩ := C
  have hts : ∀ w ∈ gT, w.before args s = true := fun w h => hts0 w (hT w h)
  have hlen : len = 1 := nb hi
  subst hlen
  obtain ⟨x, y, t, rfl, hs⟩ := iv_sII hs
  cases hs
  exact eGo.pure1 fun hl hw hS kk => lv_iushr hx hb hd rfl kk
theorem sd_ladd (C : eCx p s m args meth c D dA b base sc (qm k) Ts) (hM : eMOK qm l D dA b base k M) (hRf : R.frames = (qm k).2.2.2.2.2.2.2.1) (hRl : R.locals = (qm k).2.2.2.2.2.2.2.2) {pc len ra rb wi : Nat}  {ls : eL} {st : List Value} {h : eH} {q' : eS} (hd : decode (qm k).2.1 pc = .ok (.ladd, len)) (hi : iB qm k (pc, .ladd, len, ra, rb, wi) = true) (hs : estep sc M (pc, .ladd, len, ra, rb, wi) ls st h = some (.inl q')) : eGo p l e R s m args below meth c D dA b base (qm k).2.2.1 pc ls st h q' := by
  obtain ⟨hx, hb, hml, hown, hts0, hT, hK, hbs, hin, hsc⟩ := C
  have hts : ∀ w ∈ gT, w.before args s = true := fun w h => hts0 w (hT w h)
  have hlen : len = 1 := nb hi
  subst hlen
  obtain ⟨x, y, t, rfl, hs⟩ := iv_sLL hs
  cases hs
  exact eGo.pure1 fun hl hw hS kk => lv_ladd hx hb hd kk
theorem sd_lsub (C : eCx p s m args meth c D dA b base sc (qm k) Ts) (hM : eMOK qm l D dA b base k M) (hRf : R.frames = (qm k).2.2.2.2.2.2.2.1) (hRl : R.locals = (qm k).2.2.2.2.2.2.2.2) {pc len ra rb wi : Nat}  {ls : eL} {st : List Value} {h : eH} {q' : eS} (hd : decode (qm k).2.1 pc = .ok (.lsub, len)) (hi : iB qm k (pc, .lsub, len, ra, rb, wi) = true) (hs : estep sc M (pc, .lsub, len, ra, rb, wi) ls st h = some (.inl q')) : eGo p l e R s m args below meth c D dA b base (qm k).2.2.1 pc ls st h q' := by
  obtain ⟨hx, hb, hml, hown, hts0, hT, hK, hbs, hin, hsc⟩ := C
  have hts : ∀ w ∈ gT, w.before args s = true := fun w h => hts0 w (hT w h)
  have hlen : len = 1 := nb hi
  subst hlen
  obtain ⟨x, y, t, rfl, hs⟩ := iv_sLL hs
  cases hs
  exact eGo.pure1 fun hl hw hS kk => lv_lsub hx hb hd kk
theorem sd_lmul (C : eCx p s m args meth c D dA b base sc (qm k) Ts) (hM : eMOK qm l D dA b base k M) (hRf : R.frames = (qm k).2.2.2.2.2.2.2.1) (hRl : R.locals = (qm k).2.2.2.2.2.2.2.2) {pc len ra rb wi : Nat}  {ls : eL} {st : List Value} {h : eH} {q' : eS} (hd : decode (qm k).2.1 pc = .ok (.lmul, len)) (hi : iB qm k (pc, .lmul, len, ra, rb, wi) = true) (hs : estep sc M (pc, .lmul, len, ra, rb, wi) ls st h = some (.inl q')) : eGo p l e R s m args below meth c D dA b base (qm k).2.2.1 pc ls st h q' := by
  obtain ⟨hx, hb, hml, hown, hts0, hT, hK, hbs, hin, hsc⟩ := C
  have hts : ∀ w ∈ gT, w.before args s = true := fun w h => hts0 w (hT w h)
  have hlen : len = 1 := nb hi
  subst hlen
  obtain ⟨x, y, t, rfl, hs⟩ := iv_sLL hs
  cases hs
  exact eGo.pure1 fun hl hw hS kk => lv_lmul hx hb hd kk
theorem sd_land (C : eCx p s m args meth c D dA b base sc (qm k) Ts) (hM : eMOK qm l D dA b base k M) (hRf : R.frames = (qm k).2.2.2.2.2.2.2.1) (hRl : R.locals = (qm k).2.2.2.2.2.2.2.2) {pc len ra rb wi : Nat}  {ls : eL} {st : List Value} {h : eH} {q' : eS} (hd : decode (qm k).2.1 pc = .ok (.land, len)) (hi : iB qm k (pc, .land, len, ra, rb, wi) = true) (hs : estep sc M (pc, .land, len, ra, rb, wi) ls st h = some (.inl q')) : eGo p l e R s m args below meth c D dA b base (qm k).2.2.1 pc ls st h q' := by
  obtain ⟨hx, hb, hml, hown, hts0, hT, hK, hbs, hin, hsc⟩ := C
  have hts : ∀ w ∈ gT, w.before args s = true := fun w h => hts0 w (hT w h)
  have hlen : len = 1 := nb hi
  subst hlen
  obtain ⟨x, y, t, rfl, hs⟩ := iv_sLL hs
  cases hs
  exact eGo.pure1 fun hl hw hS kk => lv_land hx hb hd kk
theorem sd_lor (C : eCx p s m args meth c D dA b base sc (qm k) Ts) (hM : eMOK qm l D dA b base k M) (hRf : R.frames = (qm k).2.2.2.2.2.2.2.1) (hRl : R.locals = (qm k).2.2.2.2.2.2.2.2) {pc len ra rb wi : Nat}  {ls : eL} {st : List Value} {h : eH} {q' : eS} (hd : decode (qm k).2.1 pc = .ok (.lor, len)) (hi : iB qm k (pc, .lor, len, ra, rb, wi) = true) (hs : estep sc M (pc, .lor, len, ra, rb, wi) ls st h = some (.inl q')) : eGo p l e R s m args below meth c D dA b base (qm k).2.2.1 pc ls st h q' := by
  obtain ⟨hx, hb, hml, hown, hts0, hT, hK, hbs, hin, hsc⟩ := C
  have hts : ∀ w ∈ gT, w.before args s = true := fun w h => hts0 w (hT w h)
  have hlen : len = 1 := nb hi
  subst hlen
  obtain ⟨x, y, t, rfl, hs⟩ := iv_sLL hs
  cases hs
  exact eGo.pure1 fun hl hw hS kk => lv_lor hx hb hd kk
theorem sd_lxor (C : eCx p s m args meth c D dA b base sc (qm k) Ts) (hM : eMOK qm l D dA b base k M) (hRf : R.frames = (qm k).2.2.2.2.2.2.2.1) (hRl : R.locals = (qm k).2.2.2.2.2.2.2.2) {pc len ra rb wi : Nat}  {ls : eL} {st : List Value} {h : eH} {q' : eS} (hd : decode (qm k).2.1 pc = .ok (.lxor, len)) (hi : iB qm k (pc, .lxor, len, ra, rb, wi) = true) (hs : estep sc M (pc, .lxor, len, ra, rb, wi) ls st h = some (.inl q')) : eGo p l e R s m args below meth c D dA b base (qm k).2.2.1 pc ls st h q' := by
  obtain ⟨hx, hb, hml, hown, hts0, hT, hK, hbs, hin, hsc⟩ := C
  have hts : ∀ w ∈ gT, w.before args s = true := fun w h => hts0 w (hT w h)
  have hlen : len = 1 := nb hi
  subst hlen
  obtain ⟨x, y, t, rfl, hs⟩ := iv_sLL hs
  cases hs
  exact eGo.pure1 fun hl hw hS kk => lv_lxor hx hb hd kk
theorem sd_lcmp (C : eCx p s m args meth c D dA b base sc (qm k) Ts) (hM : eMOK qm l D dA b base k M) (hRf : R.frames = (qm k).2.2.2.2.2.2.2.1) (hRl : R.locals = (qm k).2.2.2.2.2.2.2.2) {pc len ra rb wi : Nat}  {ls : eL} {st : List Value} {h : eH} {q' : eS} (hd : decode (qm k).2.1 pc = .ok (.lcmp, len)) (hi : iB qm k (pc, .lcmp, len, ra, rb, wi) = true) (hs : estep sc M (pc, .lcmp, len, ra, rb, wi) ls st h = some (.inl q')) : eGo p l e R s m args below meth c D dA b base (qm k).2.2.1 pc ls st h q' := by
  obtain ⟨hx, hb, hml, hown, hts0, hT, hK, hbs, hin, hsc⟩ := C
  have hts : ∀ w ∈ gT, w.before args s = true := fun w h => hts0 w (hT w h)
  have hlen : len = 1 := nb hi
  subst hlen
  obtain ⟨x, y, t, rfl, hs⟩ := iv_sLL hs
  cases hs
  exact eGo.pure1 fun hl hw hS kk => W.lcmp hx hb hd kk
theorem sd_idiv (C : eCx p s m args meth c D dA b base sc (qm k) Ts) (hM : eMOK qm l D dA b base k M) (hRf : R.frames = (qm k).2.2.2.2.2.2.2.1) (hRl : R.locals = (qm k).2.2.2.2.2.2.2.2) {pc len ra rb wi : Nat}  {ls : eL} {st : List Value} {h : eH} {q' : eS} (hd : decode (qm k).2.1 pc = .ok (.idiv, len)) (hi : iB qm k (pc, .idiv, len, ra, rb, wi) = true) (hs : estep sc M (pc, .idiv, len, ra, rb, wi) ls st h = some (.inl q')) : eGo p l e R s m args below meth c D dA b base (qm k).2.2.1 pc ls st h q' := by
  obtain ⟨hx, hb, hml, hown, hts0, hT, hK, hbs, hin, hsc⟩ := C
  have hts : ∀ w ∈ gT, w.before args s = true := fun w h => hts0 w (hT w h)
  have hlen : len = 1 := nb hi
  subst hlen
  obtain ⟨x, y, t, rfl, hs⟩ := iv_sII hs
  rcases bal hs with ⟨-, hs⟩ | ⟨hy, hs⟩
  · cases hs
  · cases hs
    exact eGo.pure1 fun hl hw hS kk => lv_idiv hx hb hd hy kk
theorem sd_irem (C : eCx p s m args meth c D dA b base sc (qm k) Ts) (hM : eMOK qm l D dA b base k M) (hRf : R.frames = (qm k).2.2.2.2.2.2.2.1) (hRl : R.locals = (qm k).2.2.2.2.2.2.2.2) {pc len ra rb wi : Nat}  {ls : eL} {st : List Value} {h : eH} {q' : eS} (hd : decode (qm k).2.1 pc = .ok (.irem, len)) (hi : iB qm k (pc, .irem, len, ra, rb, wi) = true) (hs : estep sc M (pc, .irem, len, ra, rb, wi) ls st h = some (.inl q')) : eGo p l e R s m args below meth c D dA b base (qm k).2.2.1 pc ls st h q' := by
  obtain ⟨hx, hb, hml, hown, hts0, hT, hK, hbs, hin, hsc⟩ := C
  have hts : ∀ w ∈ gT, w.before args s = true := fun w h => hts0 w (hT w h)
  have hlen : len = 1 := nb hi
  subst hlen
  obtain ⟨x, y, t, rfl, hs⟩ := iv_sII hs
  rcases bal hs with ⟨-, hs⟩ | ⟨hy, hs⟩
  · cases hs
  · cases hs
    exact eGo.pure1 fun hl hw hS kk => lv_irem hx hb hd hy kk
theorem sd_ldiv (C : eCx p s m args meth c D dA b base sc (qm k) Ts) (hM : eMOK qm l D dA b base k M) (hRf : R.frames = (qm k).2.2.2.2.2.2.2.1) (hRl : R.locals = (qm k).2.2.2.2.2.2.2.2) {pc len ra rb wi : Nat}  {ls : eL} {st : List Value} {h : eH} {q' : eS} (hd : decode (qm k).2.1 pc = .ok (.ldiv, len)) (hi : iB qm k (pc, .ldiv, len, ra, rb, wi) = true) (hs : estep sc M (pc, .ldiv, len, ra, rb, wi) ls st h = some (.inl q')) : eGo p l e R s m args below meth c D dA b base (qm k).2.2.1 pc ls st h q' := by
  obtain ⟨hx, hb, hml, hown, hts0, hT, hK, hbs, hin, hsc⟩ := C
  have hts : ∀ w ∈ gT, w.before args s = true := fun w h => hts0 w (hT w h)
  have hlen : len = 1 := nb hi
  subst hlen
  obtain ⟨x, y, t, rfl, hs⟩ := iv_sLL hs
  rcases bal hs with ⟨-, hs⟩ | ⟨hy, hs⟩
  · cases hs
  · cases hs
    exact eGo.pure1 fun hl hw hS kk => lv_ldiv hx hb hd hy kk
theorem sd_lrem (C : eCx p s m args meth c D dA b base sc (qm k) Ts) (hM : eMOK qm l D dA b base k M) (hRf : R.frames = (qm k).2.2.2.2.2.2.2.1) (hRl : R.locals = (qm k).2.2.2.2.2.2.2.2) {pc len ra rb wi : Nat}  {ls : eL} {st : List Value} {h : eH} {q' : eS} (hd : decode (qm k).2.1 pc = .ok (.lrem, len)) (hi : iB qm k (pc, .lrem, len, ra, rb, wi) = true) (hs : estep sc M (pc, .lrem, len, ra, rb, wi) ls st h = some (.inl q')) : eGo p l e R s m args below meth c D dA b base (qm k).2.2.1 pc ls st h q' := by
  obtain ⟨hx, hb, hml, hown, hts0, hT, hK, hbs, hin, hsc⟩ := C
  have hts : ∀ w ∈ gT, w.before args s = true := fun w h => hts0 w (hT w h)
  have hlen : len = 1 := nb hi
  subst hlen
  obtain ⟨x, y, t, rfl, hs⟩ := iv_sLL hs
  rcases bal hs with ⟨-, hs⟩ | ⟨hy, hs⟩
  · cases hs
  · cases hs
    exact eGo.pure1 fun hl hw hS kk => lv_lrem hx hb hd hy kk
theorem sd_ineg (C : eCx p s m args meth c D dA b base sc (qm k) Ts) (hM : eMOK qm l D dA b base k M) (hRf : R.frames = (qm k).2.2.2.2.2.2.2.1) (hRl : R.locals = (qm k).2.2.2.2.2.2.2.2) {pc len ra rb wi : Nat}  {ls : eL} {st : List Value} {h : eH} {q' : eS} (hd : decode (qm k).2.1 pc = .ok (.ineg, len)) (hi : iB qm k (pc, .ineg, len, ra, rb, wi) = true) (hs : estep sc M (pc, .ineg, len, ra, rb, wi) ls st h = some (.inl q')) : eGo p l e R s m args below meth c D dA b base (qm k).2.2.1 pc ls st h q' := by
  obtain ⟨hx, hb, hml, hown, hts0, hT, hK, hbs, hin, hsc⟩ := C
  have hts : ∀ w ∈ gT, w.before args s = true := fun w h => hts0 w (hT w h)
  have hlen : len = 1 := nb hi
  subst hlen
  obtain ⟨x, t, rfl, hs⟩ := iv_sI hs
  cases hs
  exact eGo.pure1 fun hl hw hS kk => lv_ineg hx hb hd kk
theorem sd_lneg (C : eCx p s m args meth c D dA b base sc (qm k) Ts) (hM : eMOK qm l D dA b base k M) (hRf : R.frames = (qm k).2.2.2.2.2.2.2.1) (hRl : R.locals = (qm k).2.2.2.2.2.2.2.2) {pc len ra rb wi : Nat}  {ls : eL} {st : List Value} {h : eH} {q' : eS} (hd : decode (qm k).2.1 pc = .ok (.lneg, len)) (hi : iB qm k (pc, .lneg, len, ra, rb, wi) = true) (hs : estep sc M (pc, .lneg, len, ra, rb, wi) ls st h = some (.inl q')) : eGo p l e R s m args below meth c D dA b base (qm k).2.2.1 pc ls st h q' := by
  obtain ⟨hx, hb, hml, hown, hts0, hT, hK, hbs, hin, hsc⟩ := C
  have hts : ∀ w ∈ gT, w.before args s = true := fun w h => hts0 w (hT w h)
  have hlen : len = 1 := nb hi
  subst hlen
  obtain ⟨x, t, rfl, hs⟩ := iv_sL hs
  cases hs
  exact eGo.pure1 fun hl hw hS kk => lv_lneg hx hb hd kk
theorem sd_i2l (C : eCx p s m args meth c D dA b base sc (qm k) Ts) (hM : eMOK qm l D dA b base k M) (hRf : R.frames = (qm k).2.2.2.2.2.2.2.1) (hRl : R.locals = (qm k).2.2.2.2.2.2.2.2) {pc len ra rb wi : Nat}  {ls : eL} {st : List Value} {h : eH} {q' : eS} (hd : decode (qm k).2.1 pc = .ok (.i2l, len)) (hi : iB qm k (pc, .i2l, len, ra, rb, wi) = true) (hs : estep sc M (pc, .i2l, len, ra, rb, wi) ls st h = some (.inl q')) : eGo p l e R s m args below meth c D dA b base (qm k).2.2.1 pc ls st h q' := by
  obtain ⟨hx, hb, hml, hown, hts0, hT, hK, hbs, hin, hsc⟩ := C
  have hts : ∀ w ∈ gT, w.before args s = true := fun w h => hts0 w (hT w h)
  have hlen : len = 1 := nb hi
  subst hlen
  obtain ⟨x, t, rfl, hs⟩ := iv_sI hs
  cases hs
  exact eGo.pure1 fun hl hw hS kk => lv_i2l hx hb hd rfl kk
theorem sd_l2i (C : eCx p s m args meth c D dA b base sc (qm k) Ts) (hM : eMOK qm l D dA b base k M) (hRf : R.frames = (qm k).2.2.2.2.2.2.2.1) (hRl : R.locals = (qm k).2.2.2.2.2.2.2.2) {pc len ra rb wi : Nat}  {ls : eL} {st : List Value} {h : eH} {q' : eS} (hd : decode (qm k).2.1 pc = .ok (.l2i, len)) (hi : iB qm k (pc, .l2i, len, ra, rb, wi) = true) (hs : estep sc M (pc, .l2i, len, ra, rb, wi) ls st h = some (.inl q')) : eGo p l e R s m args below meth c D dA b base (qm k).2.2.1 pc ls st h q' := by
  obtain ⟨hx, hb, hml, hown, hts0, hT, hK, hbs, hin, hsc⟩ := C
  have hts : ∀ w ∈ gT, w.before args s = true := fun w h => hts0 w (hT w h)
  have hlen : len = 1 := nb hi
  subst hlen
  obtain ⟨x, t, rfl, hs⟩ := iv_sL hs
  cases hs
  exact eGo.pure1 fun hl hw hS kk => lv_l2i hx hb hd rfl kk
theorem sd_i2b (C : eCx p s m args meth c D dA b base sc (qm k) Ts) (hM : eMOK qm l D dA b base k M) (hRf : R.frames = (qm k).2.2.2.2.2.2.2.1) (hRl : R.locals = (qm k).2.2.2.2.2.2.2.2) {pc len ra rb wi : Nat}  {ls : eL} {st : List Value} {h : eH} {q' : eS} (hd : decode (qm k).2.1 pc = .ok (.i2b, len)) (hi : iB qm k (pc, .i2b, len, ra, rb, wi) = true) (hs : estep sc M (pc, .i2b, len, ra, rb, wi) ls st h = some (.inl q')) : eGo p l e R s m args below meth c D dA b base (qm k).2.2.1 pc ls st h q' := by
  obtain ⟨hx, hb, hml, hown, hts0, hT, hK, hbs, hin, hsc⟩ := C
  have hts : ∀ w ∈ gT, w.before args s = true := fun w h => hts0 w (hT w h)
  have hlen : len = 1 := nb hi
  subst hlen
  obtain ⟨x, t, rfl, hs⟩ := iv_sI hs
  cases hs
  exact eGo.pure1 fun hl hw hS kk => lv_i2b hx hb hd rfl kk
theorem sd_i2s (C : eCx p s m args meth c D dA b base sc (qm k) Ts) (hM : eMOK qm l D dA b base k M) (hRf : R.frames = (qm k).2.2.2.2.2.2.2.1) (hRl : R.locals = (qm k).2.2.2.2.2.2.2.2) {pc len ra rb wi : Nat}  {ls : eL} {st : List Value} {h : eH} {q' : eS} (hd : decode (qm k).2.1 pc = .ok (.i2s, len)) (hi : iB qm k (pc, .i2s, len, ra, rb, wi) = true) (hs : estep sc M (pc, .i2s, len, ra, rb, wi) ls st h = some (.inl q')) : eGo p l e R s m args below meth c D dA b base (qm k).2.2.1 pc ls st h q' := by
  obtain ⟨hx, hb, hml, hown, hts0, hT, hK, hbs, hin, hsc⟩ := C
  have hts : ∀ w ∈ gT, w.before args s = true := fun w h => hts0 w (hT w h)
  have hlen : len = 1 := nb hi
  subst hlen
  obtain ⟨x, t, rfl, hs⟩ := iv_sI hs
  cases hs
  exact eGo.pure1 fun hl hw hS kk => lv_i2s hx hb hd rfl kk
theorem sd_lshl (C : eCx p s m args meth c D dA b base sc (qm k) Ts) (hM : eMOK qm l D dA b base k M) (hRf : R.frames = (qm k).2.2.2.2.2.2.2.1) (hRl : R.locals = (qm k).2.2.2.2.2.2.2.2) {pc len ra rb wi : Nat}  {ls : eL} {st : List Value} {h : eH} {q' : eS} (hd : decode (qm k).2.1 pc = .ok (.lshl, len)) (hi : iB qm k (pc, .lshl, len, ra, rb, wi) = true) (hs : estep sc M (pc, .lshl, len, ra, rb, wi) ls st h = some (.inl q')) : eGo p l e R s m args below meth c D dA b base (qm k).2.2.1 pc ls st h q' := by
  obtain ⟨hx, hb, hml, hown, hts0, hT, hK, hbs, hin, hsc⟩ := C
  have hts : ∀ w ∈ gT, w.before args s = true := fun w h => hts0 w (hT w h)
  have hlen : len = 1 := nb hi
  subst hlen
  obtain ⟨x, y, t, rfl, hs⟩ := iv_sLI hs
  cases hs
  exact eGo.pure1 fun hl hw hS kk => lv_lshl hx hb hd rfl kk
theorem sd_dup (C : eCx p s m args meth c D dA b base sc (qm k) Ts) (hM : eMOK qm l D dA b base k M) (hRf : R.frames = (qm k).2.2.2.2.2.2.2.1) (hRl : R.locals = (qm k).2.2.2.2.2.2.2.2) {pc len ra rb wi : Nat}  {ls : eL} {st : List Value} {h : eH} {q' : eS} (hd : decode (qm k).2.1 pc = .ok (.dup, len)) (hi : iB qm k (pc, .dup, len, ra, rb, wi) = true) (hs : estep sc M (pc, .dup, len, ra, rb, wi) ls st h = some (.inl q')) : eGo p l e R s m args below meth c D dA b base (qm k).2.2.1 pc ls st h q' := by
  obtain ⟨hx, hb, hml, hown, hts0, hT, hK, hbs, hin, hsc⟩ := C
  have hts : ∀ w ∈ gT, w.before args s = true := fun w h => hts0 w (hT w h)
  have hlen : len = 1 := nb hi
  subst hlen
  obtain ⟨v, t, rfl, hs⟩ := iv_sV hs
  obtain ⟨hc, hs⟩ := iv_bo hs
  cases hs
  exact eGo.pure1 fun hl hw hS kk => lv_dup hx hb hd ((lf_cat b base v).trans (nb hc)) kk
theorem sd_pop (C : eCx p s m args meth c D dA b base sc (qm k) Ts) (hM : eMOK qm l D dA b base k M) (hRf : R.frames = (qm k).2.2.2.2.2.2.2.1) (hRl : R.locals = (qm k).2.2.2.2.2.2.2.2) {pc len ra rb wi : Nat}  {ls : eL} {st : List Value} {h : eH} {q' : eS} (hd : decode (qm k).2.1 pc = .ok (.pop, len)) (hi : iB qm k (pc, .pop, len, ra, rb, wi) = true) (hs : estep sc M (pc, .pop, len, ra, rb, wi) ls st h = some (.inl q')) : eGo p l e R s m args below meth c D dA b base (qm k).2.2.1 pc ls st h q' := by
  obtain ⟨hx, hb, hml, hown, hts0, hT, hK, hbs, hin, hsc⟩ := C
  have hts : ∀ w ∈ gT, w.before args s = true := fun w h => hts0 w (hT w h)
  have hlen : len = 1 := nb hi
  subst hlen
  obtain ⟨v, t, rfl, hs⟩ := iv_sV hs
  obtain ⟨hc, hs⟩ := iv_bo hs
  cases hs
  exact eGo.pure1 fun hl hw hS kk => lv_pop hx hb hd ((lf_cat b base v).trans (nb hc)) kk
theorem sd_dup2 (C : eCx p s m args meth c D dA b base sc (qm k) Ts) (hM : eMOK qm l D dA b base k M) (hRf : R.frames = (qm k).2.2.2.2.2.2.2.1) (hRl : R.locals = (qm k).2.2.2.2.2.2.2.2) {pc len ra rb wi : Nat}  {ls : eL} {st : List Value} {h : eH} {q' : eS} (hd : decode (qm k).2.1 pc = .ok (.dup2, len)) (hi : iB qm k (pc, .dup2, len, ra, rb, wi) = true) (hs : estep sc M (pc, .dup2, len, ra, rb, wi) ls st h = some (.inl q')) : eGo p l e R s m args below meth c D dA b base (qm k).2.2.1 pc ls st h q' := by
  obtain ⟨hx, hb, hml, hown, hts0, hT, hK, hbs, hin, hsc⟩ := C
  have hts : ∀ w ∈ gT, w.before args s = true := fun w h => hts0 w (hT w h)
  have hlen : len = 1 := nb hi
  subst hlen
  obtain ⟨v, t, rfl, hs⟩ := iv_sV hs
  obtain ⟨u, t, rfl, hs⟩ := iv_sV hs
  obtain ⟨hc, hs⟩ := iv_bo hs
  rw [Bool.and_eq_true] at hc
  cases hs
  exact eGo.pure1 fun hl hw hS kk => lv_dup2_11 hx hb hd ((lf_cat b base v).trans (nb hc.1)) ((lf_cat b base u).trans (nb hc.2)) kk
theorem sd_goto (C : eCx p s m args meth c D dA b base sc (qm k) Ts) (hM : eMOK qm l D dA b base k M) (hRf : R.frames = (qm k).2.2.2.2.2.2.2.1) (hRl : R.locals = (qm k).2.2.2.2.2.2.2.2) {pc len ra rb wi : Nat} {off : Int} {ls : eL} {st : List Value} {h : eH} {q' : eS} (hd : decode (qm k).2.1 pc = .ok (.goto off, len)) (hi : iB qm k (pc, .goto off, len, ra, rb, wi) = true) (hs : estep sc M (pc, .goto off, len, ra, rb, wi) ls st h = some (.inl q')) : eGo p l e R s m args below meth c D dA b base (qm k).2.2.1 pc ls st h q' := by
  obtain ⟨hx, hb, hml, hown, hts0, hT, hK, hbs, hin, hsc⟩ := C
  have hts : ∀ w ∈ gT, w.before args s = true := fun w h => hts0 w (hT w h)
  obtain ⟨ht, hlen⟩ := jB_ok hi
  dsimp only at ht hlen
  subst hlen
  cases hs
  exact eGo.pure1 fun hl hw hS kk => lv_goto hx hb hd ht kk
theorem sd_ifCond (C : eCx p s m args meth c D dA b base sc (qm k) Ts) (hM : eMOK qm l D dA b base k M) (hRf : R.frames = (qm k).2.2.2.2.2.2.2.1) (hRl : R.locals = (qm k).2.2.2.2.2.2.2.2) {pc len ra rb wi : Nat} {cd : Jvm.ClassFile.Cond} {off : Int} {ls : eL} {st : List Value} {h : eH} {q' : eS} (hd : decode (qm k).2.1 pc = .ok (.ifCond cd off, len)) (hi : iB qm k (pc, .ifCond cd off, len, ra, rb, wi) = true) (hs : estep sc M (pc, .ifCond cd off, len, ra, rb, wi) ls st h = some (.inl q')) : eGo p l e R s m args below meth c D dA b base (qm k).2.2.1 pc ls st h q' := by
  obtain ⟨hx, hb, hml, hown, hts0, hT, hK, hbs, hin, hsc⟩ := C
  have hts : ∀ w ∈ gT, w.before args s = true := fun w h => hts0 w (hT w h)
  obtain ⟨ht, hlen⟩ := jB_ok hi
  dsimp only at ht hlen
  subst hlen
  obtain ⟨x, t, rfl, hs⟩ := iv_sI hs
  cases cd with
  | eq =>
    rcases bal hs with ⟨hc, hs⟩ | ⟨hc, hs⟩
    · cases hs
      exact eGo.pure1 fun hl hw hS kk => lv_if_eq hx hb hd ht (fun _ => kk) (fun z => absurd hc z)
    · cases hs
      exact eGo.pure1 fun hl hw hS kk => lv_if_eq hx hb hd ht (fun z => absurd z hc) (fun _ => kk)
  | ne =>
    rcases bal hs with ⟨hc, hs⟩ | ⟨hc, hs⟩
    · cases hs
      exact eGo.pure1 fun hl hw hS kk => lv_if_ne hx hb hd ht (fun z => absurd hc z) (fun _ => kk)
    · cases hs
      exact eGo.pure1 fun hl hw hS kk => lv_if_ne hx hb hd ht (fun _ => kk) (fun z => absurd z hc)
  | lt =>
    rcases bal hs with ⟨hc, hs⟩ | ⟨hc, hs⟩
    · cases hs
      exact eGo.pure1 fun hl hw hS kk => lv_if_lt hx hb hd ht (fun _ => kk) (fun z => absurd hc z)
    · cases hs
      exact eGo.pure1 fun hl hw hS kk => lv_if_lt hx hb hd ht (fun z => absurd z hc) (fun _ => kk)
  | ge =>
    rcases bal hs with ⟨hc, hs⟩ | ⟨hc, hs⟩
    · cases hs
      exact eGo.pure1 fun hl hw hS kk => lv_if_ge hx hb hd ht (fun _ => kk) (fun z => absurd hc z)
    · cases hs
      exact eGo.pure1 fun hl hw hS kk => lv_if_ge hx hb hd ht (fun z => absurd z hc) (fun _ => kk)
  | gt =>
    rcases bal hs with ⟨hc, hs⟩ | ⟨hc, hs⟩
    · cases hs
      exact eGo.pure1 fun hl hw hS kk => lv_if_gt hx hb hd ht (fun _ => kk) (fun z => absurd hc z)
    · cases hs
      exact eGo.pure1 fun hl hw hS kk => lv_if_gt hx hb hd ht (fun z => absurd z hc) (fun _ => kk)
  | le =>
    rcases bal hs with ⟨hc, hs⟩ | ⟨hc, hs⟩
    · cases hs
      exact eGo.pure1 fun hl hw hS kk => lv_if_le hx hb hd ht (fun _ => kk) (fun z => absurd hc z)
    · cases hs
      exact eGo.pure1 fun hl hw hS kk => lv_if_le hx hb hd ht (fun z => absurd z hc) (fun _ => kk)
theorem sd_if_icmp (C : eCx p s m args meth c D dA b base sc (qm k) Ts) (hM : eMOK qm l D dA b base k M) (hRf : R.frames = (qm k).2.2.2.2.2.2.2.1) (hRl : R.locals = (qm k).2.2.2.2.2.2.2.2) {pc len ra rb wi : Nat} {cd : Jvm.ClassFile.Cond} {off : Int} {ls : eL} {st : List Value} {h : eH} {q' : eS} (hd : decode (qm k).2.1 pc = .ok (.if_icmp cd off, len)) (hi : iB qm k (pc, .if_icmp cd off, len, ra, rb, wi) = true) (hs : estep sc M (pc, .if_icmp cd off, len, ra, rb, wi) ls st h = some (.inl q')) : eGo p l e R s m args below meth c D dA b base (qm k).2.2.1 pc ls st h q' := by
  obtain ⟨hx, hb, hml, hown, hts0, hT, hK, hbs, hin, hsc⟩ := C
  have hts : ∀ w ∈ gT, w.before args s = true := fun w h => hts0 w (hT w h)
  obtain ⟨ht, hlen⟩ := jB_ok hi
  dsimp only at ht hlen
  subst hlen
  obtain ⟨x, y, t, rfl, hs⟩ := iv_sII hs
  cases cd with
  | eq =>
    rcases bal hs with ⟨hc, hs⟩ | ⟨hc, hs⟩
    · cases hs
      exact eGo.pure1 fun hl hw hS kk => lv_icmp_eq hx hb hd ht (fun _ => kk) (fun z => absurd hc z)
    · cases hs
      exact eGo.pure1 fun hl hw hS kk => lv_icmp_eq hx hb hd ht (fun z => absurd z hc) (fun _ => kk)
  | ne =>
    rcases bal hs with ⟨hc, hs⟩ | ⟨hc, hs⟩
    · cases hs
      exact eGo.pure1 fun hl hw hS kk => lv_icmp_ne hx hb hd ht (fun z => absurd hc z) (fun _ => kk)
    · cases hs
      exact eGo.pure1 fun hl hw hS kk => lv_icmp_ne hx hb hd ht (fun _ => kk) (fun z => absurd z hc)
  | lt =>
    rcases bal hs with ⟨hc, hs⟩ | ⟨hc, hs⟩
    · cases hs
      exact eGo.pure1 fun hl hw hS kk => lv_icmp_lt hx hb hd ht (fun _ => kk) (fun z => absurd hc z)
    · cases hs
      exact eGo.pure1 fun hl hw hS kk => lv_icmp_lt hx hb hd ht (fun z => absurd z hc) (fun _ => kk)
  | ge =>
    rcases bal hs with ⟨hc, hs⟩ | ⟨hc, hs⟩
    · cases hs
      exact eGo.pure1 fun hl hw hS kk => lv_icmp_ge hx hb hd ht (fun _ => kk) (fun z => absurd hc z)
    · cases hs
      exact eGo.pure1 fun hl hw hS kk => lv_icmp_ge hx hb hd ht (fun z => absurd z hc) (fun _ => kk)
  | gt =>
    rcases bal hs with ⟨hc, hs⟩ | ⟨hc, hs⟩
    · cases hs
      exact eGo.pure1 fun hl hw hS kk => lv_icmp_gt hx hb hd ht (fun _ => kk) (fun z => absurd hc z)
    · cases hs
      exact eGo.pure1 fun hl hw hS kk => lv_icmp_gt hx hb hd ht (fun z => absurd z hc) (fun _ => kk)
  | le =>
    rcases bal hs with ⟨hc, hs⟩ | ⟨hc, hs⟩
    · cases hs
      exact eGo.pure1 fun hl hw hS kk => lv_icmp_le hx hb hd ht (fun _ => kk) (fun z => absurd hc z)
    · cases hs
      exact eGo.pure1 fun hl hw hS kk => lv_icmp_le hx hb hd ht (fun z => absurd z hc) (fun _ => kk)
theorem sd_tableswitch (C : eCx p s m args meth c D dA b base sc (qm k) Ts) (hM : eMOK qm l D dA b base k M) (hRf : R.frames = (qm k).2.2.2.2.2.2.2.1) (hRl : R.locals = (qm k).2.2.2.2.2.2.2.2) {pc len ra rb wi : Nat} {dd lo hv : Int} {offs : Array Int} {ls : eL} {st : List Value} {h : eH} {q' : eS} (hd : decode (qm k).2.1 pc = .ok (.tableswitch dd lo hv offs, len)) (hi : iB qm k (pc, .tableswitch dd lo hv offs, len, ra, rb, wi) = true) (hs : estep sc M (pc, .tableswitch dd lo hv offs, len, ra, rb, wi) ls st h = some (.inl q')) : eGo p l e R s m args below meth c D dA b base (qm k).2.2.1 pc ls st h q' := by
  obtain ⟨hx, hb, hml, hown, hts0, hT, hK, hbs, hin, hsc⟩ := C
  have hts : ∀ w ∈ gT, w.before args s = true := fun w h => hts0 w (hT w h)
  obtain ⟨x, t, rfl, hs⟩ := iv_sI hs
  cases hz : eSw pc x dd lo hv offs with
  | none =>
    have hs : (match eSw pc x dd lo hv offs with | some z => if 0 ≤ z then some (.inl (z.toNat, ls, t, h)) else none | none => none) = some (Sum.inl q' : eS ⊕ eR) := hs
    rw [hz] at hs
    cases hs
  | some z =>
    have hs : (match eSw pc x dd lo hv offs with | some z => if 0 ≤ z then some (.inl (z.toNat, ls, t, h)) else none | none => none) = some (Sum.inl q' : eS ⊕ eR) := hs
    rw [hz] at hs
    rcases bal hs with ⟨h0, hs⟩ | ⟨-, hs⟩
    · cases hs
      refine eGo.pure1 fun hl hw hS kk => ?_
      unfold eSw at hz
      rcases bal hz with ⟨hc, hz⟩ | ⟨hc, hz⟩
      · cases hz
        exact lv_tableOut hx hb hd hc (by omega) kk
      · cases ho : offs[(x.toInt - lo).toNat]? with
        | none => rw [ho] at hz; cases hz
        | some o =>
          rw [ho] at hz
          cases hz
          have h0 : (0 : Int) ≤ (pc : Int) + o := h0
          show W _ _ _ _ _ _ _ _ _ _ _ _ _ _ _ _
          exact lv_tableIn hx hb hd (fun q => hc (Or.inl q)) (fun q => hc (Or.inr q)) ho (tgt := ((pc : Int) + o).toNat) (by omega) kk
    · cases hs
theorem sd_getfield (C : eCx p s m args meth c D dA b base sc (qm k) Ts) (hM : eMOK qm l D dA b base k M) (hRf : R.frames = (qm k).2.2.2.2.2.2.2.1) (hRl : R.locals = (qm k).2.2.2.2.2.2.2.2) {pc len ra rb wi : Nat} {n : Nat} {ls : eL} {st : List Value} {h : eH} {q' : eS} (hd : decode (qm k).2.1 pc = .ok (.getfield n, len)) (hi : iB qm k (pc, .getfield n, len, ra, rb, wi) = true) (hs : estep sc M (pc, .getfield n, len, ra, rb, wi) ls st h = some (.inl q')) : eGo p l e R s m args below meth c D dA b base (qm k).2.2.1 pc ls st h q' := by
  obtain ⟨hx, hb, hml, hown, hts0, hT, hK, hbs, hin, hsc⟩ := C
  have hts : ∀ w ∈ gT, w.before args s = true := fun w h => hts0 w (hT w h)
  have hi : (Nat.beq len 3 && _) = true := hi
  rw [Bool.and_eq_true] at hi
  have hlen : len = 3 := nb hi.1
  subst hlen
  obtain ⟨q, hq, hlt, hlk⟩ := fB_ok hi.2
  dsimp only at hq hlt hlk
  obtain ⟨a, t, rfl, hs⟩ := iv_sR hs
  obtain ⟨ci, fs, ha, hs⟩ := iv_hO hs
  obtain ⟨hc, hs⟩ := iv_bo hs
  have hc := nb hc
  dsimp only at hc
  subst hc
  cases hv : fs[rb]? with
  | none =>
    have hs : (match fs[rb]? with | some v => some (.inl (pc + 3, ls, v :: t, h)) | none => none) = some (Sum.inl q' : eS ⊕ eR) := hs
    rw [hv] at hs
    cases hs
  | some v =>
    have hs : (match fs[rb]? with | some v => some (.inl (pc + 3, ls, v :: t, h)) | none => none) = some (Sum.inl q' : eS ⊕ eR) := hs
    rw [hv] at hs
    cases hs
    obtain ⟨k1, k2, k3, k4, k5, k6⟩ := qcls_ok hq
    refine eGo.pure1 fun hl hw hS kk => ?_
    have hlt' : a < h.2.1 := hw.lt rfl (by
      rw [ha]
      intro z
      unfold qbad at z
      have z := Sum.inr.inj z
      have z1 : ci = 99 := congrArg Prod.fst z
      rw [z1] at hq
      simp [qcls] at hq)
    have hat := wl_at (dA := dA) (b := b) (base := base) hlt'
    rw [ha] at hat
    refine va_get (C := q.1) (T := q.2.1) (N := q.2.2) (ref := q.1) hx hb hts k1 hown hK.1 hw.2.1 a hat hq rb hlt (hts _ hlk) (fun x hx => by rw [k6 rb hlt] at hx; exact hx) (v := lf b base v) ?_ hd kk
    rw [List.getElem?_map, hv]
    rfl
theorem sd_putfield (C : eCx p s m args meth c D dA b base sc (qm k) Ts) (hM : eMOK qm l D dA b base k M) (hRf : R.frames = (qm k).2.2.2.2.2.2.2.1) (hRl : R.locals = (qm k).2.2.2.2.2.2.2.2) {pc len ra rb wi : Nat} {n : Nat} {ls : eL} {st : List Value} {h : eH} {q' : eS} (hd : decode (qm k).2.1 pc = .ok (.putfield n, len)) (hi : iB qm k (pc, .putfield n, len, ra, rb, wi) = true) (hs : estep sc M (pc, .putfield n, len, ra, rb, wi) ls st h = some (.inl q')) : eGo p l e R s m args below meth c D dA b base (qm k).2.2.1 pc ls st h q' := by
  obtain ⟨hx, hb, hml, hown, hts0, hT, hK, hbs, hin, hsc⟩ := C
  have hts : ∀ w ∈ gT, w.before args s = true := fun w h => hts0 w (hT w h)
  have hi : (Nat.beq len 3 && fB qm k (pc, .putfield n, len, ra, rb, wi) n && pB qm k (pc, .putfield n, len, ra, rb, wi)) = true := hi
  rw [Bool.and_eq_true, Bool.and_eq_true] at hi
  obtain ⟨⟨hi1, hi2⟩, hi3⟩ := hi
  have hlen : len = 3 := nb hi1
  subst hlen
  obtain ⟨q, hq, hlt, hlk⟩ := fB_ok hi2
  dsimp only at hq hlt hlk
  obtain ⟨v, a, t, rfl, hs⟩ := iv_sVR hs
  obtain ⟨ci, fs, ha, hs⟩ := iv_hO hs
  obtain ⟨hc, hs⟩ := iv_bo hs
  rw [Bool.and_eq_true, Bool.and_eq_true] at hc
  obtain ⟨⟨hc, hov⟩, hfl⟩ := hc
  have hc := nb hc
  dsimp only at hc
  subst hc
  cases hs
  obtain ⟨k1, k2, k3, k4, k5, k6⟩ := qcls_ok hq
  have hfl : rb < fs.length := Nat.le_of_ble_eq_true hfl
  have hov := okv_ok (b := b) (base := base) hov
  dsimp only at hov
  have hnq : h.1 a ≠ qbad := by
    rw [ha]
    intro z
    unfold qbad at z
    have z := Sum.inr.inj z
    have z1 : ci = 99 := congrArg Prod.fst z
    rw [z1] at hq
    simp [qcls] at hq
  refine eGo.put hnq fun {H locs cells slots arr Q} hl hw hlt' hS kk => ?_
  have hat := wl_at (dA := dA) (b := b) (base := base) hlt'
  rw [ha] at hat
  have hE : lfE dA b base (.inr (ci, fs.set rb v)) = .inr (ci, (fs.map (lf b base)).set rb (lf b base v)) := by
    show Sum.inr (ci, (fs.set rb v).map (lf b base)) = _
    rw [List.map_set]
  rw [hE] at kk
  have hap := va_apart (own := (qm k).1.cls) hts k1 (qty ci) k4 k5 hK.1 hq
  obtain ⟨r, h1, cell, q1, q2, q3, q4⟩ := hw.2.1 a _ hat
  have hr : r = (q.1, q.2.1, q.2.2) := Option.some.inj (h1.symm.trans hq)
  subst hr
  obtain ⟨hSl, hfc, kC, hkC, hkind⟩ := hK.1.1 ci _ hq
  obtain ⟨cf, kf, fi, f, hfd, hsl⟩ := hSl rb hlt
  have hfd' : s.fieldFound? q.1 (q.2.1 rb).2.1 (q.2.1 rb).2.2.1 = some (cf, kf, fi, f) := by
    have := hfd
    rw [k6 rb hlt] at this
    exact this
  have hlay := hts _ (k1 _ (u_in_lay hlt))
  have hst := (u_facts hfc hkC (u_lays hts k1 hlt) hfd).1
  have hfin : ∀ (H' : Heap), H'[base + a]? = some (cell.setSlot f.slot (lf b base v)) → H'.size = H.size → (∀ x, x ≠ base + a → H'[x]? = H[x]?) → W p l e R s m args below meth c H' (locs ++ [⟨base + a, f.slot⟩]) cells slots Q (F0 m (pc + 3) arr (t.map (lf b base))) := by
    intro H' e1 e2 e3
    rw [hsl] at e1 ⊢
    refine kk H' _ (hw.2.1.set wl_D hat ⟨_, hq, t_OB.to (V := updV (vp_V (fs.map (lf b base))) rb (lf b base v)) ⟨_, e1, q2, q3, t_set q4 hap hlt _⟩ (fun j _ => vp_updV_set (by rw [List.length_map]; exact hfl) _ j)⟩ e3) e2 (hS.put e2 e3 (Nat.le_add_right _ _))
  cases hfl9 : (q.2.1 rb).2.2.2 with
  | false =>
    unfold u_lay at hlay
    rw [if_neg (by rw [hfl9]; decide)] at hlay
    have h6 := u_store hfc hkC hkind hlay hfd (k4 rb hlt) hov.1 hov.2
    exact W.putK hx hb (f := f) ⟨hown, hts _ hlk, ⟨_, _, _, hfd'⟩, hst⟩ (by rw [q2]; exact h6) q1 q3 (by rw [hsl]; exact k2_hasslot (q4 rb hlt)) rfl rfl hd hfin
  | true =>
    unfold u_lay at hlay
    rw [if_pos hfl9] at hlay
    unfold pB at hi3
    dsimp only at hi3
    rw [hq] at hi3
    simp only [hfl9, Bool.or_eq_true, Bool.and_eq_true, beq_iff_eq, Bool.true_eq_false, false_or] at hi3
    have hcf : m.cls = cf := by
      obtain ⟨_, _, c', _, _, _, -, -, hf', -, -, -, hown2, -⟩ := Cond.laysFinal_spec hlay
      have e1 : c' = cf := by have := hfd.symm.trans hf'; simp at this; exact this.1.symm
      rw [k6 rb hlt, ← hi3.2] at hown2
      rw [← e1]; exact Option.some.inj (hown.symm.trans hown2)
    have h6 := u_fits hfc hkC hkind (Or.inr hlay) hfd (k4 rb hlt) hov.1 hov.2
    exact W.putFinK hx hb hown (hts _ hlk) hfd' hst hcf (hin hi3.1) (by rw [q2]; exact h6) q1 q3 (by rw [hsl]; exact k2_hasslot (q4 rb hlt)) rfl rfl hd hfin
theorem sd_baload (C : eCx p s m args meth c D dA b base sc (qm k) Ts) (hM : eMOK qm l D dA b base k M) (hRf : R.frames = (qm k).2.2.2.2.2.2.2.1) (hRl : R.locals = (qm k).2.2.2.2.2.2.2.2) {pc len ra rb wi : Nat}  {ls : eL} {st : List Value} {h : eH} {q' : eS} (hd : decode (qm k).2.1 pc = .ok (.baload, len)) (hi : iB qm k (pc, .baload, len, ra, rb, wi) = true) (hs : estep sc M (pc, .baload, len, ra, rb, wi) ls st h = some (.inl q')) : eGo p l e R s m args below meth c D dA b base (qm k).2.2.1 pc ls st h q' := by
  obtain ⟨hx, hb, hml, hown, hts0, hT, hK, hbs, hin, hsc⟩ := C
  have hts : ∀ w ∈ gT, w.before args s = true := fun w h => hts0 w (hT w h)
  have hlen : len = 1 := nb hi
  subst hlen
  obtain ⟨i, a, t, rfl, hs⟩ := iv_sIR hs
  obtain ⟨n, f, ha, hs⟩ := iv_hI hs
  obtain ⟨hv, hs⟩ := iv_in hs
  cases hs
  refine eGo.pure1 fun hl hw hS kk => ?_
  have hlt' : a < h.2.1 := hw.lt ha (by intro z; cases z)
  have hat := wl_at (dA := dA) (b := b) (base := base) hlt'
  rw [ha] at hat
  exact va_zald hx hb hK.1 hw.2.1 a 2 hat rfl hv hd kk
theorem sd_laload (C : eCx p s m args meth c D dA b base sc (qm k) Ts) (hM : eMOK qm l D dA b base k M) (hRf : R.frames = (qm k).2.2.2.2.2.2.2.1) (hRl : R.locals = (qm k).2.2.2.2.2.2.2.2) {pc len ra rb wi : Nat}  {ls : eL} {st : List Value} {h : eH} {q' : eS} (hd : decode (qm k).2.1 pc = .ok (.laload, len)) (hi : iB qm k (pc, .laload, len, ra, rb, wi) = true) (hs : estep sc M (pc, .laload, len, ra, rb, wi) ls st h = some (.inl q')) : eGo p l e R s m args below meth c D dA b base (qm k).2.2.1 pc ls st h q' := by
  obtain ⟨hx, hb, hml, hown, hts0, hT, hK, hbs, hin, hsc⟩ := C
  have hts : ∀ w ∈ gT, w.before args s = true := fun w h => hts0 w (hT w h)
  have hlen : len = 1 := nb hi
  subst hlen
  obtain ⟨i, a, t, rfl, hs⟩ := iv_sIR hs
  obtain ⟨n, f, ha, hs⟩ := iv_hL hs
  obtain ⟨hv, hs⟩ := iv_in hs
  cases hs
  refine eGo.pure1 fun hl hw hS kk => ?_
  have hlt' : a < h.2.1 := hw.lt ha (by intro z; cases z)
  have hat := wl_at (dA := dA) (b := b) (base := base) hlt'
  rw [ha] at hat
  exact va_lald hx hb hK.1 hw.2.1 a 1 hat rfl hv hd kk
theorem sd_iaload (C : eCx p s m args meth c D dA b base sc (qm k) Ts) (hM : eMOK qm l D dA b base k M) (hRf : R.frames = (qm k).2.2.2.2.2.2.2.1) (hRl : R.locals = (qm k).2.2.2.2.2.2.2.2) {pc len ra rb wi : Nat}  {ls : eL} {st : List Value} {h : eH} {q' : eS} (hd : decode (qm k).2.1 pc = .ok (.iaload, len)) (hi : iB qm k (pc, .iaload, len, ra, rb, wi) = true) (hs : estep sc M (pc, .iaload, len, ra, rb, wi) ls st h = some (.inl q')) : eGo p l e R s m args below meth c D dA b base (qm k).2.2.1 pc ls st h q' := by
  obtain ⟨hx, hb, hml, hown, hts0, hT, hK, hbs, hin, hsc⟩ := C
  have hts : ∀ w ∈ gT, w.before args s = true := fun w h => hts0 w (hT w h)
  have hlen : len = 1 := nb hi
  subst hlen
  rcases iv_sIF hs with ⟨i, a, t, rfl, hs⟩ | ⟨i, x, t, rfl, hs⟩
  · obtain ⟨n, f, ha, hs⟩ := iv_hI hs
    obtain ⟨hv, hs⟩ := iv_in hs
    cases hs
    refine eGo.pure1 fun hl hw hS kk => ?_
    have hlt' : a < h.2.1 := hw.lt ha (by intro z; cases z)
    have hat := wl_at (dA := dA) (b := b) (base := base) hlt'
    rw [ha] at hat
    exact va_iald hx hb hK.1 hw.2.1 a 0 hat rfl hv hd kk
  · obtain ⟨L, xs, hsc0, hs⟩ := iv_oSc hs
    obtain ⟨hv, hs⟩ := iv_in hs
    cases hs
    obtain ⟨hX, hbl, hbb⟩ := hsc L xs hsc0
    exact eGo.pure1 fun hl hw hS kk => va_sld hx hb hX hbl (Nat.not_le.mpr hbb) hS hv hd kk
theorem sd_arraylength (C : eCx p s m args meth c D dA b base sc (qm k) Ts) (hM : eMOK qm l D dA b base k M) (hRf : R.frames = (qm k).2.2.2.2.2.2.2.1) (hRl : R.locals = (qm k).2.2.2.2.2.2.2.2) {pc len ra rb wi : Nat}  {ls : eL} {st : List Value} {h : eH} {q' : eS} (hd : decode (qm k).2.1 pc = .ok (.arraylength, len)) (hi : iB qm k (pc, .arraylength, len, ra, rb, wi) = true) (hs : estep sc M (pc, .arraylength, len, ra, rb, wi) ls st h = some (.inl q')) : eGo p l e R s m args below meth c D dA b base (qm k).2.2.1 pc ls st h q' := by
  obtain ⟨hx, hb, hml, hown, hts0, hT, hK, hbs, hin, hsc⟩ := C
  have hts : ∀ w ∈ gT, w.before args s = true := fun w h => hts0 w (hT w h)
  have hlen : len = 1 := nb hi
  subst hlen
  rcases iv_sRF hs with ⟨a, t, rfl, hs⟩ | ⟨x, t, rfl, hs⟩
  · obtain ⟨tg, x, ha, htg, hs⟩ := iv_hN hs
    cases hs
    refine eGo.pure1 fun hl hw hS kk => ?_
    have hlt' : a < h.2.1 := hw.lt ha (by intro z; cases z)
    have hat := wl_at (dA := dA) (b := b) (base := base) hlt'
    rw [ha] at hat
    obtain ⟨ty, hty⟩ : ∃ ty, (tysL dA)[tg]? = some (dA tg, ty) := by
      match tg, htg with
      | 0, _ => exact ⟨_, rfl⟩
      | 1, _ => exact ⟨_, rfl⟩
      | 2, _ => exact ⟨_, rfl⟩
      | 3, _ => exact ⟨_, rfl⟩
      | 4, _ => exact ⟨_, rfl⟩
      | 5, _ => exact ⟨_, rfl⟩
      | 6, _ => exact ⟨_, rfl⟩
    obtain ⟨n, y⟩ := x
    rcases y with f | f | f | f | f
    · exact va_alen hx hb hK.1 hw.2.1 a tg hat hty rfl hd kk
    · exact va_alen hx hb hK.1 hw.2.1 a tg hat hty rfl hd kk
    · exact va_alen hx hb hK.1 hw.2.1 a tg hat hty rfl hd kk
    · exact va_alen hx hb hK.1 hw.2.1 a tg hat hty rfl hd kk
    · exact va_alen hx hb hK.1 hw.2.1 a tg hat hty rfl hd kk
  · obtain ⟨L, xs, hsc0, hs⟩ := iv_oSc hs
    cases hs
    obtain ⟨hX, hbl, hbb⟩ := hsc L xs hsc0
    exact eGo.pure1 fun hl hw hS kk => va_slen hx hb hX hbl (Nat.not_le.mpr hbb) hS hd kk
theorem sd_aaload (C : eCx p s m args meth c D dA b base sc (qm k) Ts) (hM : eMOK qm l D dA b base k M) (hRf : R.frames = (qm k).2.2.2.2.2.2.2.1) (hRl : R.locals = (qm k).2.2.2.2.2.2.2.2) {pc len ra rb wi : Nat}  {ls : eL} {st : List Value} {h : eH} {q' : eS} (hd : decode (qm k).2.1 pc = .ok (.aaload, len)) (hi : iB qm k (pc, .aaload, len, ra, rb, wi) = true) (hs : estep sc M (pc, .aaload, len, ra, rb, wi) ls st h = some (.inl q')) : eGo p l e R s m args below meth c D dA b base (qm k).2.2.1 pc ls st h q' := by
  obtain ⟨hx, hb, hml, hown, hts0, hT, hK, hbs, hin, hsc⟩ := C
  have hts : ∀ w ∈ gT, w.before args s = true := fun w h => hts0 w (hT w h)
  have hlen : len = 1 := nb hi
  subst hlen
  obtain ⟨i, a, t, rfl, hs⟩ := iv_sIR hs
  obtain ⟨tg, n, f, ha, h3, h6, hs⟩ := iv_hQ hs
  obtain ⟨hv, hs⟩ := iv_in hs
  cases hq : f i.toNatClampNeg with
  | none =>
    rw [hq] at hs
    cases hs
  | some q =>
    rw [hq] at hs
    cases hs
    refine eGo.pure1 fun hl hw hS kk => ?_
    have hlt' : a < h.2.1 := hw.lt ha (by intro z; cases z)
    have hat := wl_at (dA := dA) (b := b) (base := base) hlt'
    rw [ha] at hat
    obtain ⟨ty, hty, hrf⟩ : ∃ ty, (tysL dA)[tg]? = some (dA tg, ty) ∧ ty.isReference = true := by
      match tg, h3, h6 with
      | 3, _, _ => exact ⟨_, rfl, rfl⟩
      | 4, _, _ => exact ⟨_, rfl, rfl⟩
      | 5, _, _ => exact ⟨_, rfl, rfl⟩
      | 6, _, _ => exact ⟨_, rfl, rfl⟩
    have hlt : i.toNatClampNeg < n := Nat.not_le.mp fun q => hv (Or.inr q)
    have hcell : _ = some (vp_cell (dA tg) (n, .inr (.inr (.inr (.inr (fun j => (f j).map (base + ·))))))) := hw.2.1 a _ hat
    refine W.aald (v := .ref (base + q)) (ty := ty) hx hb hcell ((hK.1.2 tg _ hty).1 n (fun j => va_rf ((f j).map (base + ·)))) hrf (fun q => by cases q) (by show ¬ (i < 0 ∨ (arrV _ _ _).slots.size ≤ _); rw [arrV_size]; exact hv) ?_ rfl rfl hd kk
    show (arrV _ _ _).slots[_]? = _
    rw [arrV_read _ _ hlt]
    dsimp only
    rw [hq]
    rfl
theorem sd_iastore (C : eCx p s m args meth c D dA b base sc (qm k) Ts) (hM : eMOK qm l D dA b base k M) (hRf : R.frames = (qm k).2.2.2.2.2.2.2.1) (hRl : R.locals = (qm k).2.2.2.2.2.2.2.2) {pc len ra rb wi : Nat}  {ls : eL} {st : List Value} {h : eH} {q' : eS} (hd : decode (qm k).2.1 pc = .ok (.iastore, len)) (hi : iB qm k (pc, .iastore, len, ra, rb, wi) = true) (hs : estep sc M (pc, .iastore, len, ra, rb, wi) ls st h = some (.inl q')) : eGo p l e R s m args below meth c D dA b base (qm k).2.2.1 pc ls st h q' := by
  obtain ⟨hx, hb, hml, hown, hts0, hT, hK, hbs, hin, hsc⟩ := C
  have hts : ∀ w ∈ gT, w.before args s = true := fun w h => hts0 w (hT w h)
  have hlen : len = 1 := nb hi
  subst hlen
  obtain ⟨x, i, a, t, rfl, hs⟩ := iv_sIIR hs
  obtain ⟨n, f, ha, hs⟩ := iv_hI hs
  obtain ⟨hv, hs⟩ := iv_in hs
  cases hs
  refine eGo.put (by rw [ha]; intro z; cases z) fun hl hw hlt' hS kk => ?_
  have hat := wl_at (dA := dA) (b := b) (base := base) hlt'
  rw [ha] at hat
  have hcell : _ = some (vp_cell (dA 0) (n, .inl f)) := hw.2.1 a _ hat
  refine W.iast hx hb hcell ((hK.1.2 0 _ rfl).1 n (fun j => .int (f j))) (fun q => by cases q) (by show ¬ (i < 0 ∨ (arrV _ _ _).slots.size ≤ _); rw [arrV_size]; exact hv) rfl rfl hd fun H1 e z oq => ?_
  refine kk H1 _ (hw.2.1.set wl_D hat ?_ oq) z (hS.put z oq (Nat.le_add_right _ _))
  show H1[base + a]? = some (vp_cell (dA 0) (n, .inl (upd f i.toNatClampNeg x)))
  rw [e]
  rw [vp_cell_i, vp_cell_i, arrV_store]
  congr 2
  funext q
  by_cases hq : q = i.toNatClampNeg
  · subst hq
    simp [updV, upd]
  · simp [updV, upd, hq]
theorem sd_lastore (C : eCx p s m args meth c D dA b base sc (qm k) Ts) (hM : eMOK qm l D dA b base k M) (hRf : R.frames = (qm k).2.2.2.2.2.2.2.1) (hRl : R.locals = (qm k).2.2.2.2.2.2.2.2) {pc len ra rb wi : Nat}  {ls : eL} {st : List Value} {h : eH} {q' : eS} (hd : decode (qm k).2.1 pc = .ok (.lastore, len)) (hi : iB qm k (pc, .lastore, len, ra, rb, wi) = true) (hs : estep sc M (pc, .lastore, len, ra, rb, wi) ls st h = some (.inl q')) : eGo p l e R s m args below meth c D dA b base (qm k).2.2.1 pc ls st h q' := by
  obtain ⟨hx, hb, hml, hown, hts0, hT, hK, hbs, hin, hsc⟩ := C
  have hts : ∀ w ∈ gT, w.before args s = true := fun w h => hts0 w (hT w h)
  have hlen : len = 1 := nb hi
  subst hlen
  obtain ⟨x, i, a, t, rfl, hs⟩ := iv_sLIR hs
  obtain ⟨n, f, ha, hs⟩ := iv_hL hs
  obtain ⟨hv, hs⟩ := iv_in hs
  cases hs
  refine eGo.put (by rw [ha]; intro z; cases z) fun hl hw hlt' hS kk => ?_
  have hat := wl_at (dA := dA) (b := b) (base := base) hlt'
  rw [ha] at hat
  have hcell : _ = some (vp_cell (dA 1) (n, .inr (.inl f))) := hw.2.1 a _ hat
  refine W.last hx hb hcell ((hK.1.2 1 _ rfl).1 n (fun j => .long (f j))) (fun q => by cases q) (by show ¬ (i < 0 ∨ (arrV _ _ _).slots.size ≤ _); rw [arrV_size]; exact hv) rfl rfl hd fun H1 e z oq => ?_
  refine kk H1 _ (hw.2.1.set wl_D hat ?_ oq) z (hS.put z oq (Nat.le_add_right _ _))
  show H1[base + a]? = some (vp_cell (dA 1) (n, .inr (.inl (vp_updL f i.toNatClampNeg x))))
  rw [e]
  rw [vp_cell_l, vp_cell_l, arrV_store]
  congr 2
  funext q
  by_cases hq : q = i.toNatClampNeg
  · subst hq
    simp [updV, vp_updL]
  · simp [updV, vp_updL, hq]
theorem sd_bastore (C : eCx p s m args meth c D dA b base sc (qm k) Ts) (hM : eMOK qm l D dA b base k M) (hRf : R.frames = (qm k).2.2.2.2.2.2.2.1) (hRl : R.locals = (qm k).2.2.2.2.2.2.2.2) {pc len ra rb wi : Nat}  {ls : eL} {st : List Value} {h : eH} {q' : eS} (hd : decode (qm k).2.1 pc = .ok (.bastore, len)) (hi : iB qm k (pc, .bastore, len, ra, rb, wi) = true) (hs : estep sc M (pc, .bastore, len, ra, rb, wi) ls st h = some (.inl q')) : eGo p l e R s m args below meth c D dA b base (qm k).2.2.1 pc ls st h q' := by
  obtain ⟨hx, hb, hml, hown, hts0, hT, hK, hbs, hin, hsc⟩ := C
  have hts : ∀ w ∈ gT, w.before args s = true := fun w h => hts0 w (hT w h)
  have hlen : len = 1 := nb hi
  subst hlen
  obtain ⟨x, i, a, t, rfl, hs⟩ := iv_sIIR hs
  obtain ⟨n, f, ha, hs⟩ := iv_hI hs
  obtain ⟨hv, hs⟩ := iv_in hs
  obtain ⟨hc, hs⟩ := iv_bo hs
  have hnar : narrow .boolean (.int x) = .int x := by
    simp only [Bool.or_eq_true, beq_iff_eq] at hc
    rcases hc with rfl | rfl <;> decide
  cases hs
  refine eGo.put (by rw [ha]; intro z; cases z) fun hl hw hlt' hS kk => ?_
  have hat := wl_at (dA := dA) (b := b) (base := base) hlt'
  rw [ha] at hat
  have hcell : _ = some (vp_cell (dA 2) (n, .inl f)) := hw.2.1 a _ hat
  refine W.zast hx hb hcell ((hK.1.2 2 _ rfl).1 n (fun j => .int (f j))) (fun q => by cases q) (by show ¬ (i < 0 ∨ (arrV _ _ _).slots.size ≤ _); rw [arrV_size]; exact hv) rfl rfl hd fun H1 e z oq => ?_
  refine kk H1 _ (hw.2.1.set wl_D hat ?_ oq) z (hS.put z oq (Nat.le_add_right _ _))
  show H1[base + a]? = some (vp_cell (dA 2) (n, .inl (upd f i.toNatClampNeg x)))
  rw [e]
  rw [vp_cell_i, vp_cell_i, arrV_store]
  congr 2
  funext q
  by_cases hq : q = i.toNatClampNeg
  · subst hq
    simp [updV, upd, hnar]
  · simp [updV, upd, hq]
theorem sd_aastore (C : eCx p s m args meth c D dA b base sc (qm k) Ts) (hM : eMOK qm l D dA b base k M) (hRf : R.frames = (qm k).2.2.2.2.2.2.2.1) (hRl : R.locals = (qm k).2.2.2.2.2.2.2.2) {pc len ra rb wi : Nat}  {ls : eL} {st : List Value} {h : eH} {q' : eS} (hd : decode (qm k).2.1 pc = .ok (.aastore, len)) (hi : iB qm k (pc, .aastore, len, ra, rb, wi) = true) (hs : estep sc M (pc, .aastore, len, ra, rb, wi) ls st h = some (.inl q')) : eGo p l e R s m args below meth c D dA b base (qm k).2.2.1 pc ls st h q' := by
  obtain ⟨hx, hb, hml, hown, hts0, hT, hK, hbs, hin, hsc⟩ := C
  have hts : ∀ w ∈ gT, w.before args s = true := fun w h => hts0 w (hT w h)
  have hlen : len = 1 := nb hi
  subst hlen
  obtain ⟨v, i, a, t, rfl, hs⟩ := iv_sRIR hs
  obtain ⟨tg, n, f, ha, h3, h6, hs⟩ := iv_hQ hs
  obtain ⟨cv, vs, hv0, hs⟩ := iv_hO hs
  obtain ⟨hc, hs⟩ := iv_bo hs
  obtain ⟨hv, hs⟩ := iv_in hs
  cases hs
  obtain ⟨r, hr, hty⟩ : ∃ r : vw_C, qcls[cv]? = some r ∧ (tysL dA)[tg]? = some (dA tg, .object r.1) := by
    rw [Bool.or_eq_true, Bool.and_eq_true, Bool.and_eq_true] at hc
    rcases hc with ⟨h1, h2⟩ | ⟨h1, h2⟩
    · rw [nb h1, nb h2]; exact ⟨_, rfl, rfl⟩
    · rw [nb h1, nb h2]; exact ⟨_, rfl, rfl⟩
  refine eGo.put (by rw [ha]; intro z; cases z) fun hl hw hlt' hS kk => ?_
  have hat := wl_at (dA := dA) (b := b) (base := base) hlt'
  rw [ha] at hat
  have hvt : v < h.2.1 := hw.lt rfl (by
    rw [hv0]
    intro z
    unfold qbad at z
    have z := Sum.inr.inj z
    have z1 : cv = 99 := congrArg Prod.fst z
    rw [z1] at hr
    simp [qcls] at hr)
  have hav := wl_at (dA := dA) (b := b) (base := base) hvt
  rw [hv0] at hav
  have hlt : i.toNatClampNeg < n := Nat.not_le.mp fun q => hv (Or.inr q)
  have h0 : ¬ i < 0 := fun q => hv (Or.inl q)
  obtain ⟨r', hr', cellV, g1, g2, g3, -⟩ := hw.2.1 v _ hav
  have hcls := (hK.1.1 cv r hr).2
  obtain ⟨kA, comp, k1, k2, k3, -⟩ := (hK.1.2 tg _ hty).2
  have hcomp : comp = D.1 cv := Option.some.inj (k3.symm.trans hcls.1)
  subst hcomp
  obtain ⟨kC, hkC, -⟩ := hcls.2
  have hcell : _ = some (vp_cell (dA tg) (n, .inr (.inr (.inr (.inr (fun j => (f j).map (base + ·))))))) := hw.2.1 a _ hat
  refine W.aast hx hb hcell (fun q h => by cases h) (fun h => by cases h) k1 k2 rfl hkC ⟨h0, by show _ < (arrV _ _ _).slots.size; rw [arrV_size]; exact hlt⟩ g1 (fun q h => by rw [g3] at h; cases h) (by rw [g2]; exact hkC) (by rw [g2]; exact va_assign hcls) rfl rfl hd fun H1 e z oq => ?_
  refine kk H1 _ (hw.2.1.set wl_D hat ?_ oq) z (hS.put z oq (Nat.le_add_right _ _))
  show H1[base + a]? = some (vp_cell (dA tg) (n, .inr (.inr (.inr (.inr (fun j => ((va_up f i.toNatClampNeg (some v)) j).map (base + ·)))))))
  rw [e]
  rw [vp_cell_q, vp_cell_q, arrV_store]
  congr 2
  funext q
  by_cases hq : q = i.toNatClampNeg
  · subst hq
    simp [updV, va_up, va_rf]
  · simp [updV, va_up, hq]
theorem qlen {ci : Nat} {q : vw_C} (h : qcls[ci]? = some q) : (qYs.getD ci []).length = q.2.2 := by
  match ci, h with
  | 0, h => cases h; rfl
  | 1, h => cases h; rfl
  | 2, h => cases h; rfl
  | 3, h => cases h; rfl
  | 4, h => cases h; rfl
  | 5, h => cases h; rfl
  | 6, h => cases h; rfl
  | 7, h => cases h; rfl
  | 8, h => cases h; rfl
  | 9, h => cases h; rfl
  | 10, h => cases h; rfl
  | 11, h => cases h; rfl
  | i + 12, h => simp [qcls] at h
theorem lf_dv (ty : FieldType) : lf b base (defaultValue ty) = if ty = .float then .ref b else defaultValue ty := by
  cases ty <;> rfl
theorem qnof {ci : Nat} : ∀ ty ∈ qYs.getD ci [], ty ≠ .float := by
  match ci with
  | 0 => decide
  | 1 => decide
  | 2 => decide
  | 3 => decide
  | 4 => decide
  | 5 => decide
  | 6 => decide
  | 7 => decide
  | 8 => decide
  | 9 => decide
  | 10 => decide
  | 11 => decide
  | i + 12 => intro ty h; simp [qYs] at h
theorem eDf_lf {ci : Nat} : (eDf ci).map (lf b base) = eDf ci := by
  unfold eDf
  rw [List.map_map]
  refine List.map_congr_left fun ty hty => ?_
  show lf b base (defaultValue ty) = defaultValue ty
  rw [lf_dv, if_neg (qnof ty hty)]
theorem eDf_at {ci : Nat} {j : Nat} (h : j < (qYs.getD ci []).length) : defaultValue (qty ci j) = vp_V (eDf ci) j := by
  unfold qty vp_V eDf
  generalize qYs.getD ci [] = L at h ⊢
  rw [List.getD_eq_getElem?_getD, List.getD_eq_getElem?_getD, List.getElem?_map, List.getElem?_eq_getElem h]
  rfl
/-- one cell comes -/
theorem eGo.new {nL pc pc' sl : Nat} {ls : eL} {st st' : List Value} {h : eH} {x : va_E}
    (k : ∀ {H : Heap} {locs : List Loc} {cells slots : Nat} {arr : Array Slot} {Q : State → Prop}, lv_has arr nL (eEnt b base ls) → WH D dA b base h H → va_S (fun q => base ≤ q) s.heap H locs → cells + 1 ≤ R.cells → slots + sl ≤ R.slots → (∀ H' : Heap, va_at D qcls (base + h.2.1, lfE dA b base x) H' → H'.size = H.size + 1 → (∀ q, q < H.size → H'[q]? = H[q]?) → W p l e R s m args below meth c H' locs (cells + 1) (slots + sl) Q (F0 m pc' arr (st'.map (lf b base)))) → W p l e R s m args below meth c H locs cells slots Q (F0 m pc arr (st.map (lf b base)))) :
    eGo p l e R s m args below meth c D dA b base nL pc ls st h (pc', ls, st', (va_up h.1 h.2.1 x, h.2.1 + 1, h.2.2 + sl)) := by
  refine ⟨Nat.le_succ _, Nat.le_add_right _ _, rfl, fun {H locs cells slots arr Q} hl hw hS h1 h2 kk => ?_⟩
  dsimp only at h1 h2 kk
  rw [show h.2.1 + 1 - h.2.1 = 1 by omega] at h1 kk
  rw [show h.2.2 + sl - h.2.2 = sl by omega] at h2 kk
  refine k hl hw hS h1 h2 fun H' hat hz ho => ?_
  refine kk H' locs arr hl ⟨by rw [hz, hw.1]; rfl, ?_, fun i hi => ?_⟩ ⟨by rw [hz]; exact Nat.le_succ_of_le hS.1, fun q g1 g2 => (ho q (Nat.lt_of_lt_of_le g1 hS.1)).trans (hS.2.1 q g1 g2), hS.2.2⟩
  · rw [← wl_push (k := h.2.2 + sl)]
    refine (hw.2.1.kept fun j q hq => ho q.1 ((hw.2.1 j q hq).lt)).app fun j q hq => ?_
    have h0 : j < 1 := (List.getElem?_eq_some_iff.mp hq).1
    rw [show j = 0 by omega] at hq
    cases hq
    exact hat
  · dsimp only at hi ⊢
    rw [show va_up h.1 h.2.1 x i = h.1 i from if_neg (by omega)]
    exact hw.2.2 i (by omega)
theorem sd_new (C : eCx p s m args meth c D dA b base sc (qm k) Ts) (hM : eMOK qm l D dA b base k M) (hRf : R.frames = (qm k).2.2.2.2.2.2.2.1) (hRl : R.locals = (qm k).2.2.2.2.2.2.2.2) {pc len ra rb wi : Nat} {n : Nat} {ls : eL} {st : List Value} {h : eH} {q' : eS} (hd : decode (qm k).2.1 pc = .ok (.new n, len)) (hi : iB qm k (pc, .new n, len, ra, rb, wi) = true) (hs : estep sc M (pc, .new n, len, ra, rb, wi) ls st h = some (.inl q')) : eGo p l e R s m args below meth c D dA b base (qm k).2.2.1 pc ls st h q' := by
  obtain ⟨hx, hb, hml, hown, hts0, hT, hK, hbs, hin, hsc⟩ := C
  have hts : ∀ w ∈ gT, w.before args s = true := fun w h => hts0 w (hT w h)
  have hi : (Nat.beq len 3 && _) = true := hi
  rw [Bool.and_eq_true] at hi
  have hlen : len = 3 := nb hi.1
  subst hlen
  obtain ⟨hc12, hs⟩ := iv_bo hs
  cases hs
  obtain ⟨q, hq, hlk⟩ : ∃ q, qcls[ra]? = some q ∧ Cond.classLink (qm k).1.cls n q.1 ∈ gT := by
    have h2 := hi.2
    split at h2
    · next q hq => exact ⟨q, hq, wAt_ok h2⟩
    · cases h2
  obtain ⟨k1, k2, k3, k4, k5, k6⟩ := qcls_ok hq
  have hln := qlen hq
  have hlen : (eDf ra).length = q.2.2 := by unfold eDf; rw [List.length_map]; exact hln
  refine eGo.new fun {H locs cells slots arr Q} hl hw hS hcl hsl kk => ?_
  have hKn := hK.1.1 ra _ hq
  have hsl : slots + q.2.2 ≤ R.slots := by have := hsl; dsimp only at this; rw [hlen] at this; exact this
  refine W.newcK (n := q.2.2) hx hb hown (hts _ hlk) (hts _ k3) (hts _ k2) rfl hd hcl hsl hKn.2.1 hw.1 fun H1 kC hkC e1 z1 o1 => ?_
  have := kk H1 ⟨q, hq, (u_born (qty ra) hts k1 hKn hkC e1 k4).to (fun j hj => by rw [eDf_lf]; exact eDf_at (by rw [hln]; exact hj))⟩ (by rw [z1, hw.1]) (fun x hx => o1 x (by rw [← hw.1]; exact hx))
  dsimp only at this
  rw [hlen] at this
  exact this
theorem sd_newarray (C : eCx p s m args meth c D dA b base sc (qm k) Ts) (hM : eMOK qm l D dA b base k M) (hRf : R.frames = (qm k).2.2.2.2.2.2.2.1) (hRl : R.locals = (qm k).2.2.2.2.2.2.2.2) {pc len ra rb wi : Nat} {at9 : ArrayType} {ls : eL} {st : List Value} {h : eH} {q' : eS} (hd : decode (qm k).2.1 pc = .ok (.newarray at9, len)) (hi : iB qm k (pc, .newarray at9, len, ra, rb, wi) = true) (hs : estep sc M (pc, .newarray at9, len, ra, rb, wi) ls st h = some (.inl q')) : eGo p l e R s m args below meth c D dA b base (qm k).2.2.1 pc ls st h q' := by
  obtain ⟨hx, hb, hml, hown, hts0, hT, hK, hbs, hin, hsc⟩ := C
  have hts : ∀ w ∈ gT, w.before args s = true := fun w h => hts0 w (hT w h)
  have hi : (Nat.beq len 2 && _) = true := hi
  rw [Bool.and_eq_true] at hi
  have hlen : len = 2 := nb hi.1
  subst hlen
  have key : ∀ (tg : Nat) (ty : FieldType) (z : Nat → vp_A), newarray.typeOf at9 = ty → (tysL dA)[tg]? = some (dA tg, ty) → (∀ cA, va_RA s cA ty → s.vm.findClass ("[" ++ ty.toString) = some cA) → (∀ (n : Nat) (c9 : ClassId), vp_cell c9 (z n) = arrV c9 n (fun _ => defaultValue ty)) → (∀ n, lfE dA b base (.inl (tg, z n)) = .inl (dA tg, z n)) → componentBytes ty ≤ 8 →
      eNewA pc ls st h (fun x => (tg, x)) z 2 = some (Sum.inl q' : eS ⊕ eR) → eGo p l e R s m args below meth c D dA b base (qm k).2.2.1 pc ls st h q' := by
    intro tg ty z hty htg hra hz hlfE hcb hs
    obtain ⟨n, t, rfl, hs⟩ := iv_sI hs
    rcases bal hs with ⟨-, hs⟩ | ⟨hc, hs⟩
    · cases hs
    · cases hs
      have hn : ¬ n < 0 := fun q => hc (Or.inl q)
      have hn2 : n.toNatClampNeg ≤ 1000000 := Nat.not_lt.mp fun q => hc (Or.inr q)
      refine eGo.new fun {H locs cells slots arr Q} hl hw hS hcl hsl kk => ?_
      refine va_newaK hx hb (hts _ (wAt_ok hi.2)) rfl hd rfl hn rfl (by rw [hty]; exact Nat.le_trans (Nat.mul_le_mul hn2 hcb) (by decide)) hcl hsl hw.1 fun H1 cA e1 z1 o1 hAr hNm => ?_
      rw [hty] at hNm e1
      have hcA : cA = dA tg := Option.some.inj (hNm.symm.trans (hra _ (hK.1.2 tg _ htg).2))
      subst hcA
      refine kk H1 ?_ (by rw [z1, hw.1]) (fun x hx => o1 x (by rw [← hw.1]; exact hx))
      rw [hlfE]
      show H1[base + h.2.1]? = some (vp_cell (dA tg) (z n.toNatClampNeg))
      rw [hz]
      exact e1
  cases at9 with
  | int => exact key 0 .int (fun n => (n, .inl (fun _ => 0))) rfl rfl (fun _ h => h) (fun _ _ => rfl) (fun _ => rfl) (by decide) hs
  | long => exact key 1 .long (fun n => (n, .inr (.inl (fun _ => 0)))) rfl rfl (fun _ h => h) (fun _ _ => rfl) (fun _ => rfl) (by decide) hs
  | boolean => exact key 2 .boolean (fun n => (n, .inl (fun _ => 0))) rfl rfl (fun _ h => h) (fun _ _ => rfl) (fun _ => rfl) (by decide) hs
  | char => cases hs
  | float => cases hs
  | double => cases hs
  | byte => cases hs
  | short => cases hs
theorem sd_anewarray (C : eCx p s m args meth c D dA b base sc (qm k) Ts) (hM : eMOK qm l D dA b base k M) (hRf : R.frames = (qm k).2.2.2.2.2.2.2.1) (hRl : R.locals = (qm k).2.2.2.2.2.2.2.2) {pc len ra rb wi : Nat} {n9 : Nat} {ls : eL} {st : List Value} {h : eH} {q' : eS} (hd : decode (qm k).2.1 pc = .ok (.anewarray n9, len)) (hi : iB qm k (pc, .anewarray n9, len, ra, rb, wi) = true) (hs : estep sc M (pc, .anewarray n9, len, ra, rb, wi) ls st h = some (.inl q')) : eGo p l e R s m args below meth c D dA b base (qm k).2.2.1 pc ls st h q' := by
  obtain ⟨hx, hb, hml, hown, hts0, hT, hK, hbs, hin, hsc⟩ := C
  have hts : ∀ w ∈ gT, w.before args s = true := fun w h => hts0 w (hT w h)
  have hi : (Nat.beq len 3 && _) = true := hi
  rw [Bool.and_eq_true] at hi
  have hlen : len = 3 := nb hi.1
  subst hlen
  have key : ∀ C : String, (tysL dA)[ra]? = some (dA ra, .object C) → Cond.classLink (qm k).1.cls n9 C ∈ gT → FieldType.object C ∈ qOv → eGo p l e R s m args below meth c D dA b base (qm k).2.2.1 pc ls st h q' := by
    intro C htg hlk hov
    obtain ⟨n, t, rfl, hs⟩ := iv_sI hs
    rcases bal hs with ⟨-, hs⟩ | ⟨hc, hs⟩
    · cases hs
    · cases hs
      have hn : ¬ n < 0 := fun q => hc (Or.inl q)
      have hn2 : n.toNatClampNeg ≤ 1000000 := Nat.not_lt.mp fun q => hc (Or.inr q)
      refine eGo.new fun {H locs cells slots arr Q} hl hw hS hcl hsl kk => ?_
      refine W.anew hx hb hown (hts _ hlk) (hK.2.1 _ hov) rfl hd rfl hn (by omega) hcl hsl fun cA kA comp f1 f2 f3 f4 => ?_
      obtain ⟨-, -, -, -, -, g4⟩ := (hK.1.2 ra _ htg).2
      have hcA : cA = dA ra := Option.some.inj (f1.symm.trans g4)
      subst hcA
      have hsz := hw.1
      have := kk (H.push ({ cls := dA ra, slots := Array.replicate n.toNatClampNeg .null, vm := .none } : Cell)) (by
        show (H.push _)[base + h.2.1]? = some (vp_cell (dA ra) (n.toNatClampNeg, .inr (.inr (.inr (.inr (fun _ => none))))))
        rw [← hsz, Array.getElem?_push_size, vp_cell_q, arrV_new]
        rfl) (by rw [Array.size_push]) (fun q hq => by rw [Array.getElem?_push, if_neg (Nat.ne_of_lt hq)])
      rw [hsz]
      exact this
  have h2 := hi.2
  rw [Bool.or_eq_true, Bool.and_eq_true, Bool.and_eq_true] at h2
  rcases h2 with ⟨h2, h3⟩ | ⟨h2, h3⟩
  · have h2 := nb h2
    dsimp only at h2
    subst h2
    exact key _ rfl (wAt_ok h3) (by decide)
  · have h2 := nb h2
    dsimp only at h2
    subst h2
    exact key _ rfl (wAt_ok h3) (by decide)
theorem ou_eq (c9 : ClassId) (N h0 : Nat) : ∀ i : Nat, Jvm.Free.Multi.outerC c9 N h0 i = arrV c9 N (fun j => va_rf (if j < i then some (h0 + 1 + j) else none))
  | 0 => by
    show ({ cls := c9, slots := Array.replicate N .null, vm := .none } : Cell) = _
    rw [arrV_new]
    refine congrArg (arrV c9 N) (funext fun j => ?_)
    simp [va_rf]
  | i + 1 => by
    show (Jvm.Free.Multi.outerC c9 N h0 i).setSlot i (.ref (h0 + 1 + i)) = _
    rw [ou_eq c9 N h0 i, arrV_store]
    refine congrArg (arrV c9 N) (funext fun j => ?_)
    by_cases e1 : j = i
    · subst e1
      simp [updV, va_rf]
    · by_cases h1 : j < i
      · simp [updV, e1, h1, Nat.lt_succ_of_lt h1]
      · simp [updV, e1, h1, show ¬ j < i + 1 by omega]
theorem sd_mul (C : eCx p s m args meth c D dA b base sc (qm k) Ts) (hM : eMOK qm l D dA b base k M) (hRf : R.frames = (qm k).2.2.2.2.2.2.2.1) (hRl : R.locals = (qm k).2.2.2.2.2.2.2.2) {pc len ra rb wi : Nat} {n9 d9 : Nat} {ls : eL} {st : List Value} {h : eH} {q' : eS} (hd : decode (qm k).2.1 pc = .ok (.multianewarray n9 d9, len)) (hi : iB qm k (pc, .multianewarray n9 d9, len, ra, rb, wi) = true) (hs : estep sc M (pc, .multianewarray n9 d9, len, ra, rb, wi) ls st h = some (.inl q')) : eGo p l e R s m args below meth c D dA b base (qm k).2.2.1 pc ls st h q' := by
  obtain ⟨hx, hb, hml, hown, hts0, hT, hK, hbs, hin, hsc⟩ := C
  have hts : ∀ w ∈ gT, w.before args s = true := fun w h => hts0 w (hT w h)
  have hi : (Nat.beq len 4 && Nat.beq d9 2 && _) = true := hi
  rw [Bool.and_eq_true, Bool.and_eq_true] at hi
  have hlen : len = 4 := nb hi.1.1
  subst hlen
  have hd9 : d9 = 2 := nb hi.1.2
  subst hd9
  have key : ∀ (ty : FieldType) (z : Nat → vp_A), (tysL dA)[ra]? = some (dA ra, .array ty) → (tysL dA)[rb]? = some (dA rb, ty) → Cond.classLink (qm k).1.cls n9 ("[" ++ (FieldType.array ty).toString) ∈ gT → FieldType.array ty ∈ qOv → Cond.arrayClass ty ∈ gT → fits ty (defaultValue ty) = true → (defaultValue ty).isDefault = true → componentBytes ty ≤ 8 → s.vm.findClass ("[" ++ (FieldType.array ty).toString) = some (dA ra) → s.vm.findClass (FieldType.array ty).toString = some (dA rb) →
      (∀ (n : Nat) (c9 : ClassId), vp_cell c9 (z n) = arrV c9 n (fun _ => defaultValue ty)) → (∀ n, lfE dA b base (.inl (rb, z n)) = .inl (dA rb, z n)) → (∀ n : Nat, ((rb, n, (bif Nat.beq rb 0 then .inl (fun _ => 0) else .inr (.inl (fun _ => 0)))) : Nat × vp_A) = (rb, z n)) → eGo p l e R s m args below meth c D dA b base (qm k).2.2.1 pc ls st h q' := by
    intro ty z hta htb hlk hov hac hdf hdd hcb hna hnb hz hlfE hzz
    obtain ⟨n, j, t, rfl, hs⟩ := iv_sII hs
    rcases bal hs with ⟨-, hs⟩ | ⟨hc, hs⟩
    · cases hs
    · cases hs
      have hn : ¬ n < 0 := fun q => hc (Or.inl q)
      have hj : ¬ j < 0 := fun q => hc (Or.inr (Or.inl q))
      have hn2 : n.toNatClampNeg ≤ 1000 := Nat.not_lt.mp fun q => hc (Or.inr (Or.inr (Or.inl q)))
      have hj2 : j.toNatClampNeg ≤ 1000 := Nat.not_lt.mp fun q => hc (Or.inr (Or.inr (Or.inr q)))
      refine ⟨by dsimp only; omega, by dsimp only; omega, rfl, fun {H locs cells slots arr Q} hl hw hS h1 h2 kk => ?_⟩
      dsimp only at h1 h2 kk
      rw [show h.2.1 + 1 + n.toNatClampNeg - h.2.1 = 1 + n.toNatClampNeg by omega] at h1 kk
      rw [show h.2.2 + n.toNatClampNeg + n.toNatClampNeg * j.toNatClampNeg - h.2.2 = n.toNatClampNeg + n.toNatClampNeg * j.toNatClampNeg by omega] at h2 kk
      intro T hT X
      obtain ⟨vm₁, cA, comp, -, fA, fC, -, -, X', step⟩ := X.multianewarray2F hx hown (hts _ hlk) (hK.2.1 _ hov) (hts _ hac) (g := F0 m pc arr (.int j :: .int n :: t.map (lf b base))) rfl (by rw [hb]; exact hd) rfl hn hj (by omega) (Nat.le_trans (Nat.mul_le_mul hj2 hcb) (by decide)) (by omega) hdf hdd h1 h2
      have e1 : cA = dA ra := Option.some.inj (fA.symm.trans hna)
      have e2 : comp = dA rb := Option.some.inj (fC.symm.trans hnb)
      subst e1
      subst e2
      generalize hF : Jvm.Free.Multi.fill (T.setVm vm₁) (dA ra) (dA rb) n.toNatClampNeg j.toNatClampNeg (defaultValue ty) n.toNatClampNeg = F at X' step
      have hTh : (T.setVm vm₁).heap = H := hT
      obtain ⟨f1, f2, -, -⟩ := Jvm.Free.Multi.fill_facts (T.setVm vm₁) (dA ra) (dA rb) n.toNatClampNeg j.toNatClampNeg (defaultValue ty) n.toNatClampNeg
      rw [hF, hTh] at f1 f2
      have hold : ∀ x : Nat, x < H.size → F.heap[x]? = H[x]? := fun x hx => by
        have := Jvm.Free.Multi.fill_old (T.setVm vm₁) (dA ra) (dA rb) n.toNatClampNeg j.toNatClampNeg (defaultValue ty) (a := x) (by rw [hTh]; exact hx) n.toNatClampNeg
        rw [hF, hTh] at this
        exact this
      have hrow : ∀ i : Nat, i < n.toNatClampNeg → F.heap[H.size + 1 + i]? = some (vp_cell (dA rb) (z j.toNatClampNeg)) := fun i hi => by
        have := Jvm.Free.Multi.fill_inner (T.setVm vm₁) (dA ra) (dA rb) n.toNatClampNeg j.toNatClampNeg (defaultValue ty) n.toNatClampNeg i hi
        rw [hF, hTh] at this
        rw [this, hz]
        unfold Jvm.Free.Multi.innerC
        rw [arrV_new]
      have hsz := hw.1
      have hWH := fun (HH : WH D dA b base _ F.heap) => kk F.heap locs arr hl HH ⟨by rw [f1]; have := hS.1; omega, fun q g1 g2 => (hold q (Nat.lt_of_lt_of_le g1 hS.1)).trans (hS.2.1 q g1 g2), hS.2.2⟩ F rfl (by rw [← Nat.add_assoc, ← Nat.add_assoc]; exact X')
      obtain ⟨t2, a1, b1⟩ := hWH (by
        refine ⟨by dsimp only; rw [f1, hsz]; omega, fun i q hq => ?_, fun i hi => ?_⟩
        · have hi : i < h.2.1 + 1 + n.toNatClampNeg := by
            have := (List.getElem?_eq_some_iff.mp hq).1
            rw [wl_len] at this
            exact this
          rw [wl_at (by exact hi)] at hq
          cases hq
          dsimp only
          by_cases hi1 : i = h.2.1
          · subst hi1
            rw [if_pos rfl]
            show F.heap[base + h.2.1]? = some (vp_cell (dA ra) (n.toNatClampNeg, .inr (.inr (.inr (.inr (fun i => (if i < n.toNatClampNeg then some (h.2.1 + 1 + i) else none).map (base + ·)))))))
            rw [← hsz, f2, ou_eq, vp_cell_q]
            refine congrArg (fun f => some (arrV (dA ra) n.toNatClampNeg f)) (funext fun i => ?_)
            by_cases hin9 : i < n.toNatClampNeg
            · rw [if_pos hin9, if_pos hin9, hsz]
              show va_rf (some (base + h.2.1 + 1 + i)) = va_rf (some (base + (h.2.1 + 1 + i)))
              rw [show base + h.2.1 + 1 + i = base + (h.2.1 + 1 + i) by omega]
            · rw [if_neg hin9, if_neg hin9]
              rfl
          · rw [if_neg hi1]
            by_cases hi2 : h.2.1 < i ∧ i < h.2.1 + 1 + n.toNatClampNeg
            · rw [if_pos hi2, hzz, hlfE]
              show F.heap[base + i]? = some (vp_cell (dA rb) (z j.toNatClampNeg))
              have := hrow (i - (h.2.1 + 1)) (by omega)
              rw [hsz, show base + h.2.1 + 1 + (i - (h.2.1 + 1)) = base + i by omega] at this
              exact this
            · rw [if_neg hi2]
              have hi3 : i < h.2.1 := by omega
              exact (hw.2.1 i _ (wl_at hi3)).kept (hold _ (by rw [hsz]; show base + i < _; omega))
        · dsimp only at hi ⊢
          rw [if_neg (by omega), if_neg (by omega)]
          exact hw.2.2 i (by omega))
      refine ⟨t2, step t2 ?_, b1⟩
      rw [hT, hsz]
      exact a1
  have h2 := hi.2
  rw [Bool.or_eq_true, Bool.and_eq_true, Bool.and_eq_true, Bool.and_eq_true, Bool.and_eq_true] at h2
  rcases h2 with ⟨⟨h2, h3⟩, h4⟩ | ⟨⟨h2, h3⟩, h4⟩
  · have e2 : ra = 5 := nb h2
    have e3 : rb = 0 := nb h3
    subst e2
    subst e3
    exact key .int (fun n => (n, .inl (fun _ => 0))) rfl rfl (wAt_ok h4) (by decide) qArrW.1 (by decide) (by decide) (by decide) (hK.1.2 5 _ rfl).2 (hK.1.2 0 _ rfl).2 (fun _ _ => rfl) (fun _ => rfl) (fun _ => rfl)
  · have e2 : ra = 6 := nb h2
    have e3 : rb = 1 := nb h3
    subst e2
    subst e3
    exact key .long (fun n => (n, .inr (.inl (fun _ => 0)))) rfl rfl (wAt_ok h4) (by decide) qArrW.2.1 (by decide) (by decide) (by decide) (hK.1.2 6 _ rfl).2 (hK.1.2 1 _ rfl).2 (fun _ _ => rfl) (fun _ => rfl) (fun _ => rfl)
theorem take_len {st t : List Value} {n : Nat} {v : Value} (h : st.drop n = v :: t) : (st.take n).length = n ∧ st = st.take n ++ v :: t := by
  have h1 : (st.drop n).length = t.length + 1 := by rw [h]; rfl
  rw [List.length_drop] at h1
  refine ⟨by rw [List.length_take]; omega, ?_⟩
  rw [← h, List.take_append_drop]
theorem iv_eInv {M : eM} {j : Nat} {as t : List Value} {h : eH} {f : List Value → eH → eO} {z : eS ⊕ eR} (hs : eInv M j as t h f = some z) : ∃ x : eR, M j as h = some x ∧ eSum t ≤ 8 ∧ f (x.1.toList ++ t) x.2 = some z := by
  obtain ⟨h1, h2⟩ := iv_bo hs
  cases hm : M j as h with
  | none => rw [hm] at h2; cases h2
  | some x =>
    rw [hm] at h2
    exact ⟨x, rfl, Nat.le_of_ble_eq_true h1, h2⟩
theorem st_split {st t : List Value} {n : Nat} {v : Value} (h : st.drop n = v :: t) : st.map (lf b base) = (((st.take n).reverse).map (lf b base)).reverse ++ lf b base v :: t.map (lf b base) := by
  rw [List.map_reverse, List.reverse_reverse, ← List.map_cons (f := lf b base), ← List.map_append, ← (take_len h).2]
theorem sd_virt (C : eCx p s m args meth c D dA b base sc (qm k) Ts) (hM : eMOK qm l D dA b base k M) (hRf : R.frames = (qm k).2.2.2.2.2.2.2.1) (hRl : R.locals = (qm k).2.2.2.2.2.2.2.2) {pc len ra rb wi : Nat} {n9 : Nat} {ls : eL} {st : List Value} {h : eH} {q' : eS} (hd : decode (qm k).2.1 pc = .ok (.invokevirtual n9, len)) (hi : iB qm k (pc, .invokevirtual n9, len, ra, rb, wi) = true) (hs : estep sc M (pc, .invokevirtual n9, len, ra, rb, wi) ls st h = some (.inl q')) : eGo p l e R s m args below meth c D dA b base (qm k).2.2.1 pc ls st h q' := by
  obtain ⟨hx, hb, hml, hown, hts0, hT, hK, hbs, hin, hsc⟩ := C
  have hts : ∀ w ∈ gT, w.before args s = true := fun w h => hts0 w (hT w h)
  have hi : (Nat.beq len 3 && cB qm k (pc, .invokevirtual n9, len, ra, rb, wi) && !(qm ra).2.2.2.2.1 && (qm ra).1.name != "<init>" && wAt wi (.methodLink (qm k).1.cls n9 (qm ra).1)) = true := hi
  simp only [Bool.and_eq_true, Bool.not_eq_true', bne_iff_ne, ne_eq] at hi
  obtain ⟨⟨⟨⟨hi1, hcB⟩, hst⟩, hnm⟩, hlk⟩ := hi
  have hlen : len = 3 := nb hi1
  subst hlen
  have hlk := wAt_ok hlk
  obtain ⟨a, t, hdr, hs⟩ := iv_sR hs
  dsimp only at hdr
  obtain ⟨x, hMx, hsum, hs⟩ := iv_eInv hs
  dsimp only at hMx
  cases hs
  obtain ⟨c1, c2, c3, c4, c5⟩ := cB_ok hcB
  dsimp only at c1 c2 c3 c4 c5
  obtain ⟨g1, g2, g3, g4⟩ := hM ra _ h x c1 hMx
  obtain ⟨fs, hfs⟩ := g4 hst a _ rfl
  obtain ⟨qc, hqc, hqn⟩ := c2.2.2.2.2.2.2.2 hst
  refine ⟨g2, g3, rfl, fun {H locs cells slots arr Q} hl hw hS h1 h2 kk => ?_⟩
  have hlt' : a < h.2.1 := hw.lt rfl (by
    rw [hfs]
    intro z
    unfold qbad at z
    have z := Sum.inr.inj z
    have z1 : (qm ra).2.2.2.2.2.2.1 = 99 := congrArg Prod.fst z
    rw [z1] at hqc
    simp [qcls] at hqc)
  have hat := wl_at (dA := dA) (b := b) (base := base) hlt'
  rw [hfs] at hat
  have hrec := va_recv hK.1 hw.2.1 hqc hat
  rw [hqn] at hrec
  rw [st_split (b := b) (base := base) hdr]
  have hlen9 : (((st.take rb).reverse).map (lf b base)).length = rb := by rw [List.length_map, List.length_reverse]; exact (take_len hdr).1
  refine e_call (x := x) (h := h) (t := t) (a := (Value.ref (base + a) :: ((st.take rb).reverse).map (lf b base)).toArray) (va_runV (C := (qm ra).1.cls) ⟨hx, hb, hml, hown, hts0⟩ g1 ⟨callB_of (ws' := gT) rb hts0 (goodG hT c2) rfl rfl rfl (hts _ c2.2.2.2.2.2.1) (hts _ hlk) ⟨c2.2.2.2.2.2.2.1.1, c2.2.2.2.2.2.2.1.2, c5⟩ ⟨by rw [hRf]; exact c3, by rw [hRl]; exact c4⟩, hts _ (c2.2.2.2.1 hst), hts _ (c2.2.2.2.2.1 hst hnm)⟩ ⟨ePc_blind, hrec, fun U hU hW => ⟨rfl, by rw [hU]; exact hw, KK.warm hW hK⟩⟩ rfl hlen9 hl.1 rfl (lv_room (by rw [eSum_map]; exact hsum)) hd ⟨h1, h2⟩) hS (fun H' locs' hw' hS' => kk H' locs' arr hl hw' hS')
theorem sd_special (C : eCx p s m args meth c D dA b base sc (qm k) Ts) (hM : eMOK qm l D dA b base k M) (hRf : R.frames = (qm k).2.2.2.2.2.2.2.1) (hRl : R.locals = (qm k).2.2.2.2.2.2.2.2) {pc len ra rb wi : Nat} {n9 : Nat} {ls : eL} {st : List Value} {h : eH} {q' : eS} (hd : decode (qm k).2.1 pc = .ok (.invokespecial n9, len)) (hi : iB qm k (pc, .invokespecial n9, len, ra, rb, wi) = true) (hs : estep sc M (pc, .invokespecial n9, len, ra, rb, wi) ls st h = some (.inl q')) : eGo p l e R s m args below meth c D dA b base (qm k).2.2.1 pc ls st h q' := by
  obtain ⟨hx, hb, hml, hown, hts0, hT, hK, hbs, hin, hsc⟩ := C
  have hts : ∀ w ∈ gT, w.before args s = true := fun w h => hts0 w (hT w h)
  have hi : (Nat.beq len 3 && (bif Nat.beq ra 9999 then wAt wi (.methodLink (qm k).1.cls n9 objectInit) && Nat.ble 1 (qm k).2.2.2.2.2.2.2.1 && Nat.ble 20 (qm k).2.2.2.2.2.2.2.2 else
      (cB qm k (pc, .invokespecial n9, len, ra, rb, wi) && !(qm ra).2.2.2.2.1 && (qm ra).1.name == "<init>" && (qm ra).2.2.2.1 == none && (wAt wi (.methodLink (qm k).1.cls n9 (qm ra).1) || decide (((qm k).1.cls, n9, (qm ra).1) ∈ qNe))))) = true := hi
  rw [Bool.and_eq_true] at hi
  obtain ⟨hi1, hi⟩ := hi
  have hlen : len = 3 := nb hi1
  subst hlen
  have hs : (bif Nat.beq ra 9999 then sR st (fun _ t => bo (Nat.ble (eSum t) 8) (some (.inl (pc + 3, ls, t, h)))) else eVirt M (pc, .invokespecial n9, 3, ra, rb, wi) ls st h) = some (Sum.inl q' : eS ⊕ eR) := hs
  cases h99 : Nat.beq ra 9999 with
  | true =>
    rw [h99] at hi hs
    simp only [cond_true, Bool.and_eq_true] at hi hs
    obtain ⟨⟨hlk, hf⟩, hlo⟩ := hi
    obtain ⟨a, t, rfl, hs⟩ := iv_sR hs
    obtain ⟨hsum, hs⟩ := iv_bo hs
    cases hs
    have hsum : eSum t ≤ 8 := Nat.le_of_ble_eq_true hsum
    have hf := Nat.le_of_ble_eq_true hf
    have hlo := Nat.le_of_ble_eq_true hlo
    exact eGo.pure1 fun hl hw hS kk => W.objInit hx hb hown (hts _ (wAt_ok hlk)) (hts _ qObjI.1) (hts _ qObjI.2) rfl (by rw [hml]; exact hl.1) rfl hd (by rw [hRf]; exact hf) (by rw [hRl, eSum_map]; show 2 * 0 + _ + 12 ≤ _; omega) kk
  | false =>
  rw [h99] at hi hs
  simp only [cond_false, Bool.and_eq_true, Bool.not_eq_true', beq_iff_eq, Bool.or_eq_true, decide_eq_true_eq] at hi hs
  obtain ⟨⟨⟨⟨hcB, hst⟩, hnm⟩, hrt⟩, hlk⟩ := hi
  obtain ⟨a, t, hdr, hs⟩ := iv_sR hs
  dsimp only at hdr
  obtain ⟨x, hMx, hsum, hs⟩ := iv_eInv hs
  dsimp only at hMx
  cases hs
  obtain ⟨c1, c2, c3, c4, c5⟩ := cB_ok hcB
  dsimp only at c1 c2 c3 c4 c5
  obtain ⟨g1, g2, g3, g4⟩ := hM ra _ h x c1 hMx
  obtain ⟨fs, hfs⟩ := g4 hst a _ rfl
  obtain ⟨qc, hqc, hqn⟩ := c2.2.2.2.2.2.2.2 hst
  refine ⟨g2, g3, rfl, fun {H locs cells slots arr Q} hl hw hS h1 h2 kk => ?_⟩
  have hlt' : a < h.2.1 := hw.lt rfl (by
    rw [hfs]
    intro z
    unfold qbad at z
    have z := Sum.inr.inj z
    have z1 : (qm ra).2.2.2.2.2.2.1 = 99 := congrArg Prod.fst z
    rw [z1] at hqc
    simp [qcls] at hqc)
  have hat := wl_at (dA := dA) (b := b) (base := base) hlt'
  rw [hfs] at hat
  have hrec := va_recv hK.1 hw.2.1 hqc hat
  rw [hqn] at hrec
  rw [st_split (b := b) (base := base) hdr]
  have hlen9 : (((st.take rb).reverse).map (lf b base)).length = rb := by rw [List.length_map, List.length_reverse]; exact (take_len hdr).1
  refine e_call (x := x) (h := h) (t := t) (a := (Value.ref (base + a) :: ((st.take rb).reverse).map (lf b base)).toArray) (by
    have g1 := g1
    unfold eMet at g1
    rw [hrt] at g1
    have c22 := c2.2.1
    rw [hrt] at c22
    have hGd : GoodIn Ts (Cond.code (qm ra).1 (qm ra).2.1 (qm ra).2.2.1 none :: gT) := by
      have := goodG hT c2
      rw [hrt] at this
      exact this
    rcases hlk with hlk | hlk
    · have hlk := wAt_ok hlk
      exact va_runI ⟨hx, hb, hml, hown, hts0⟩ g1 ⟨callB_of (ws' := gT) rb hts0 hGd rfl rfl rfl (hts _ c2.2.2.2.2.2.1) (hts _ hlk) ⟨c2.2.2.2.2.2.2.1.1, c2.2.2.2.2.2.2.1.2, c5⟩ ⟨by rw [hRf]; exact c3, by rw [hRl]; exact c4⟩, hnm, hts _ (c2.2.2.2.1 hst)⟩ ⟨ePc_blind, fun U hU hW => ⟨rfl, by rw [hU]; exact hw, KK.warm hW hK⟩⟩ rfl hlen9 hl.1 rfl (lv_room (by rw [eSum_map]; exact hsum)) hd ⟨h1, h2⟩
    · exact va_runIN (host := "TensionNet") ⟨hx, hb, hml, hown, hts0⟩ g1 ⟨va_cnB (ws' := gT) rb hts0 hGd rfl rfl rfl (hK.2.2 _ hlk) (hts _ c2.2.2.2.2.2.1) ⟨c2.2.2.2.2.2.2.1.1, c2.2.2.2.2.2.2.1.2, c5⟩ ⟨by rw [hRf]; exact c3, by rw [hRl]; exact c4⟩, hnm, hts _ (c2.2.2.2.1 hst)⟩ ⟨ePc_blind, fun U hU hW => ⟨rfl, by rw [hU]; exact hw, KK.warm hW hK⟩⟩ rfl hlen9 hl.1 rfl (lv_room (by rw [eSum_map]; exact hsum)) hd ⟨h1, h2⟩) hS (fun H' locs' hw' hS' => kk H' locs' arr hl hw' hS')
theorem st_split0 {st : List Value} {n : Nat} : st.map (lf b base) = (((st.take n).reverse).map (lf b base)).reverse ++ (st.drop n).map (lf b base) := by
  rw [List.map_reverse, List.reverse_reverse, ← List.map_append, List.take_append_drop]
theorem clampN {z : Int32} (hz : ¬ z < 0) : z.toInt = (z.toNatClampNeg : Int) := by
  have hz0 : (0 : Int) ≤ z.toInt := by
    have := Int32.not_lt.mp hz
    simpa using Int32.le_iff_toInt_le.mp this
  show z.toInt = ((z.toInt.toNat : Nat) : Int)
  omega
theorem sd_stat (C : eCx p s m args meth c D dA b base sc (qm k) Ts) (hM : eMOK qm l D dA b base k M) (hRf : R.frames = (qm k).2.2.2.2.2.2.2.1) (hRl : R.locals = (qm k).2.2.2.2.2.2.2.2) {pc len ra rb wi : Nat} {n9 : Nat} {ls : eL} {st : List Value} {h : eH} {q' : eS} (hd : decode (qm k).2.1 pc = .ok (.invokestatic n9, len)) (hi : iB qm k (pc, .invokestatic n9, len, ra, rb, wi) = true) (hs : estep sc M (pc, .invokestatic n9, len, ra, rb, wi) ls st h = some (.inl q')) : eGo p l e R s m args below meth c D dA b base (qm k).2.2.1 pc ls st h q' := by
  obtain ⟨hx, hb, hml, hown, hts0, hT, hK, hbs, hin, hsc⟩ := C
  have hts : ∀ w ∈ gT, w.before args s = true := fun w h => hts0 w (hT w h)
  have hi : (Nat.beq len 3 && (bif Nat.beq ra 9998 then wAt wi (.methodLink (qm k).1.cls n9 arraycopyName) && Nat.ble 1 (qm k).2.2.2.2.2.2.2.1 && Nat.ble 40 (qm k).2.2.2.2.2.2.2.2 else
      (cB qm k (pc, .invokestatic n9, len, ra, rb, wi) && (qm ra).2.2.2.2.1 && wAt wi (.methodLink (qm k).1.cls n9 (qm ra).1)))) = true := hi
  rw [Bool.and_eq_true] at hi
  obtain ⟨hi1, hi⟩ := hi
  have hlen : len = 3 := nb hi1
  subst hlen
  have hs : (bif Nat.beq ra 9998 then eCpy pc ls st h else eStat M (pc, .invokestatic n9, 3, ra, rb, wi) ls st h) = some (Sum.inl q' : eS ⊕ eR) := hs
  cases h99 : Nat.beq ra 9998 with
  | true =>
    rw [h99] at hi hs
    simp only [cond_true, Bool.and_eq_true] at hi hs
    obtain ⟨⟨hlk, hf⟩, hlo⟩ := hi
    obtain ⟨a0, sp, a1, dp, n, t, rfl, hs⟩ := iv_sCpy hs
    obtain ⟨n0, f, ha0, hs⟩ := iv_hI hs
    obtain ⟨n1, g, ha1, hs⟩ := iv_hI hs
    obtain ⟨hsum, hs⟩ := iv_bo hs
    rcases bal hs with ⟨-, hs⟩ | ⟨hc, hs⟩
    · cases hs
    cases hs
    have hsum : eSum t ≤ 8 := Nat.le_of_ble_eq_true hsum
    have hf := Nat.le_of_ble_eq_true hf
    have hlo := Nat.le_of_ble_eq_true hlo
    have c1 : ¬ sp < 0 := fun q => hc (Or.inl q)
    have c2 : ¬ dp < 0 := fun q => hc (Or.inr (Or.inl q))
    have c3 : ¬ n < 0 := fun q => hc (Or.inr (Or.inr (Or.inl q)))
    have c4 : sp.toNatClampNeg + n.toNatClampNeg ≤ n0 := Nat.not_lt.mp fun q => hc (Or.inr (Or.inr (Or.inr (Or.inl q))))
    have c5 : dp.toNatClampNeg + n.toNatClampNeg ≤ n1 := Nat.not_lt.mp fun q => hc (Or.inr (Or.inr (Or.inr (Or.inr q))))
    refine eGo.put (by rw [ha1]; intro z; cases z) fun {H locs cells slots arr Q} hl hw hlt1 hS kk => ?_
    have hlt0 : a0 < h.2.1 := hw.lt ha0 (by intro z; cases z)
    have hat0 := wl_at (dA := dA) (b := b) (base := base) hlt0
    rw [ha0] at hat0
    have hat1 := wl_at (dA := dA) (b := b) (base := base) hlt1
    rw [ha1] at hat1
    intro T hT X
    have hc0 : H[base + a0]? = some (vp_cell (dA 0) (n0, .inl f)) := hw.2.1 a0 _ hat0
    have hc1 : H[base + a1]? = some (vp_cell (dA 0) (n1, .inl g)) := hw.2.1 a1 _ hat1
    obtain ⟨-, k0, hk0, cm0, hkk0⟩ := (hK.1.2 0 _ rfl).1 n0 (fun j => .int (f j))
    obtain ⟨-, k1, hk1, cm1, hkk1⟩ := (hK.1.2 0 _ rfl).1 n1 (fun j => .int (g j))
    have e7 : nativeFrameWords "java/lang/System" "arraycopy" 5 = 7 := by decide
    obtain ⟨vm', X', step⟩ := X.arraycopy hx hown (hts _ (wAt_ok hlk)) (hts _ qCpyW.1) (hts _ qCpyW.2.1) (hts _ qCpyW.2.2) (src := base + a0) (dst := base + a1) (cs := vp_cell (dA 0) (n0, .inl f)) (cd := vp_cell (dA 0) (n1, .inl g)) (srcPos := sp) (destPos := dp) (n := n) (by rw [hT]; exact hc0) (by rw [hT]; exact hc1)
      (fun _ h => by cases h) (fun _ h => by cases h) (fun h => by cases h) (fun h => by cases h) hk0 hk1 hkk0 hkk1 rfl c1 c2 c3
      (by rw [clampN c1, clampN c3]; show ¬ _ > ((arrV (dA 0) n0 (fun j => .int (f j))).slots.size : Int); rw [arrV_size]; omega)
      (by rw [clampN c2, clampN c3]; show ¬ _ > ((arrV (dA 0) n1 (fun j => .int (g j))).slots.size : Int); rw [arrV_size]; omega)
      (fun vm₁ _ i hi => by
        have e9 : (vp_cell (dA 0) (n0, .inl f)).slots.getD (sp.toNatClampNeg + i) .null = .int (f (sp.toNatClampNeg + i)) := by
          show (arrV (dA 0) n0 (fun j => .int (f j))).slots.getD _ _ = _
          rw [Array.getD_eq_getD_getElem?, arrV_read _ _ (by omega)]
          rfl
        refine ⟨?_, ?_⟩
        · rw [e9]
          rfl
        · rw [e9]
          exact trivial)
      (g := F0 m pc arr (.int n :: .int dp :: .ref (base + a1) :: .int sp :: .ref (base + a0) :: t.map (lf b base))) rfl (by rw [hml]; exact hl.1) (rest := t.map (lf b base)) rfl (by rw [hb]; exact hd) (by rw [hRf]; exact hf) (by rw [hRl, eSum_map]; show 2 * 0 + _ + _ ≤ _; rw [e7]; omega)
    have e1 : copied (vp_cell (dA 0) (n0, .inl f)) (vp_cell (dA 0) (n1, .inl g)) sp dp n = vp_cell (dA 0) (n1, .inl (va_cpy f g sp.toNatClampNeg dp.toNatClampNeg n.toNatClampNeg)) := va_copied (fun z => .int z) (dA 0) (dA 0) f g c4
    rw [e1] at X' step
    have hl9 : base + a1 < H.size := (Array.getElem?_eq_some_iff.mp hc1).1
    generalize hcell : vp_cell (dA 0) (n1, .inl (va_cpy f g sp.toNatClampNeg dp.toNatClampNeg n.toNatClampNeg)) = nc at X' step
    have hheap : ((T.setVm vm').setCell (base + a1) nc).heap = H.setIfInBounds (base + a1) nc := by rw [← hT]; rfl
    have oq : ∀ q : Nat, q ≠ base + a1 → (H.setIfInBounds (base + a1) nc)[q]? = H[q]? := fun q hq => by simp [Array.getElem?_setIfInBounds, Ne.symm hq]
    obtain ⟨t9, b1, b2⟩ := kk _ _ (hw.2.1.set wl_D hat1 (show (H.setIfInBounds (base + a1) nc)[base + a1]? = some (vp_cell (dA 0) (n1, .inl (va_cpy f g sp.toNatClampNeg dp.toNatClampNeg n.toNatClampNeg))) by rw [hcell]; simp [Array.getElem?_setIfInBounds, hl9]) oq) (by simp) ⟨by simp; exact hS.1, fun q g1 g2 => by
        rw [oq q (fun e => g2 (by rw [e]; exact Nat.le_add_right _ _))]
        exact hS.2.1 q g1 g2, fun q hq => by
        rcases List.mem_append.mp hq with h | h
        · exact hS.2.2 q h
        · obtain ⟨z, -, hz⟩ := List.mem_map.mp h
          rw [← hz]
          exact Nat.le_add_right _ _⟩ _ hheap X'
    exact ⟨t9, step t9 b1, b2⟩
  | false =>
  rw [h99] at hi hs
  simp only [cond_false, Bool.and_eq_true] at hi hs
  obtain ⟨⟨hcB, hst⟩, hlk⟩ := hi
  have hlk := wAt_ok hlk
  obtain ⟨hle, hs⟩ := iv_bo hs
  have hle : rb ≤ st.length := Nat.le_of_ble_eq_true hle
  obtain ⟨x, hMx, hsum, hs⟩ := iv_eInv hs
  dsimp only at hMx hsum
  cases hs
  obtain ⟨c1, c2, c3, c4, c5⟩ := cB_ok hcB
  dsimp only at c1 c2 c3 c4 c5
  obtain ⟨g1, g2, g3, g4⟩ := hM ra _ h x c1 hMx
  refine ⟨g2, g3, rfl, fun {H locs cells slots arr Q} hl hw hS h1 h2 kk => ?_⟩
  rw [st_split0 (b := b) (base := base) (n := rb)]
  have hlen9 : (((st.take rb).reverse).map (lf b base)).length = rb := by rw [List.length_map, List.length_reverse, List.length_take]; omega
  refine e_call (x := x) (h := h) (t := st.drop rb) (a := (((st.take rb).reverse).map (lf b base)).toArray) (va_runS ⟨hx, hb, hml, hown, hts0⟩ g1 ⟨callB_of (ws' := gT) rb hts0 (goodG hT c2) rfl rfl rfl (hts _ c2.2.2.2.2.2.1) (hts _ hlk) ⟨c2.2.2.2.2.2.2.1.1, c2.2.2.2.2.2.2.1.2, c5⟩ ⟨by rw [hRf]; exact c3, by rw [hRl]; exact c4⟩, hts _ (c2.2.2.1 hst)⟩ ⟨ePc_blind, fun U hU hW => ⟨rfl, by rw [hU]; exact hw, KK.warm hW hK⟩⟩ rfl hlen9 hl.1 rfl (lv_room (by rw [eSum_map]; exact hsum)) hd ⟨h1, h2⟩) hS (fun H' locs' hw' hS' => kk H' locs' arr hl hw' hS')
theorem estep_sound (C : eCx p s m args meth c D dA b base sc (qm k) Ts) (hM : eMOK qm l D dA b base k M) (hRf : R.frames = (qm k).2.2.2.2.2.2.2.1) (hRl : R.locals = (qm k).2.2.2.2.2.2.2.2) {r : eRow} (hr : rB qm k r = true) {ls : eL} {st : List Value} {h : eH} {q' : eS} (hs : estep sc M r ls st h = some (.inl q')) : eGo p l e R s m args below meth c D dA b base (qm k).2.2.1 r.1 ls st h q' := by
  simp only [rB, Bool.and_eq_true, decide_eq_true_eq] at hr
  obtain ⟨hd, hi⟩ := hr
  obtain ⟨pc, ins, len, ra, rb, wi⟩ := r
  dsimp only at hd ⊢
  cases ins with
  | aload_n n => exact sd_aload_n C hM hRf hRl hd hi hs
  | aload n => exact sd_aload C hM hRf hRl hd hi hs
  | iload_n n => exact sd_iload_n C hM hRf hRl hd hi hs
  | iload n => exact sd_iload C hM hRf hRl hd hi hs
  | lload_n n => exact sd_lload_n C hM hRf hRl hd hi hs
  | lload n => exact sd_lload C hM hRf hRl hd hi hs
  | istore_n n => exact sd_istore_n C hM hRf hRl hd hi hs
  | istore n => exact sd_istore C hM hRf hRl hd hi hs
  | astore_n n => exact sd_astore_n C hM hRf hRl hd hi hs
  | astore n => exact sd_astore C hM hRf hRl hd hi hs
  | lstore_n n => exact sd_lstore_n C hM hRf hRl hd hi hs
  | lstore n => exact sd_lstore C hM hRf hRl hd hi hs
  | iinc i n => exact sd_iinc C hM hRf hRl hd hi hs
  | iconst n => exact sd_iconst C hM hRf hRl hd hi hs
  | bipush n => exact sd_bipush C hM hRf hRl hd hi hs
  | sipush n => exact sd_sipush C hM hRf hRl hd hi hs
  | lconst n => exact sd_lconst C hM hRf hRl hd hi hs
  | ldc n => exact sd_ldc C hM hRf hRl hd hi hs
  | ldc2_w n => exact sd_ldc2_w C hM hRf hRl hd hi hs
  | iadd  => exact sd_iadd C hM hRf hRl hd hi hs
  | isub  => exact sd_isub C hM hRf hRl hd hi hs
  | imul  => exact sd_imul C hM hRf hRl hd hi hs
  | iand  => exact sd_iand C hM hRf hRl hd hi hs
  | ior  => exact sd_ior C hM hRf hRl hd hi hs
  | ishr  => exact sd_ishr C hM hRf hRl hd hi hs
  | iushr  => exact sd_iushr C hM hRf hRl hd hi hs
  | ladd  => exact sd_ladd C hM hRf hRl hd hi hs
  | lsub  => exact sd_lsub C hM hRf hRl hd hi hs
  | lmul  => exact sd_lmul C hM hRf hRl hd hi hs
  | land  => exact sd_land C hM hRf hRl hd hi hs
  | lor  => exact sd_lor C hM hRf hRl hd hi hs
  | lxor  => exact sd_lxor C hM hRf hRl hd hi hs
  | lcmp  => exact sd_lcmp C hM hRf hRl hd hi hs
  | idiv  => exact sd_idiv C hM hRf hRl hd hi hs
  | irem  => exact sd_irem C hM hRf hRl hd hi hs
  | ldiv  => exact sd_ldiv C hM hRf hRl hd hi hs
  | lrem  => exact sd_lrem C hM hRf hRl hd hi hs
  | ineg  => exact sd_ineg C hM hRf hRl hd hi hs
  | lneg  => exact sd_lneg C hM hRf hRl hd hi hs
  | i2l  => exact sd_i2l C hM hRf hRl hd hi hs
  | l2i  => exact sd_l2i C hM hRf hRl hd hi hs
  | i2b  => exact sd_i2b C hM hRf hRl hd hi hs
  | i2s  => exact sd_i2s C hM hRf hRl hd hi hs
  | lshl  => exact sd_lshl C hM hRf hRl hd hi hs
  | dup  => exact sd_dup C hM hRf hRl hd hi hs
  | pop  => exact sd_pop C hM hRf hRl hd hi hs
  | dup2  => exact sd_dup2 C hM hRf hRl hd hi hs
  | goto o => exact sd_goto C hM hRf hRl hd hi hs
  | ifCond cd o => exact sd_ifCond C hM hRf hRl hd hi hs
  | if_icmp cd o => exact sd_if_icmp C hM hRf hRl hd hi hs
  | tableswitch a9 b9 c9 d9 => exact sd_tableswitch C hM hRf hRl hd hi hs
  | getfield n => exact sd_getfield C hM hRf hRl hd hi hs
  | putfield n => exact sd_putfield C hM hRf hRl hd hi hs
  | baload  => exact sd_baload C hM hRf hRl hd hi hs
  | laload  => exact sd_laload C hM hRf hRl hd hi hs
  | iaload  => exact sd_iaload C hM hRf hRl hd hi hs
  | arraylength  => exact sd_arraylength C hM hRf hRl hd hi hs
  | aaload  => exact sd_aaload C hM hRf hRl hd hi hs
  | iastore  => exact sd_iastore C hM hRf hRl hd hi hs
  | lastore  => exact sd_lastore C hM hRf hRl hd hi hs
  | bastore  => exact sd_bastore C hM hRf hRl hd hi hs
  | aastore  => exact sd_aastore C hM hRf hRl hd hi hs
  | new n => exact sd_new C hM hRf hRl hd hi hs
  | newarray n => exact sd_newarray C hM hRf hRl hd hi hs
  | anewarray n => exact sd_anewarray C hM hRf hRl hd hi hs
  | multianewarray n d9 => exact sd_mul C hM hRf hRl hd hi hs
  | invokevirtual n => exact sd_virt C hM hRf hRl hd hi hs
  | invokespecial n => exact sd_special C hM hRf hRl hd hi hs
  | invokestatic n => exact sd_stat C hM hRf hRl hd hi hs
  | ireturn =>
    exfalso
    unfold estep at hs
    dsimp only at hs
    split at hs
    · obtain ⟨-, hs⟩ := iv_bo hs
      cases hs
    · cases hs
  | lreturn =>
    exfalso
    unfold estep at hs
    dsimp only at hs
    split at hs
    · cases hs
    · cases hs
  | areturn =>
    exfalso
    unfold estep at hs
    dsimp only at hs
    split at hs
    · cases hs
    · cases hs
  | return_ =>
    exfalso
    unfold estep at hs
    dsimp only at hs
    split at hs
    · cases hs
    · cases hs
  | _ => exact absurd hi (by simp [iB])
end CASES
end SND
end
section
/-! A RUN OF THE EVALUATOR IS A CONTRACT -/
theorem eFind_mem {tb : List eRow} {pc : Nat} {r : eRow} (h : eFind tb pc = some r) : r ∈ tb ∧ r.1 = pc := by
  induction tb with
  | nil => cases h
  | cons a t ih =>
    unfold eFind at h
    cases hb : Nat.beq a.1 pc with
    | true =>
      rw [hb] at h
      cases h
      exact ⟨List.mem_cons_self, nb hb⟩
    | false =>
      rw [hb] at h
      obtain ⟨h1, h2⟩ := ih h
      exact ⟨List.mem_cons_of_mem _ h1, h2⟩
theorem eret_heap {sc : eSc} {M : eM} {r : eRow} {ls : eL} {st : List Value} {h : eH} {x : eR} (hs : estep sc M r ls st h = some (.inr x)) : x.2 = h := by
  obtain ⟨pc, ins, len, ra, rb, wi⟩ := r
  cases ins with
  | ireturn =>
    unfold estep at hs
    dsimp only at hs
    split at hs
    · obtain ⟨-, hs⟩ := iv_bo hs
      cases hs
      rfl
    · cases hs
  | lreturn =>
    unfold estep at hs
    dsimp only at hs
    split at hs
    · cases hs
      rfl
    · cases hs
  | areturn =>
    unfold estep at hs
    dsimp only at hs
    split at hs
    · cases hs
      rfl
    · cases hs
  | return_ =>
    unfold estep at hs
    dsimp only at hs
    split at hs
    · cases hs
      rfl
    · cases hs
  | aload_n n =>
    exfalso
    have hs : oA (ls.getD n.val none) (fun v => some (.inl (pc + 1, ls, v :: st, h))) = some (Sum.inr x : eS ⊕ eR) := hs
    obtain ⟨v, -, -, hs⟩ := iv_oA hs
    cases hs
  | aload n =>
    exfalso
    have hs : oA (ls.getD n none) (fun v => some (.inl (pc + 2, ls, v :: st, h))) = some (Sum.inr x : eS ⊕ eR) := hs
    obtain ⟨v, -, -, hs⟩ := iv_oA hs
    cases hs
  | iload_n n =>
    exfalso
    obtain ⟨v, -, hs⟩ := iv_oI hs
    cases hs
  | iload n =>
    exfalso
    obtain ⟨v, -, hs⟩ := iv_oI hs
    cases hs
  | lload_n n =>
    exfalso
    obtain ⟨v, -, hs⟩ := iv_oL hs
    cases hs
  | lload n =>
    exfalso
    obtain ⟨v, -, hs⟩ := iv_oL hs
    cases hs
  | istore_n n =>
    exfalso
    obtain ⟨v, t, -, hs⟩ := iv_sI hs
    cases hs
  | istore n =>
    exfalso
    obtain ⟨v, t, -, hs⟩ := iv_sI hs
    cases hs
  | astore_n n =>
    exfalso
    obtain ⟨v, t, -, hs⟩ := iv_sR hs
    cases hs
  | astore n =>
    exfalso
    obtain ⟨v, t, -, hs⟩ := iv_sR hs
    cases hs
  | lstore_n n =>
    exfalso
    obtain ⟨v, t, -, hs⟩ := iv_sL hs
    cases hs
  | lstore n =>
    exfalso
    obtain ⟨v, t, -, hs⟩ := iv_sL hs
    cases hs
  | iinc i n =>
    exfalso
    obtain ⟨v, -, hs⟩ := iv_oI hs
    cases hs
  | iconst n =>
    exfalso
    cases hs
  | bipush n =>
    exfalso
    cases hs
  | sipush n =>
    exfalso
    cases hs
  | lconst n =>
    exfalso
    cases hs
  | ldc n =>
    exfalso
    cases hs
  | ldc2_w n =>
    exfalso
    cases hs
  | goto n =>
    exfalso
    cases hs
  | iadd  =>
    exfalso
    obtain ⟨a, b9, t, -, hs⟩ := iv_sII hs
    cases hs
  | isub  =>
    exfalso
    obtain ⟨a, b9, t, -, hs⟩ := iv_sII hs
    cases hs
  | imul  =>
    exfalso
    obtain ⟨a, b9, t, -, hs⟩ := iv_sII hs
    cases hs
  | iand  =>
    exfalso
    obtain ⟨a, b9, t, -, hs⟩ := iv_sII hs
    cases hs
  | ior  =>
    exfalso
    obtain ⟨a, b9, t, -, hs⟩ := iv_sII hs
    cases hs
  | ishr  =>
    exfalso
    obtain ⟨a, b9, t, -, hs⟩ := iv_sII hs
    cases hs
  | iushr  =>
    exfalso
    obtain ⟨a, b9, t, -, hs⟩ := iv_sII hs
    cases hs
  | ladd  =>
    exfalso
    obtain ⟨a, b9, t, -, hs⟩ := iv_sLL hs
    cases hs
  | lsub  =>
    exfalso
    obtain ⟨a, b9, t, -, hs⟩ := iv_sLL hs
    cases hs
  | lmul  =>
    exfalso
    obtain ⟨a, b9, t, -, hs⟩ := iv_sLL hs
    cases hs
  | land  =>
    exfalso
    obtain ⟨a, b9, t, -, hs⟩ := iv_sLL hs
    cases hs
  | lor  =>
    exfalso
    obtain ⟨a, b9, t, -, hs⟩ := iv_sLL hs
    cases hs
  | lxor  =>
    exfalso
    obtain ⟨a, b9, t, -, hs⟩ := iv_sLL hs
    cases hs
  | lcmp  =>
    exfalso
    obtain ⟨a, b9, t, -, hs⟩ := iv_sLL hs
    cases hs
  | idiv  =>
    exfalso
    obtain ⟨a, b9, t, -, hs⟩ := iv_sII hs
    rcases bal hs with ⟨-, hs⟩ | ⟨-, hs⟩ <;> cases hs
  | irem  =>
    exfalso
    obtain ⟨a, b9, t, -, hs⟩ := iv_sII hs
    rcases bal hs with ⟨-, hs⟩ | ⟨-, hs⟩ <;> cases hs
  | ldiv  =>
    exfalso
    obtain ⟨a, b9, t, -, hs⟩ := iv_sLL hs
    rcases bal hs with ⟨-, hs⟩ | ⟨-, hs⟩ <;> cases hs
  | lrem  =>
    exfalso
    obtain ⟨a, b9, t, -, hs⟩ := iv_sLL hs
    rcases bal hs with ⟨-, hs⟩ | ⟨-, hs⟩ <;> cases hs
  | ineg  =>
    exfalso
    obtain ⟨a, t, -, hs⟩ := iv_sI hs
    cases hs
  | lneg  =>
    exfalso
    obtain ⟨a, t, -, hs⟩ := iv_sL hs
    cases hs
  | i2l  =>
    exfalso
    obtain ⟨a, t, -, hs⟩ := iv_sI hs
    cases hs
  | l2i  =>
    exfalso
    obtain ⟨a, t, -, hs⟩ := iv_sL hs
    cases hs
  | i2b  =>
    exfalso
    obtain ⟨a, t, -, hs⟩ := iv_sI hs
    cases hs
  | i2s  =>
    exfalso
    obtain ⟨a, t, -, hs⟩ := iv_sI hs
    cases hs
  | lshl  =>
    exfalso
    obtain ⟨a, b9, t, -, hs⟩ := iv_sLI hs
    cases hs
  | dup  =>
    exfalso
    obtain ⟨v, t, -, hs⟩ := iv_sV hs
    obtain ⟨-, hs⟩ := iv_bo hs
    cases hs
  | pop  =>
    exfalso
    obtain ⟨v, t, -, hs⟩ := iv_sV hs
    obtain ⟨-, hs⟩ := iv_bo hs
    cases hs
  | dup2  =>
    exfalso
    obtain ⟨v, t, -, hs⟩ := iv_sV hs
    obtain ⟨v, t, -, hs⟩ := iv_sV hs
    obtain ⟨-, hs⟩ := iv_bo hs
    cases hs
  | ifCond cd off =>
    exfalso
    obtain ⟨a, t, -, hs⟩ := iv_sI hs
    cases cd <;> (rcases bal hs with ⟨-, hs⟩ | ⟨-, hs⟩ <;> cases hs)
  | if_icmp cd off =>
    exfalso
    obtain ⟨a, b9, t, -, hs⟩ := iv_sII hs
    cases cd <;> (rcases bal hs with ⟨-, hs⟩ | ⟨-, hs⟩ <;> cases hs)
  | tableswitch a9 b9 c9 d9 =>
    exfalso
    obtain ⟨v, t, -, hs⟩ := iv_sI hs
    dsimp only at hs
    split at hs
    · rcases bal hs with ⟨-, hs⟩ | ⟨-, hs⟩ <;> cases hs
    · cases hs
  | getfield n =>
    exfalso
    obtain ⟨a, t, -, hs⟩ := iv_sR hs
    obtain ⟨ci, fs, -, hs⟩ := iv_hO hs
    obtain ⟨-, hs⟩ := iv_bo hs
    dsimp only at hs
    split at hs <;> cases hs
  | putfield n =>
    exfalso
    obtain ⟨v, a, t, -, hs⟩ := iv_sVR hs
    obtain ⟨ci, fs, -, hs⟩ := iv_hO hs
    obtain ⟨-, hs⟩ := iv_bo hs
    cases hs
  | baload  =>
    exfalso
    obtain ⟨i, a, t, -, hs⟩ := iv_sIR hs
    obtain ⟨n, f, -, hs⟩ := iv_hI hs
    obtain ⟨-, hs⟩ := iv_in hs
    cases hs
  | laload  =>
    exfalso
    obtain ⟨i, a, t, -, hs⟩ := iv_sIR hs
    obtain ⟨n, f, -, hs⟩ := iv_hL hs
    obtain ⟨-, hs⟩ := iv_in hs
    cases hs
  | iaload  =>
    exfalso
    rcases iv_sIF hs with ⟨i, a, t, -, hs⟩ | ⟨i, y, t, -, hs⟩
    · obtain ⟨n, f, -, hs⟩ := iv_hI hs
      obtain ⟨-, hs⟩ := iv_in hs
      cases hs
    · obtain ⟨L, xs, -, hs⟩ := iv_oSc hs
      obtain ⟨-, hs⟩ := iv_in hs
      cases hs
  | arraylength  =>
    exfalso
    rcases iv_sRF hs with ⟨a, t, -, hs⟩ | ⟨y, t, -, hs⟩
    · obtain ⟨n, f, -, -, hs⟩ := iv_hN hs
      cases hs
    · obtain ⟨L, xs, -, hs⟩ := iv_oSc hs
      cases hs
  | aaload  =>
    exfalso
    obtain ⟨i, a, t, -, hs⟩ := iv_sIR hs
    obtain ⟨tg, n, f, -, -, -, hs⟩ := iv_hQ hs
    obtain ⟨-, hs⟩ := iv_in hs
    split at hs <;> cases hs
  | iastore  =>
    exfalso
    obtain ⟨y, i, a, t, -, hs⟩ := iv_sIIR hs
    obtain ⟨n, f, -, hs⟩ := iv_hI hs
    obtain ⟨-, hs⟩ := iv_in hs
    cases hs
  | bastore  =>
    exfalso
    obtain ⟨y, i, a, t, -, hs⟩ := iv_sIIR hs
    obtain ⟨n, f, -, hs⟩ := iv_hI hs
    obtain ⟨-, hs⟩ := iv_in hs
    obtain ⟨-, hs⟩ := iv_bo hs
    cases hs
  | lastore  =>
    exfalso
    obtain ⟨y, i, a, t, -, hs⟩ := iv_sLIR hs
    obtain ⟨n, f, -, hs⟩ := iv_hL hs
    obtain ⟨-, hs⟩ := iv_in hs
    cases hs
  | aastore  =>
    exfalso
    obtain ⟨v, i, a, t, -, hs⟩ := iv_sRIR hs
    obtain ⟨tg, n, f, -, -, -, hs⟩ := iv_hQ hs
    obtain ⟨cv, vs, -, hs⟩ := iv_hO hs
    obtain ⟨-, hs⟩ := iv_bo hs
    obtain ⟨-, hs⟩ := iv_in hs
    cases hs
  | new n =>
    exfalso
    obtain ⟨-, hs⟩ := iv_bo hs
    cases hs
  | newarray n =>
    exfalso
    cases n <;> first | (cases hs; done) | (obtain ⟨v, t, -, hs⟩ := iv_sI hs; rcases bal hs with ⟨-, hs⟩ | ⟨-, hs⟩ <;> cases hs)
  | anewarray n =>
    exfalso
    obtain ⟨v, t, -, hs⟩ := iv_sI hs
    rcases bal hs with ⟨-, hs⟩ | ⟨-, hs⟩ <;> cases hs
  | multianewarray n d9 =>
    exfalso
    obtain ⟨v, u, t, -, hs⟩ := iv_sII hs
    rcases bal hs with ⟨-, hs⟩ | ⟨-, hs⟩ <;> cases hs
  | invokevirtual n =>
    exfalso
    obtain ⟨a, t, -, hs⟩ := iv_sR hs
    obtain ⟨y, -, -, hs⟩ := iv_eInv hs
    cases hs
  | invokespecial n =>
    exfalso
    have hs : (bif Nat.beq ra 9999 then sR st (fun _ t => bo (Nat.ble (eSum t) 8) (some (.inl (pc + 3, ls, t, h)))) else eVirt M (pc, .invokespecial n, len, ra, rb, wi) ls st h) = some (Sum.inr x : eS ⊕ eR) := hs
    cases h99 : Nat.beq ra 9999 with
    | true =>
      rw [h99] at hs
      obtain ⟨a, t, -, hs⟩ := iv_sR hs
      obtain ⟨-, hs⟩ := iv_bo hs
      cases hs
    | false =>
      rw [h99] at hs
      obtain ⟨a, t, -, hs⟩ := iv_sR hs
      obtain ⟨y, -, -, hs⟩ := iv_eInv hs
      cases hs
  | invokestatic n =>
    exfalso
    have hs : (bif Nat.beq ra 9998 then eCpy pc ls st h else eStat M (pc, .invokestatic n, len, ra, rb, wi) ls st h) = some (Sum.inr x : eS ⊕ eR) := hs
    cases h99 : Nat.beq ra 9998 with
    | true =>
      rw [h99] at hs
      obtain ⟨a0, sp, a1, dp, n, t, -, hs⟩ := iv_sCpy hs
      obtain ⟨n0, f, -, hs⟩ := iv_hI hs
      obtain ⟨n1, g, -, hs⟩ := iv_hI hs
      obtain ⟨-, hs⟩ := iv_bo hs
      rcases bal hs with ⟨-, hs⟩ | ⟨-, hs⟩ <;> cases hs
    | false =>
      rw [h99] at hs
      obtain ⟨-, hs⟩ := iv_bo hs
      obtain ⟨y, -, -, hs⟩ := iv_eInv hs
      cases hs
  | _ => cases hs
theorem estep_le {sc : eSc} {M : eM} (hM : ∀ (j : Nat) (as : List Value) (h : eH) (x : eR), M j as h = some x → h.2.1 ≤ x.2.2.1 ∧ h.2.2 ≤ x.2.2.2) {r : eRow} {ls : eL} {st : List Value} {h : eH} {q' : eS} (hs : estep sc M r ls st h = some (.inl q')) : h.2.1 ≤ q'.2.2.2.2.1 ∧ h.2.2 ≤ q'.2.2.2.2.2 := by
  obtain ⟨pc, ins, len, ra, rb, wi⟩ := r
  have z : h.2.1 ≤ h.2.1 ∧ h.2.2 ≤ h.2.2 := ⟨Nat.le_refl _, Nat.le_refl _⟩
  cases ins with
  | aload_n n =>
    have hs : oA (ls.getD n.val none) (fun v => some (.inl (pc + 1, ls, v :: st, h))) = some (Sum.inl q' : eS ⊕ eR) := hs
    obtain ⟨v, -, -, hs⟩ := iv_oA hs
    cases hs
    exact z
  | aload n =>
    have hs : oA (ls.getD n none) (fun v => some (.inl (pc + 2, ls, v :: st, h))) = some (Sum.inl q' : eS ⊕ eR) := hs
    obtain ⟨v, -, -, hs⟩ := iv_oA hs
    cases hs
    exact z
  | iload_n n =>
    obtain ⟨v, -, hs⟩ := iv_oI hs
    cases hs
    exact z
  | iload n =>
    obtain ⟨v, -, hs⟩ := iv_oI hs
    cases hs
    exact z
  | lload_n n =>
    obtain ⟨v, -, hs⟩ := iv_oL hs
    cases hs
    exact z
  | lload n =>
    obtain ⟨v, -, hs⟩ := iv_oL hs
    cases hs
    exact z
  | istore_n n =>
    obtain ⟨v, t, -, hs⟩ := iv_sI hs
    cases hs
    exact z
  | istore n =>
    obtain ⟨v, t, -, hs⟩ := iv_sI hs
    cases hs
    exact z
  | astore_n n =>
    obtain ⟨v, t, -, hs⟩ := iv_sR hs
    cases hs
    exact z
  | astore n =>
    obtain ⟨v, t, -, hs⟩ := iv_sR hs
    cases hs
    exact z
  | lstore_n n =>
    obtain ⟨v, t, -, hs⟩ := iv_sL hs
    cases hs
    exact z
  | lstore n =>
    obtain ⟨v, t, -, hs⟩ := iv_sL hs
    cases hs
    exact z
  | iinc i n =>
    obtain ⟨v, -, hs⟩ := iv_oI hs
    cases hs
    exact z
  | iconst n =>
    cases hs
    exact z
  | bipush n =>
    cases hs
    exact z
  | sipush n =>
    cases hs
    exact z
  | lconst n =>
    cases hs
    exact z
  | ldc n =>
    cases hs
    exact z
  | ldc2_w n =>
    cases hs
    exact z
  | goto n =>
    cases hs
    exact z
  | iadd  =>
    obtain ⟨a, b9, t, -, hs⟩ := iv_sII hs
    cases hs
    exact z
  | isub  =>
    obtain ⟨a, b9, t, -, hs⟩ := iv_sII hs
    cases hs
    exact z
  | imul  =>
    obtain ⟨a, b9, t, -, hs⟩ := iv_sII hs
    cases hs
    exact z
  | iand  =>
    obtain ⟨a, b9, t, -, hs⟩ := iv_sII hs
    cases hs
    exact z
  | ior  =>
    obtain ⟨a, b9, t, -, hs⟩ := iv_sII hs
    cases hs
    exact z
  | ishr  =>
    obtain ⟨a, b9, t, -, hs⟩ := iv_sII hs
    cases hs
    exact z
  | iushr  =>
    obtain ⟨a, b9, t, -, hs⟩ := iv_sII hs
    cases hs
    exact z
  | ladd  =>
    obtain ⟨a, b9, t, -, hs⟩ := iv_sLL hs
    cases hs
    exact z
  | lsub  =>
    obtain ⟨a, b9, t, -, hs⟩ := iv_sLL hs
    cases hs
    exact z
  | lmul  =>
    obtain ⟨a, b9, t, -, hs⟩ := iv_sLL hs
    cases hs
    exact z
  | land  =>
    obtain ⟨a, b9, t, -, hs⟩ := iv_sLL hs
    cases hs
    exact z
  | lor  =>
    obtain ⟨a, b9, t, -, hs⟩ := iv_sLL hs
    cases hs
    exact z
  | lxor  =>
    obtain ⟨a, b9, t, -, hs⟩ := iv_sLL hs
    cases hs
    exact z
  | lcmp  =>
    obtain ⟨a, b9, t, -, hs⟩ := iv_sLL hs
    cases hs
    exact z
  | idiv  =>
    obtain ⟨a, b9, t, -, hs⟩ := iv_sII hs
    rcases bal hs with ⟨-, hs⟩ | ⟨-, hs⟩ <;> first | (cases hs; done) | (cases hs; exact z)
  | irem  =>
    obtain ⟨a, b9, t, -, hs⟩ := iv_sII hs
    rcases bal hs with ⟨-, hs⟩ | ⟨-, hs⟩ <;> first | (cases hs; done) | (cases hs; exact z)
  | ldiv  =>
    obtain ⟨a, b9, t, -, hs⟩ := iv_sLL hs
    rcases bal hs with ⟨-, hs⟩ | ⟨-, hs⟩ <;> first | (cases hs; done) | (cases hs; exact z)
  | lrem  =>
    obtain ⟨a, b9, t, -, hs⟩ := iv_sLL hs
    rcases bal hs with ⟨-, hs⟩ | ⟨-, hs⟩ <;> first | (cases hs; done) | (cases hs; exact z)
  | ineg  =>
    obtain ⟨a, t, -, hs⟩ := iv_sI hs
    cases hs
    exact z
  | lneg  =>
    obtain ⟨a, t, -, hs⟩ := iv_sL hs
    cases hs
    exact z
  | i2l  =>
    obtain ⟨a, t, -, hs⟩ := iv_sI hs
    cases hs
    exact z
  | l2i  =>
    obtain ⟨a, t, -, hs⟩ := iv_sL hs
    cases hs
    exact z
  | i2b  =>
    obtain ⟨a, t, -, hs⟩ := iv_sI hs
    cases hs
    exact z
  | i2s  =>
    obtain ⟨a, t, -, hs⟩ := iv_sI hs
    cases hs
    exact z
  | lshl  =>
    obtain ⟨a, b9, t, -, hs⟩ := iv_sLI hs
    cases hs
    exact z
  | dup  =>
    obtain ⟨v, t, -, hs⟩ := iv_sV hs
    obtain ⟨-, hs⟩ := iv_bo hs
    cases hs
    exact z
  | pop  =>
    obtain ⟨v, t, -, hs⟩ := iv_sV hs
    obtain ⟨-, hs⟩ := iv_bo hs
    cases hs
    exact z
  | dup2  =>
    obtain ⟨v, t, -, hs⟩ := iv_sV hs
    obtain ⟨v, t, -, hs⟩ := iv_sV hs
    obtain ⟨-, hs⟩ := iv_bo hs
    cases hs
    exact z
  | ifCond cd off =>
    obtain ⟨a, t, -, hs⟩ := iv_sI hs
    cases cd <;> (rcases bal hs with ⟨-, hs⟩ | ⟨-, hs⟩ <;> (cases hs; exact z))
  | if_icmp cd off =>
    obtain ⟨a, b9, t, -, hs⟩ := iv_sII hs
    cases cd <;> (rcases bal hs with ⟨-, hs⟩ | ⟨-, hs⟩ <;> (cases hs; exact z))
  | tableswitch a9 b9 c9 d9 =>
    obtain ⟨v, t, -, hs⟩ := iv_sI hs
    dsimp only at hs
    split at hs
    · rcases bal hs with ⟨-, hs⟩ | ⟨-, hs⟩ <;> first | (cases hs; done) | (cases hs; exact z)
    · cases hs
  | getfield n =>
    obtain ⟨a, t, -, hs⟩ := iv_sR hs
    obtain ⟨ci, fs, -, hs⟩ := iv_hO hs
    obtain ⟨-, hs⟩ := iv_bo hs
    dsimp only at hs
    split at hs <;> first | (cases hs; done) | (cases hs; exact z)
  | putfield n =>
    obtain ⟨v, a, t, -, hs⟩ := iv_sVR hs
    obtain ⟨ci, fs, -, hs⟩ := iv_hO hs
    obtain ⟨-, hs⟩ := iv_bo hs
    cases hs
    exact z
  | baload  =>
    obtain ⟨i, a, t, -, hs⟩ := iv_sIR hs
    obtain ⟨n, f, -, hs⟩ := iv_hI hs
    obtain ⟨-, hs⟩ := iv_in hs
    cases hs
    exact z
  | laload  =>
    obtain ⟨i, a, t, -, hs⟩ := iv_sIR hs
    obtain ⟨n, f, -, hs⟩ := iv_hL hs
    obtain ⟨-, hs⟩ := iv_in hs
    cases hs
    exact z
  | iaload  =>
    rcases iv_sIF hs with ⟨i, a, t, -, hs⟩ | ⟨i, y, t, -, hs⟩
    · obtain ⟨n, f, -, hs⟩ := iv_hI hs
      obtain ⟨-, hs⟩ := iv_in hs
      cases hs
      exact z
    · obtain ⟨L, xs, -, hs⟩ := iv_oSc hs
      obtain ⟨-, hs⟩ := iv_in hs
      cases hs
      exact z
  | arraylength  =>
    rcases iv_sRF hs with ⟨a, t, -, hs⟩ | ⟨y, t, -, hs⟩
    · obtain ⟨n, f, -, -, hs⟩ := iv_hN hs
      cases hs
      exact z
    · obtain ⟨L, xs, -, hs⟩ := iv_oSc hs
      cases hs
      exact z
  | aaload  =>
    obtain ⟨i, a, t, -, hs⟩ := iv_sIR hs
    obtain ⟨tg, n, f, -, -, -, hs⟩ := iv_hQ hs
    obtain ⟨-, hs⟩ := iv_in hs
    split at hs <;> first | (cases hs; done) | (cases hs; exact z)
  | iastore  =>
    obtain ⟨y, i, a, t, -, hs⟩ := iv_sIIR hs
    obtain ⟨n, f, -, hs⟩ := iv_hI hs
    obtain ⟨-, hs⟩ := iv_in hs
    cases hs
    exact z
  | bastore  =>
    obtain ⟨y, i, a, t, -, hs⟩ := iv_sIIR hs
    obtain ⟨n, f, -, hs⟩ := iv_hI hs
    obtain ⟨-, hs⟩ := iv_in hs
    obtain ⟨-, hs⟩ := iv_bo hs
    cases hs
    exact z
  | lastore  =>
    obtain ⟨y, i, a, t, -, hs⟩ := iv_sLIR hs
    obtain ⟨n, f, -, hs⟩ := iv_hL hs
    obtain ⟨-, hs⟩ := iv_in hs
    cases hs
    exact z
  | aastore  =>
    obtain ⟨v, i, a, t, -, hs⟩ := iv_sRIR hs
    obtain ⟨tg, n, f, -, -, -, hs⟩ := iv_hQ hs
    obtain ⟨cv, vs, -, hs⟩ := iv_hO hs
    obtain ⟨-, hs⟩ := iv_bo hs
    obtain ⟨-, hs⟩ := iv_in hs
    cases hs
    exact z
  | new n =>
    obtain ⟨-, hs⟩ := iv_bo hs
    cases hs
    exact ⟨Nat.le_succ _, Nat.le_add_right _ _⟩
  | newarray n =>
    cases n <;> first | (cases hs; done) | (obtain ⟨v, t, -, hs⟩ := iv_sI hs; rcases bal hs with ⟨-, hs⟩ | ⟨-, hs⟩ <;> first | (cases hs; done) | (cases hs; exact ⟨Nat.le_succ _, Nat.le_add_right _ _⟩))
  | anewarray n =>
    obtain ⟨v, t, -, hs⟩ := iv_sI hs
    rcases bal hs with ⟨-, hs⟩ | ⟨-, hs⟩ <;> first | (cases hs; done) | (cases hs; exact ⟨Nat.le_succ _, Nat.le_add_right _ _⟩)
  | multianewarray n d9 =>
    obtain ⟨v, u, t, -, hs⟩ := iv_sII hs
    rcases bal hs with ⟨-, hs⟩ | ⟨-, hs⟩ <;> first | (cases hs; done) | (cases hs; exact ⟨by dsimp only; omega, by dsimp only; omega⟩)
  | invokevirtual n =>
    obtain ⟨a, t, -, hs⟩ := iv_sR hs
    obtain ⟨y, hy, -, hs⟩ := iv_eInv hs
    cases hs
    exact hM _ _ _ _ hy
  | invokespecial n =>
    have hs : (bif Nat.beq ra 9999 then sR st (fun _ t => bo (Nat.ble (eSum t) 8) (some (.inl (pc + 3, ls, t, h)))) else eVirt M (pc, .invokespecial n, len, ra, rb, wi) ls st h) = some (Sum.inl q' : eS ⊕ eR) := hs
    cases h99 : Nat.beq ra 9999 with
    | true =>
      rw [h99] at hs
      obtain ⟨a, t, -, hs⟩ := iv_sR hs
      obtain ⟨-, hs⟩ := iv_bo hs
      cases hs
      exact z
    | false =>
      rw [h99] at hs
      obtain ⟨a, t, -, hs⟩ := iv_sR hs
      obtain ⟨y, hy, -, hs⟩ := iv_eInv hs
      cases hs
      exact hM _ _ _ _ hy
  | invokestatic n =>
    have hs : (bif Nat.beq ra 9998 then eCpy pc ls st h else eStat M (pc, .invokestatic n, len, ra, rb, wi) ls st h) = some (Sum.inl q' : eS ⊕ eR) := hs
    cases h99 : Nat.beq ra 9998 with
    | true =>
      rw [h99] at hs
      obtain ⟨a0, sp, a1, dp, n, t, -, hs⟩ := iv_sCpy hs
      obtain ⟨n0, f, -, hs⟩ := iv_hI hs
      obtain ⟨n1, g, -, hs⟩ := iv_hI hs
      obtain ⟨-, hs⟩ := iv_bo hs
      rcases bal hs with ⟨-, hs⟩ | ⟨-, hs⟩ <;> first | (cases hs; done) | (cases hs; exact z)
    | false =>
      rw [h99] at hs
      obtain ⟨-, hs⟩ := iv_bo hs
      obtain ⟨y, hy, -, hs⟩ := iv_eInv hs
      cases hs
      exact hM _ _ _ _ hy
  | ireturn =>
    exfalso
    unfold estep at hs
    dsimp only at hs
    split at hs
    · obtain ⟨-, hs⟩ := iv_bo hs
      cases hs
    · cases hs
  | lreturn =>
    exfalso
    unfold estep at hs
    dsimp only at hs
    split at hs
    · cases hs
    · cases hs
  | areturn =>
    exfalso
    unfold estep at hs
    dsimp only at hs
    split at hs
    · cases hs
    · cases hs
  | return_ =>
    exfalso
    unfold estep at hs
    dsimp only at hs
    split at hs
    · cases hs
    · cases hs
  | _ => cases hs
theorem eExec_le {sc : eSc} {M : eM} (hM : ∀ (j : Nat) (as : List Value) (h : eH) (x : eR), M j as h = some x → h.2.1 ≤ x.2.2.1 ∧ h.2.2 ≤ x.2.2.2) {tb : List eRow} : ∀ (f : Nat) {q : eS} {x : eR}, eExec f sc M tb q = some x → q.2.2.2.2.1 ≤ x.2.2.1 ∧ q.2.2.2.2.2 ≤ x.2.2.2 := by
  intro f
  induction f with
  | zero => intro q x hs; cases hs
  | succ f ih =>
    intro q x hs
    unfold eExec at hs
    cases hf : eFind tb q.1 with
    | none => rw [hf] at hs; cases hs
    | some r =>
      rw [hf] at hs
      dsimp only at hs
      cases hst : estep sc M r q.2.1 q.2.2.1 q.2.2.2 with
      | none => rw [hst] at hs; cases hs
      | some y =>
        rw [hst] at hs
        cases y with
        | inl q' =>
          obtain ⟨g1, g2⟩ := estep_le hM hst
          obtain ⟨i1, i2⟩ := ih hs
          exact ⟨Nat.le_trans g1 i1, Nat.le_trans g2 i2⟩
        | inr z =>
          cases hs
          rw [eret_heap hst]
          exact ⟨Nat.le_refl _, Nat.le_refl _⟩
section MET
variable {p : Program} {l : Launch} {e : Env} {R : Room} {s : State} {m : MethodId} {args : Array Value} {below : List Frame} {meth : Method} {c : Code} {D : va_G} {dA : Nat → ClassId} {b base : Nat} {qm : Nat → eMI} {k : Nat} {sc : eSc} {M : eM} {Ts : List Cond}
theorem eret_sound (C : eCx p s m args meth c D dA b base sc (qm k) Ts) (hrt : meth.sig.returnType = (qm k).2.2.2.1) (hlocks : meth.locks = false) {r : eRow} (hr : rB qm k r = true) {ls : eL} {st : List Value} {h : eH} {x : eR} (hs : estep sc M r ls st h = some (.inr x)) : x.2 = h ∧ ∀ {H : Heap} {locs : List Loc} {cells slots : Nat} {arr : Array Slot}, WH D dA b base h H → va_S (fun q => base ≤ q) s.heap H locs → W p l e R s m args below meth c H locs cells slots (MQ below (eQ D dA b base x) args s cells slots (fun q => base ≤ q)) (F0 m r.1 arr (st.map (lf b base))) := by
  obtain ⟨hx, hb, hml, hown, hts0, hT, hK, hbs, hin, hsc⟩ := C
  simp only [rB, Bool.and_eq_true, decide_eq_true_eq] at hr
  obtain ⟨hd, hi⟩ := hr
  obtain ⟨pc, ins, len, ra, rb, wi⟩ := r
  dsimp only at hd ⊢
  have fin : ∀ {H : Heap} {locs : List Loc} {v : Option Value}, WH D dA b base h H → va_S (fun q => base ≤ q) s.heap H locs → ∀ t : State, t.heap = H → s.WarmedH t.vm → eQ D dA b base (v, h) args s (.returned (v.map (lf b base))) t := fun hw hS t ht hW => ⟨rfl, by rw [ht]; exact hw, KK.warm hW hK, hS.F ht⟩
  cases ins with
  | ireturn =>
    have hi : (Nat.beq len 1 && ((Nat.beq ra 0 && (qm k).2.2.2.1 == some .int) || (Nat.beq ra 1 && (qm k).2.2.2.1 == some .boolean))) = true := hi
    simp only [Bool.and_eq_true, Bool.or_eq_true, beq_iff_eq] at hi
    obtain ⟨hi1, hj⟩ := hi
    have hlen : len = 1 := nb hi1
    subst hlen
    unfold estep at hs
    dsimp only at hs
    split at hs
    · next v =>
      obtain ⟨hc, hs⟩ := iv_bo hs
      cases hs
      refine ⟨rfl, fun {H locs cells slots arr} hw hS => ?_⟩
      rcases hj with ⟨h0, hty⟩ | ⟨h1, hty⟩
      · exact W.iret hx hb (by rw [hrt]; exact hty) (fin (v := some (.int v)) hw hS) hS.2.2 hd hlocks
      · have h1 := nb h1
        have hn : narrow .boolean (.int v) = .int v := by
          subst h1
          simp only [Bool.or_eq_true, beq_iff_eq] at hc
          rcases hc with hc | hc | hc
          · cases hc
          · subst hc; decide
          · subst hc; decide
        exact W.zret hx hb (by rw [hrt]; exact hty) hn (fin (v := some (.int v)) hw hS) hS.2.2 hd hlocks
    · cases hs
  | lreturn =>
    have hi : (Nat.beq len 1 && (qm k).2.2.2.1 == some .long) = true := hi
    simp only [Bool.and_eq_true, beq_iff_eq] at hi
    have hlen : len = 1 := nb hi.1
    subst hlen
    unfold estep at hs
    dsimp only at hs
    split at hs
    · next v =>
      cases hs
      exact ⟨rfl, fun {H locs cells slots arr} hw hS => W.lret hx hb (by rw [hrt]; exact hi.2) (fin (v := some (.long v)) hw hS) hS.2.2 hd hlocks⟩
    · cases hs
  | areturn =>
    have hi : (Nat.beq len 1 && (qm k).2.2.2.1 == some (.object "TensionNet$Whole")) = true := hi
    simp only [Bool.and_eq_true, beq_iff_eq] at hi
    have hlen : len = 1 := nb hi.1
    subst hlen
    unfold estep at hs
    dsimp only at hs
    split at hs
    · next v =>
      cases hs
      exact ⟨rfl, fun {H locs cells slots arr} hw hS => W.aret hx hb (by rw [hrt]; exact hi.2) (Or.inl ⟨_, rfl⟩) (Or.inr ⟨_, rfl⟩) (fin (v := some (.ref v)) hw hS) hS.2.2 hd hlocks⟩
    · cases hs
  | return_ =>
    have hi : (Nat.beq len 1 && (qm k).2.2.2.1 == none) = true := hi
    simp only [Bool.and_eq_true, beq_iff_eq] at hi
    have hlen : len = 1 := nb hi.1
    subst hlen
    unfold estep at hs
    dsimp only at hs
    split at hs
    · cases hs
      exact ⟨rfl, fun {H locs cells slots arr} hw hS => W.vret hx hb (by rw [hrt]; exact hi.2) (fin (v := none) hw hS) hS.2.2 hd hlocks⟩
    · cases hs
  | aload_n n =>
    exfalso
    have hs : oA (ls.getD n.val none) (fun v => some (.inl (pc + 1, ls, v :: st, h))) = some (Sum.inr x : eS ⊕ eR) := hs
    obtain ⟨v, -, -, hs⟩ := iv_oA hs
    cases hs
  | aload n =>
    exfalso
    have hs : oA (ls.getD n none) (fun v => some (.inl (pc + 2, ls, v :: st, h))) = some (Sum.inr x : eS ⊕ eR) := hs
    obtain ⟨v, -, -, hs⟩ := iv_oA hs
    cases hs
  | iload_n n =>
    exfalso
    obtain ⟨v, -, hs⟩ := iv_oI hs
    cases hs
  | iload n =>
    exfalso
    obtain ⟨v, -, hs⟩ := iv_oI hs
    cases hs
  | lload_n n =>
    exfalso
    obtain ⟨v, -, hs⟩ := iv_oL hs
    cases hs
  | lload n =>
    exfalso
    obtain ⟨v, -, hs⟩ := iv_oL hs
    cases hs
  | istore_n n =>
    exfalso
    obtain ⟨v, t, -, hs⟩ := iv_sI hs
    cases hs
  | istore n =>
    exfalso
    obtain ⟨v, t, -, hs⟩ := iv_sI hs
    cases hs
  | astore_n n =>
    exfalso
    obtain ⟨v, t, -, hs⟩ := iv_sR hs
    cases hs
  | astore n =>
    exfalso
    obtain ⟨v, t, -, hs⟩ := iv_sR hs
    cases hs
  | lstore_n n =>
    exfalso
    obtain ⟨v, t, -, hs⟩ := iv_sL hs
    cases hs
  | lstore n =>
    exfalso
    obtain ⟨v, t, -, hs⟩ := iv_sL hs
    cases hs
  | iinc i n =>
    exfalso
    obtain ⟨v, -, hs⟩ := iv_oI hs
    cases hs
  | iconst n =>
    exfalso
    cases hs
  | bipush n =>
    exfalso
    cases hs
  | sipush n =>
    exfalso
    cases hs
  | lconst n =>
    exfalso
    cases hs
  | ldc n =>
    exfalso
    cases hs
  | ldc2_w n =>
    exfalso
    cases hs
  | goto n =>
    exfalso
    cases hs
  | iadd  =>
    exfalso
    obtain ⟨a, b9, t, -, hs⟩ := iv_sII hs
    cases hs
  | isub  =>
    exfalso
    obtain ⟨a, b9, t, -, hs⟩ := iv_sII hs
    cases hs
  | imul  =>
    exfalso
    obtain ⟨a, b9, t, -, hs⟩ := iv_sII hs
    cases hs
  | iand  =>
    exfalso
    obtain ⟨a, b9, t, -, hs⟩ := iv_sII hs
    cases hs
  | ior  =>
    exfalso
    obtain ⟨a, b9, t, -, hs⟩ := iv_sII hs
    cases hs
  | ishr  =>
    exfalso
    obtain ⟨a, b9, t, -, hs⟩ := iv_sII hs
    cases hs
  | iushr  =>
    exfalso
    obtain ⟨a, b9, t, -, hs⟩ := iv_sII hs
    cases hs
  | ladd  =>
    exfalso
    obtain ⟨a, b9, t, -, hs⟩ := iv_sLL hs
    cases hs
  | lsub  =>
    exfalso
    obtain ⟨a, b9, t, -, hs⟩ := iv_sLL hs
    cases hs
  | lmul  =>
    exfalso
    obtain ⟨a, b9, t, -, hs⟩ := iv_sLL hs
    cases hs
  | land  =>
    exfalso
    obtain ⟨a, b9, t, -, hs⟩ := iv_sLL hs
    cases hs
  | lor  =>
    exfalso
    obtain ⟨a, b9, t, -, hs⟩ := iv_sLL hs
    cases hs
  | lxor  =>
    exfalso
    obtain ⟨a, b9, t, -, hs⟩ := iv_sLL hs
    cases hs
  | lcmp  =>
    exfalso
    obtain ⟨a, b9, t, -, hs⟩ := iv_sLL hs
    cases hs
  | idiv  =>
    exfalso
    obtain ⟨a, b9, t, -, hs⟩ := iv_sII hs
    rcases bal hs with ⟨-, hs⟩ | ⟨-, hs⟩ <;> cases hs
  | irem  =>
    exfalso
    obtain ⟨a, b9, t, -, hs⟩ := iv_sII hs
    rcases bal hs with ⟨-, hs⟩ | ⟨-, hs⟩ <;> cases hs
  | ldiv  =>
    exfalso
    obtain ⟨a, b9, t, -, hs⟩ := iv_sLL hs
    rcases bal hs with ⟨-, hs⟩ | ⟨-, hs⟩ <;> cases hs
  | lrem  =>
    exfalso
    obtain ⟨a, b9, t, -, hs⟩ := iv_sLL hs
    rcases bal hs with ⟨-, hs⟩ | ⟨-, hs⟩ <;> cases hs
  | ineg  =>
    exfalso
    obtain ⟨a, t, -, hs⟩ := iv_sI hs
    cases hs
  | lneg  =>
    exfalso
    obtain ⟨a, t, -, hs⟩ := iv_sL hs
    cases hs
  | i2l  =>
    exfalso
    obtain ⟨a, t, -, hs⟩ := iv_sI hs
    cases hs
  | l2i  =>
    exfalso
    obtain ⟨a, t, -, hs⟩ := iv_sL hs
    cases hs
  | i2b  =>
    exfalso
    obtain ⟨a, t, -, hs⟩ := iv_sI hs
    cases hs
  | i2s  =>
    exfalso
    obtain ⟨a, t, -, hs⟩ := iv_sI hs
    cases hs
  | lshl  =>
    exfalso
    obtain ⟨a, b9, t, -, hs⟩ := iv_sLI hs
    cases hs
  | dup  =>
    exfalso
    obtain ⟨v, t, -, hs⟩ := iv_sV hs
    obtain ⟨-, hs⟩ := iv_bo hs
    cases hs
  | pop  =>
    exfalso
    obtain ⟨v, t, -, hs⟩ := iv_sV hs
    obtain ⟨-, hs⟩ := iv_bo hs
    cases hs
  | dup2  =>
    exfalso
    obtain ⟨v, t, -, hs⟩ := iv_sV hs
    obtain ⟨v, t, -, hs⟩ := iv_sV hs
    obtain ⟨-, hs⟩ := iv_bo hs
    cases hs
  | ifCond cd off =>
    exfalso
    obtain ⟨a, t, -, hs⟩ := iv_sI hs
    cases cd <;> (rcases bal hs with ⟨-, hs⟩ | ⟨-, hs⟩ <;> cases hs)
  | if_icmp cd off =>
    exfalso
    obtain ⟨a, b9, t, -, hs⟩ := iv_sII hs
    cases cd <;> (rcases bal hs with ⟨-, hs⟩ | ⟨-, hs⟩ <;> cases hs)
  | tableswitch a9 b9 c9 d9 =>
    exfalso
    obtain ⟨v, t, -, hs⟩ := iv_sI hs
    dsimp only at hs
    split at hs
    · rcases bal hs with ⟨-, hs⟩ | ⟨-, hs⟩ <;> cases hs
    · cases hs
  | getfield n =>
    exfalso
    obtain ⟨a, t, -, hs⟩ := iv_sR hs
    obtain ⟨ci, fs, -, hs⟩ := iv_hO hs
    obtain ⟨-, hs⟩ := iv_bo hs
    dsimp only at hs
    split at hs <;> cases hs
  | putfield n =>
    exfalso
    obtain ⟨v, a, t, -, hs⟩ := iv_sVR hs
    obtain ⟨ci, fs, -, hs⟩ := iv_hO hs
    obtain ⟨-, hs⟩ := iv_bo hs
    cases hs
  | baload  =>
    exfalso
    obtain ⟨i, a, t, -, hs⟩ := iv_sIR hs
    obtain ⟨n, f, -, hs⟩ := iv_hI hs
    obtain ⟨-, hs⟩ := iv_in hs
    cases hs
  | laload  =>
    exfalso
    obtain ⟨i, a, t, -, hs⟩ := iv_sIR hs
    obtain ⟨n, f, -, hs⟩ := iv_hL hs
    obtain ⟨-, hs⟩ := iv_in hs
    cases hs
  | iaload  =>
    exfalso
    rcases iv_sIF hs with ⟨i, a, t, -, hs⟩ | ⟨i, y, t, -, hs⟩
    · obtain ⟨n, f, -, hs⟩ := iv_hI hs
      obtain ⟨-, hs⟩ := iv_in hs
      cases hs
    · obtain ⟨L, xs, -, hs⟩ := iv_oSc hs
      obtain ⟨-, hs⟩ := iv_in hs
      cases hs
  | arraylength  =>
    exfalso
    rcases iv_sRF hs with ⟨a, t, -, hs⟩ | ⟨y, t, -, hs⟩
    · obtain ⟨n, f, -, -, hs⟩ := iv_hN hs
      cases hs
    · obtain ⟨L, xs, -, hs⟩ := iv_oSc hs
      cases hs
  | aaload  =>
    exfalso
    obtain ⟨i, a, t, -, hs⟩ := iv_sIR hs
    obtain ⟨tg, n, f, -, -, -, hs⟩ := iv_hQ hs
    obtain ⟨-, hs⟩ := iv_in hs
    split at hs <;> cases hs
  | iastore  =>
    exfalso
    obtain ⟨y, i, a, t, -, hs⟩ := iv_sIIR hs
    obtain ⟨n, f, -, hs⟩ := iv_hI hs
    obtain ⟨-, hs⟩ := iv_in hs
    cases hs
  | bastore  =>
    exfalso
    obtain ⟨y, i, a, t, -, hs⟩ := iv_sIIR hs
    obtain ⟨n, f, -, hs⟩ := iv_hI hs
    obtain ⟨-, hs⟩ := iv_in hs
    obtain ⟨-, hs⟩ := iv_bo hs
    cases hs
  | lastore  =>
    exfalso
    obtain ⟨y, i, a, t, -, hs⟩ := iv_sLIR hs
    obtain ⟨n, f, -, hs⟩ := iv_hL hs
    obtain ⟨-, hs⟩ := iv_in hs
    cases hs
  | aastore  =>
    exfalso
    obtain ⟨v, i, a, t, -, hs⟩ := iv_sRIR hs
    obtain ⟨tg, n, f, -, -, -, hs⟩ := iv_hQ hs
    obtain ⟨cv, vs, -, hs⟩ := iv_hO hs
    obtain ⟨-, hs⟩ := iv_bo hs
    obtain ⟨-, hs⟩ := iv_in hs
    cases hs
  | new n =>
    exfalso
    obtain ⟨-, hs⟩ := iv_bo hs
    cases hs
  | newarray n =>
    exfalso
    cases n <;> first | (cases hs; done) | (obtain ⟨v, t, -, hs⟩ := iv_sI hs; rcases bal hs with ⟨-, hs⟩ | ⟨-, hs⟩ <;> cases hs)
  | anewarray n =>
    exfalso
    obtain ⟨v, t, -, hs⟩ := iv_sI hs
    rcases bal hs with ⟨-, hs⟩ | ⟨-, hs⟩ <;> cases hs
  | multianewarray n d9 =>
    exfalso
    obtain ⟨v, u, t, -, hs⟩ := iv_sII hs
    rcases bal hs with ⟨-, hs⟩ | ⟨-, hs⟩ <;> cases hs
  | invokevirtual n =>
    exfalso
    obtain ⟨a, t, -, hs⟩ := iv_sR hs
    obtain ⟨y, -, -, hs⟩ := iv_eInv hs
    cases hs
  | invokespecial n =>
    exfalso
    have hs : (bif Nat.beq ra 9999 then sR st (fun _ t => bo (Nat.ble (eSum t) 8) (some (.inl (pc + 3, ls, t, h)))) else eVirt M (pc, .invokespecial n, len, ra, rb, wi) ls st h) = some (Sum.inr x : eS ⊕ eR) := hs
    cases h99 : Nat.beq ra 9999 with
    | true =>
      rw [h99] at hs
      obtain ⟨a, t, -, hs⟩ := iv_sR hs
      obtain ⟨-, hs⟩ := iv_bo hs
      cases hs
    | false =>
      rw [h99] at hs
      obtain ⟨a, t, -, hs⟩ := iv_sR hs
      obtain ⟨y, -, -, hs⟩ := iv_eInv hs
      cases hs
  | invokestatic n =>
    exfalso
    have hs : (bif Nat.beq ra 9998 then eCpy pc ls st h else eStat M (pc, .invokestatic n, len, ra, rb, wi) ls st h) = some (Sum.inr x : eS ⊕ eR) := hs
    cases h99 : Nat.beq ra 9998 with
    | true =>
      rw [h99] at hs
      obtain ⟨a0, sp, a1, dp, n, t, -, hs⟩ := iv_sCpy hs
      obtain ⟨n0, f, -, hs⟩ := iv_hI hs
      obtain ⟨n1, g, -, hs⟩ := iv_hI hs
      obtain ⟨-, hs⟩ := iv_bo hs
      rcases bal hs with ⟨-, hs⟩ | ⟨-, hs⟩ <;> cases hs
    | false =>
      rw [h99] at hs
      obtain ⟨-, hs⟩ := iv_bo hs
      obtain ⟨y, -, -, hs⟩ := iv_eInv hs
      cases hs
  | _ => cases hs
/-- the evaluator's end is the machine's -/
theorem eexec_sound (C : eCx p s m args meth c D dA b base sc (qm k) Ts) (hM : eMOK qm l D dA b base k M) (hRf : R.frames = (qm k).2.2.2.2.2.2.2.1) (hRl : R.locals = (qm k).2.2.2.2.2.2.2.2) (hrt : meth.sig.returnType = (qm k).2.2.2.1) (hlocks : meth.locks = false) {tb : List eRow} (htb : ∀ r ∈ tb, rB qm k r = true) : ∀ (f : Nat) {pc : Nat} {ls : eL} {st : List Value} {h : eH} {x : eR}, eExec f sc M tb (pc, ls, st, h) = some x → h.2.1 ≤ x.2.2.1 ∧ h.2.2 ≤ x.2.2.2 ∧ ∀ {H : Heap} {locs : List Loc} {cells slots : Nat} {arr : Array Slot}, lv_has arr (qm k).2.2.1 (eEnt b base ls) → WH D dA b base h H → va_S (fun q => base ≤ q) s.heap H locs → cells + (x.2.2.1 - h.2.1) ≤ R.cells → slots + (x.2.2.2 - h.2.2) ≤ R.slots →
    W p l e R s m args below meth c H locs cells slots (MQ below (eQ D dA b base x) args s (cells + (x.2.2.1 - h.2.1)) (slots + (x.2.2.2 - h.2.2)) (fun q => base ≤ q)) (F0 m pc arr (st.map (lf b base))) := by
  intro f
  induction f with
  | zero => intro pc ls st h x hs; cases hs
  | succ f ih =>
    intro pc ls st h x hs
    unfold eExec at hs
    cases hf : eFind tb pc with
    | none => rw [hf] at hs; cases hs
    | some r =>
      rw [hf] at hs
      dsimp only at hs
      obtain ⟨hmem, hpc⟩ := eFind_mem hf
      subst hpc
      cases hst : estep sc M r ls st h with
      | none => rw [hst] at hs; cases hs
      | some y =>
        rw [hst] at hs
        cases y with
        | inl q' =>
          dsimp only at hs
          obtain ⟨pc', ls', st', h'⟩ := q'
          obtain ⟨g1, g2, g3, g4⟩ := estep_sound (l := l) (e := e) (R := R) (below := below) C hM hRf hRl (htb r hmem) hst
          dsimp only at g1 g2 g4
          obtain ⟨i1, i2, i3⟩ := ih hs
          refine ⟨Nat.le_trans g1 i1, Nat.le_trans g2 i2, fun {H locs cells slots arr} hl hw hS h1 h2 => ?_⟩
          refine g4 hl hw hS (by omega) (by omega) fun H' locs' arr' hl' hw' hS' => ?_
          have := i3 (cells := cells + (h'.2.1 - h.2.1)) (slots := slots + (h'.2.2 - h.2.2)) hl' hw' hS' (by omega) (by omega)
          rw [show cells + (h'.2.1 - h.2.1) + (x.2.2.1 - h'.2.1) = cells + (x.2.2.1 - h.2.1) by omega, show slots + (h'.2.2 - h.2.2) + (x.2.2.2 - h'.2.2) = slots + (x.2.2.2 - h.2.2) by omega] at this
          exact this
        | inr z =>
          cases hs
          obtain ⟨e1, e2⟩ := eret_sound (l := l) (e := e) (R := R) (below := below) C hrt hlocks (htb r hmem) hst
          rw [e1]
          refine ⟨Nat.le_refl _, Nat.le_refl _, fun {H locs cells slots arr} hl hw hS h1 h2 => ?_⟩
          rw [Nat.sub_self, Nat.sub_self, Nat.add_zero, Nat.add_zero]
          exact e2 hw hS
end MET
/-! the methods, each over those ahead of it -/
def alen (as : List Value) : Nat := (as.flatMap (fun v => if v.category = 2 then [some v, (none : Option Value)] else [some v])).length
def okA (i : eMI) (as : List Value) (h : eH) : Bool := Nat.ble (alen as) i.2.2.1 && (i.2.2.2.2.1 || (match as with
  | .ref a :: _ => (match h.1 a with
    | .inr (ci, _) => Nat.beq ci i.2.2.2.2.2.2.1
    | _ => false)
  | _ => false))
noncomputable def eTo (qm : Nat → eMI) (qt : Nat → List eRow) : Nat → eM
  | 0 => fun _ _ _ => none
  | k + 1 => fun j as h => bif Nat.beq j k then bo (okA (qm k) as h) (eRun none (eTo qm qt k) (qt k) (0, entL (qm k).2.2.1 as, [], h)) else eTo qm qt k j as h
theorem okA_recv {i : eMI} {as : List Value} {h : eH} (ho : okA i as h = true) : alen as ≤ i.2.2.1 ∧ (i.2.2.2.2.1 = false → ∀ a t, as = .ref a :: t → ∃ fs, h.1 a = .inr (i.2.2.2.2.2.2.1, fs)) := by
  unfold okA at ho
  rw [Bool.and_eq_true, Bool.or_eq_true] at ho
  refine ⟨Nat.le_of_ble_eq_true ho.1, fun hs a t e => ?_⟩
  rcases ho.2 with h2 | h2
  · rw [hs] at h2; cases h2
  · subst e
    dsimp only at h2
    split at h2
    · next ci fs he =>
      rw [nb h2] at he
      exact ⟨fs, he⟩
    · cases h2
theorem eTo_le {qm : Nat → eMI} {qt : Nat → List eRow} : ∀ {k : Nat} (j : Nat) (as : List Value) (h : eH) (x : eR), eTo qm qt k j as h = some x → h.2.1 ≤ x.2.2.1 ∧ h.2.2 ≤ x.2.2.2 := by
  intro k
  induction k with
  | zero => intro j as h x hs; cases hs
  | succ k ih =>
    intro j as h x hs
    unfold eTo at hs
    cases hb : Nat.beq j k with
    | true =>
      rw [hb] at hs
      obtain ⟨-, hs⟩ := iv_bo hs
      obtain ⟨f, hf⟩ := eRun_iff.mp hs
      exact eExec_le ih f hf
    | false =>
      rw [hb] at hs
      exact ih j as h x hs
section TO
variable {qm : Nat → eMI} {qt : Nat → List eRow} {l : Launch} {D : va_G} {dA : Nat → ClassId} {b base : Nat}
theorem eTop_sound {k : Nat} (hm : mOK (qm k)) (htb : ∀ r ∈ qt k, rB qm k r = true) (hM : eMOK qm l D dA b base k (eTo qm qt k)) {as : List Value} {h : eH} {x : eR} (ho : okA (qm k) as h = true) (hr : eRun none (eTo qm qt k) (qt k) (0, entL (qm k).2.2.1 as, [], h) = some x) : eMet l D dA b base (qm k) as h x ∧ h.2.1 ≤ x.2.2.1 ∧ h.2.2 ≤ x.2.2.2 := by
  obtain ⟨f, hf⟩ := eRun_iff.mp hr
  refine ⟨?_, ?_⟩
  · refine Met.ofW (cc := (qm k).2.1) (maxL := (qm k).2.2.1) (ret := (qm k).2.2.2.1) hm.1 rfl ?_
    intro p e s m args below meth c s₁ B hml hv
    obtain ⟨rfl, hw, hK⟩ := hv
    have hx := B.exec
    have hb := B.bytes
    have hrt := B.returns
    have hts := atoms_spec (ws := Cond.code (qm k).1 (qm k).2.1 (qm k).2.2.1 (qm k).2.2.2.1 :: gT) B.pre
    have hown : s.vm.findClass (qm k).1.cls = some m.cls := findClass_of_methodNamed B.named
    have hlocks := B.notSynchronized
    have hnm := (name_of_methodNamed B.named B.method).1
    have hsz := hw.1
    have C : eCx p s m (as.map (lf b base)).toArray meth c D dA b base none (qm k) (Cond.code (qm k).1 (qm k).2.1 (qm k).2.2.1 (qm k).2.2.2.1 :: gT) := ⟨hx, hb, hml, hown, hts, fun w h => List.mem_cons_of_mem _ h, hK, by omega, fun hn => hnm.trans hn, fun L xs h => by cases h⟩
    obtain ⟨m1, m2, run⟩ := eexec_sound (l := l) (e := e) (R := (headSpec (Cond.code (qm k).1 (qm k).2.1 (qm k).2.2.1 (qm k).2.2.2.1 :: gT) (eRm (qm k) h x)).room) (below := below) C hM rfl rfl hrt hlocks htb f hf
    have hal : (lg_sl (as.map (lf b base))).length ≤ (qm k).2.2.1 := by rw [entL_sl]; exact (okA_recv ho).1
    have hl := lv_entry (as.map (lf b base)) hal
    rw [lg_entry_eq]
    generalize (lg_sl (as.map (lf b base)) ++ List.replicate ((qm k).2.2.1 - (lg_sl (as.map (lf b base))).length) Slot.unset).toArray = ls at hl ⊢
    have := run (cells := 0) (slots := 0) (H := s.heap) (locs := []) (lv_incl hl entL_in) hw va_S.rf (by rw [Nat.zero_add]; exact Nat.le_refl _) (by rw [Nat.zero_add]; exact Nat.le_refl _)
    rw [Nat.zero_add, Nat.zero_add] at this
    exact this
  · obtain ⟨f, hf⟩ := eRun_iff.mp hr
    exact eExec_le eTo_le f hf
theorem eTo_sound {N : Nat} (hm : ∀ k, k < N → mOK (qm k) ∧ ∀ r ∈ qt k, rB qm k r = true) : ∀ k, k ≤ N → eMOK qm l D dA b base k (eTo qm qt k) := by
  intro k
  induction k with
  | zero => intro _ j as h x hj; exact absurd hj (Nat.not_lt_zero _)
  | succ k ih =>
    intro hk j as h x hj hs
    have ihk := ih (by omega)
    unfold eTo at hs
    cases hb : Nat.beq j k with
    | true =>
      rw [hb] at hs
      have hjk := nb hb
      subst hjk
      obtain ⟨ho, hs⟩ := iv_bo hs
      obtain ⟨hm1, hm2⟩ := hm j (by omega)
      obtain ⟨e1, e2, e3⟩ := eTop_sound hm1 hm2 ihk ho hs
      exact ⟨e1, e2, e3, (okA_recv ho).2⟩
    | false =>
      rw [hb] at hs
      have hne : j ≠ k := fun e => by subst e; rw [Nat.beq_refl] at hb; cases hb
      exact ihk j as h x (by omega) hs
end TO
end
