section
/-- a private method of a class that the tables say can be made, by its rows of tables_1 -/
def lw_okq (q : MethodName × Nat) : Prop := (q.1.cls ≠ "java/lang/invoke/MethodHandle" ∧ q.1.cls ≠ "java/lang/invoke/VarHandle") ∧ Cond.instantiable q.1.cls q.2 ∈ tables_1 ∧ Cond.privateMethod q.1 ∈ tables_1 ∧ Cond.instanceMethod q.1 ∈ tables_1
theorem lw_p0 : lw_okq (⟨"FlowFabric", "isPort", "(II)Z"⟩, 6) := ⟨⟨by decide +kernel, by decide +kernel⟩, List.mem_of_getElem? (i := 23) (by decide +kernel), List.mem_of_getElem? (i := 192) (by decide +kernel), List.mem_of_getElem? (i := 193) (by decide +kernel)⟩
theorem lw_p1 : lw_okq (⟨"FlowFabric", "isSwitch", "(I)Z"⟩, 6) := ⟨⟨by decide +kernel, by decide +kernel⟩, List.mem_of_getElem? (i := 23) (by decide +kernel), List.mem_of_getElem? (i := 196) (by decide +kernel), List.mem_of_getElem? (i := 197) (by decide +kernel)⟩
theorem lw_p2 : lw_okq (⟨"FlowFabric", "isEnd", "(II)Z"⟩, 6) := ⟨⟨by decide +kernel, by decide +kernel⟩, List.mem_of_getElem? (i := 23) (by decide +kernel), List.mem_of_getElem? (i := 250) (by decide +kernel), List.mem_of_getElem? (i := 251) (by decide +kernel)⟩
theorem lw_p3 : lw_okq (⟨"java/util/ArrayList", "add", "(Ljava/lang/Object;[Ljava/lang/Object;I)V"⟩, 3) := ⟨⟨by decide +kernel, by decide +kernel⟩, List.mem_of_getElem? (i := 54) (by decide +kernel), List.mem_of_getElem? (i := 311) (by decide +kernel), List.mem_of_getElem? (i := 312) (by decide +kernel)⟩
theorem lw_p4 : lw_okq (⟨"java/util/ArrayList", "grow", "()[Ljava/lang/Object;"⟩, 3) := ⟨⟨by decide +kernel, by decide +kernel⟩, List.mem_of_getElem? (i := 54) (by decide +kernel), List.mem_of_getElem? (i := 315) (by decide +kernel), List.mem_of_getElem? (i := 316) (by decide +kernel)⟩
theorem lw_p5 : lw_okq (⟨"java/util/ArrayList", "grow", "(I)[Ljava/lang/Object;"⟩, 3) := ⟨⟨by decide +kernel, by decide +kernel⟩, List.mem_of_getElem? (i := 54) (by decide +kernel), List.mem_of_getElem? (i := 319) (by decide +kernel), List.mem_of_getElem? (i := 320) (by decide +kernel)⟩
theorem lw_p6 : lw_okq (⟨"FlowFabric", "isGuard", "(II)Z"⟩, 6) := ⟨⟨by decide +kernel, by decide +kernel⟩, List.mem_of_getElem? (i := 23) (by decide +kernel), List.mem_of_getElem? (i := 402) (by decide +kernel), List.mem_of_getElem? (i := 403) (by decide +kernel)⟩
theorem lw_p7 : lw_okq (⟨"java/util/ArrayList", "fastRemove", "([Ljava/lang/Object;I)V"⟩, 3) := ⟨⟨by decide +kernel, by decide +kernel⟩, List.mem_of_getElem? (i := 54) (by decide +kernel), List.mem_of_getElem? (i := 416) (by decide +kernel), List.mem_of_getElem? (i := 417) (by decide +kernel)⟩
theorem lw_p8 : lw_okq (⟨"FlowFabric", "isHost", "(I)Z"⟩, 6) := ⟨⟨by decide +kernel, by decide +kernel⟩, List.mem_of_getElem? (i := 23) (by decide +kernel), List.mem_of_getElem? (i := 425) (by decide +kernel), List.mem_of_getElem? (i := 426) (by decide +kernel)⟩
theorem lw_p9 : lw_okq (⟨"FlowFabric$Node", "strongestGuard", "(LFlowFabric$Datagram;I)LFlowFabric$Guard;"⟩, 7) := ⟨⟨by decide +kernel, by decide +kernel⟩, List.mem_of_getElem? (i := 41) (by decide +kernel), List.mem_of_getElem? (i := 462) (by decide +kernel), List.mem_of_getElem? (i := 463) (by decide +kernel)⟩
theorem lw_p10 : lw_okq (⟨"FlowFabric$Node", "comeToRules", "(LFlowFabric$Datagram;II)V"⟩, 7) := ⟨⟨by decide +kernel, by decide +kernel⟩, List.mem_of_getElem? (i := 41) (by decide +kernel), List.mem_of_getElem? (i := 511) (by decide +kernel), List.mem_of_getElem? (i := 512) (by decide +kernel)⟩
theorem lw_p11 : lw_okq (⟨"FlowFabric$Node", "addIfOpen", "(LFlowFabric$Message;)V"⟩, 7) := ⟨⟨by decide +kernel, by decide +kernel⟩, List.mem_of_getElem? (i := 41) (by decide +kernel), List.mem_of_getElem? (i := 523) (by decide +kernel), List.mem_of_getElem? (i := 524) (by decide +kernel)⟩
theorem lw_p12 : lw_okq (⟨"FlowFabric$Node", "putRule", "(LFlowFabric$Message;I)V"⟩, 7) := ⟨⟨by decide +kernel, by decide +kernel⟩, List.mem_of_getElem? (i := 41) (by decide +kernel), List.mem_of_getElem? (i := 553) (by decide +kernel), List.mem_of_getElem? (i := 554) (by decide +kernel)⟩
theorem lw_p13 : lw_okq (⟨"FlowFabric$Node", "cutRule", "(II)V"⟩, 7) := ⟨⟨by decide +kernel, by decide +kernel⟩, List.mem_of_getElem? (i := 41) (by decide +kernel), List.mem_of_getElem? (i := 557) (by decide +kernel), List.mem_of_getElem? (i := 558) (by decide +kernel)⟩
theorem lw_p14 : lw_okq (⟨"FlowFabric$Node", "sendOutAt", "(ILFlowFabric$Datagram;)V"⟩, 7) := ⟨⟨by decide +kernel, by decide +kernel⟩, List.mem_of_getElem? (i := 41) (by decide +kernel), List.mem_of_getElem? (i := 602) (by decide +kernel), List.mem_of_getElem? (i := 603) (by decide +kernel)⟩
theorem lw_p15 : lw_okq (⟨"FlowFabric$Node", "sendProbes", "()V"⟩, 7) := ⟨⟨by decide +kernel, by decide +kernel⟩, List.mem_of_getElem? (i := 41) (by decide +kernel), List.mem_of_getElem? (i := 606) (by decide +kernel), List.mem_of_getElem? (i := 607) (by decide +kernel)⟩
def lw_privs_1 : List (MethodName × Nat) := [(⟨"FlowFabric", "isPort", "(II)Z"⟩, 6), (⟨"FlowFabric", "isSwitch", "(I)Z"⟩, 6), (⟨"FlowFabric", "isEnd", "(II)Z"⟩, 6), (⟨"java/util/ArrayList", "add", "(Ljava/lang/Object;[Ljava/lang/Object;I)V"⟩, 3), (⟨"java/util/ArrayList", "grow", "()[Ljava/lang/Object;"⟩, 3), (⟨"java/util/ArrayList", "grow", "(I)[Ljava/lang/Object;"⟩, 3), (⟨"FlowFabric", "isGuard", "(II)Z"⟩, 6), (⟨"java/util/ArrayList", "fastRemove", "([Ljava/lang/Object;I)V"⟩, 3), (⟨"FlowFabric", "isHost", "(I)Z"⟩, 6), (⟨"FlowFabric$Node", "strongestGuard", "(LFlowFabric$Datagram;I)LFlowFabric$Guard;"⟩, 7), (⟨"FlowFabric$Node", "comeToRules", "(LFlowFabric$Datagram;II)V"⟩, 7), (⟨"FlowFabric$Node", "addIfOpen", "(LFlowFabric$Message;)V"⟩, 7), (⟨"FlowFabric$Node", "putRule", "(LFlowFabric$Message;I)V"⟩, 7), (⟨"FlowFabric$Node", "cutRule", "(II)V"⟩, 7), (⟨"FlowFabric$Node", "sendOutAt", "(ILFlowFabric$Datagram;)V"⟩, 7), (⟨"FlowFabric$Node", "sendProbes", "()V"⟩, 7)]
theorem lw_r1 : ∀ q ∈ lw_privs_1, lw_okq q := List.forall_mem_cons.mpr ⟨lw_p0, List.forall_mem_cons.mpr ⟨lw_p1, List.forall_mem_cons.mpr ⟨lw_p2, List.forall_mem_cons.mpr ⟨lw_p3, List.forall_mem_cons.mpr ⟨lw_p4, List.forall_mem_cons.mpr ⟨lw_p5, List.forall_mem_cons.mpr ⟨lw_p6, List.forall_mem_cons.mpr ⟨lw_p7, List.forall_mem_cons.mpr ⟨lw_p8, List.forall_mem_cons.mpr ⟨lw_p9, List.forall_mem_cons.mpr ⟨lw_p10, List.forall_mem_cons.mpr ⟨lw_p11, List.forall_mem_cons.mpr ⟨lw_p12, List.forall_mem_cons.mpr ⟨lw_p13, List.forall_mem_cons.mpr ⟨lw_p14, List.forall_mem_cons.mpr ⟨lw_p15, fun _ h => absurd h List.not_mem_nil⟩⟩⟩⟩⟩⟩⟩⟩⟩⟩⟩⟩⟩⟩⟩⟩
theorem lw_p16 : lw_okq (⟨"FlowFabric$Controller", "handleMiss", "(IILFlowFabric$Datagram;)V"⟩, 7) := ⟨⟨by decide +kernel, by decide +kernel⟩, List.mem_of_getElem? (i := 132) (by decide +kernel), List.mem_of_getElem? (i := 623) (by decide +kernel), List.mem_of_getElem? (i := 624) (by decide +kernel)⟩
theorem lw_p17 : lw_okq (⟨"FlowFabric$Controller", "clearCourse", "(LFlowFabric$Course;)V"⟩, 7) := ⟨⟨by decide +kernel, by decide +kernel⟩, List.mem_of_getElem? (i := 132) (by decide +kernel), List.mem_of_getElem? (i := 635) (by decide +kernel), List.mem_of_getElem? (i := 636) (by decide +kernel)⟩
theorem lw_p18 : lw_okq (⟨"FlowFabric$Controller", "orderOuts", "(IILFlowFabric$Datagram;)V"⟩, 7) := ⟨⟨by decide +kernel, by decide +kernel⟩, List.mem_of_getElem? (i := 132) (by decide +kernel), List.mem_of_getElem? (i := 643) (by decide +kernel), List.mem_of_getElem? (i := 644) (by decide +kernel)⟩
theorem lw_p19 : lw_okq (⟨"FlowFabric$Controller", "makeCourse", "(LFlowFabric$Datagram;)V"⟩, 7) := ⟨⟨by decide +kernel, by decide +kernel⟩, List.mem_of_getElem? (i := 132) (by decide +kernel), List.mem_of_getElem? (i := 648) (by decide +kernel), List.mem_of_getElem? (i := 649) (by decide +kernel)⟩
theorem lw_p20 : lw_okq (⟨"FlowFabric$Controller", "findWay", "(II)[I"⟩, 7) := ⟨⟨by decide +kernel, by decide +kernel⟩, List.mem_of_getElem? (i := 132) (by decide +kernel), List.mem_of_getElem? (i := 652) (by decide +kernel), List.mem_of_getElem? (i := 653) (by decide +kernel)⟩
theorem lw_p21 : lw_okq (⟨"FlowFabric$Controller", "countSteps", "(I)V"⟩, 7) := ⟨⟨by decide +kernel, by decide +kernel⟩, List.mem_of_getElem? (i := 132) (by decide +kernel), List.mem_of_getElem? (i := 658) (by decide +kernel), List.mem_of_getElem? (i := 659) (by decide +kernel)⟩
theorem lw_p22 : lw_okq (⟨"FlowFabric$Controller", "nextEnd", "(I)I"⟩, 7) := ⟨⟨by decide +kernel, by decide +kernel⟩, List.mem_of_getElem? (i := 132) (by decide +kernel), List.mem_of_getElem? (i := 662) (by decide +kernel), List.mem_of_getElem? (i := 663) (by decide +kernel)⟩
theorem lw_p23 : lw_okq (⟨"FlowFabric$Controller", "leadAhead", "(LFlowFabric$Course;)V"⟩, 7) := ⟨⟨by decide +kernel, by decide +kernel⟩, List.mem_of_getElem? (i := 132) (by decide +kernel), List.mem_of_getElem? (i := 712) (by decide +kernel), List.mem_of_getElem? (i := 713) (by decide +kernel)⟩
theorem lw_p24 : lw_okq (⟨"FlowFabric$Controller", "handleSeen", "(II)V"⟩, 7) := ⟨⟨by decide +kernel, by decide +kernel⟩, List.mem_of_getElem? (i := 132) (by decide +kernel), List.mem_of_getElem? (i := 717) (by decide +kernel), List.mem_of_getElem? (i := 718) (by decide +kernel)⟩
theorem lw_p25 : lw_okq (⟨"FlowFabric$Controller", "handleDone", "(I)V"⟩, 7) := ⟨⟨by decide +kernel, by decide +kernel⟩, List.mem_of_getElem? (i := 132) (by decide +kernel), List.mem_of_getElem? (i := 729) (by decide +kernel), List.mem_of_getElem? (i := 730) (by decide +kernel)⟩
theorem lw_p26 : lw_okq (⟨"FlowFabric$Controller", "countDone", "(LFlowFabric$Course;I)V"⟩, 7) := ⟨⟨by decide +kernel, by decide +kernel⟩, List.mem_of_getElem? (i := 132) (by decide +kernel), List.mem_of_getElem? (i := 733) (by decide +kernel), List.mem_of_getElem? (i := 734) (by decide +kernel)⟩
theorem lw_p27 : lw_okq (⟨"FlowFabric$Controller", "finishLaying", "(LFlowFabric$Course;)V"⟩, 7) := ⟨⟨by decide +kernel, by decide +kernel⟩, List.mem_of_getElem? (i := 132) (by decide +kernel), List.mem_of_getElem? (i := 738) (by decide +kernel), List.mem_of_getElem? (i := 739) (by decide +kernel)⟩
theorem lw_p28 : lw_okq (⟨"FlowFabric$Controller", "handleNoRoom", "(II)V"⟩, 7) := ⟨⟨by decide +kernel, by decide +kernel⟩, List.mem_of_getElem? (i := 132) (by decide +kernel), List.mem_of_getElem? (i := 742) (by decide +kernel), List.mem_of_getElem? (i := 743) (by decide +kernel)⟩
theorem lw_p29 : lw_okq (⟨"FlowFabric$Controller", "handleGone", "(III)V"⟩, 7) := ⟨⟨by decide +kernel, by decide +kernel⟩, List.mem_of_getElem? (i := 132) (by decide +kernel), List.mem_of_getElem? (i := 746) (by decide +kernel), List.mem_of_getElem? (i := 747) (by decide +kernel)⟩
theorem lw_p30 : lw_okq (⟨"FlowFabric$Controller", "handleDown", "(I)V"⟩, 7) := ⟨⟨by decide +kernel, by decide +kernel⟩, List.mem_of_getElem? (i := 132) (by decide +kernel), List.mem_of_getElem? (i := 755) (by decide +kernel), List.mem_of_getElem? (i := 756) (by decide +kernel)⟩
theorem lw_p31 : lw_okq (⟨"FlowFabricModel", "isPort", "(II)Z"⟩, 44) := ⟨⟨by decide +kernel, by decide +kernel⟩, List.mem_of_getElem? (i := 815) (by decide +kernel), List.mem_of_getElem? (i := 961) (by decide +kernel), List.mem_of_getElem? (i := 962) (by decide +kernel)⟩
def lw_privs_2 : List (MethodName × Nat) := [(⟨"FlowFabric$Controller", "handleMiss", "(IILFlowFabric$Datagram;)V"⟩, 7), (⟨"FlowFabric$Controller", "clearCourse", "(LFlowFabric$Course;)V"⟩, 7), (⟨"FlowFabric$Controller", "orderOuts", "(IILFlowFabric$Datagram;)V"⟩, 7), (⟨"FlowFabric$Controller", "makeCourse", "(LFlowFabric$Datagram;)V"⟩, 7), (⟨"FlowFabric$Controller", "findWay", "(II)[I"⟩, 7), (⟨"FlowFabric$Controller", "countSteps", "(I)V"⟩, 7), (⟨"FlowFabric$Controller", "nextEnd", "(I)I"⟩, 7), (⟨"FlowFabric$Controller", "leadAhead", "(LFlowFabric$Course;)V"⟩, 7), (⟨"FlowFabric$Controller", "handleSeen", "(II)V"⟩, 7), (⟨"FlowFabric$Controller", "handleDone", "(I)V"⟩, 7), (⟨"FlowFabric$Controller", "countDone", "(LFlowFabric$Course;I)V"⟩, 7), (⟨"FlowFabric$Controller", "finishLaying", "(LFlowFabric$Course;)V"⟩, 7), (⟨"FlowFabric$Controller", "handleNoRoom", "(II)V"⟩, 7), (⟨"FlowFabric$Controller", "handleGone", "(III)V"⟩, 7), (⟨"FlowFabric$Controller", "handleDown", "(I)V"⟩, 7), (⟨"FlowFabricModel", "isPort", "(II)Z"⟩, 44)]
theorem lw_r2 : ∀ q ∈ lw_privs_2, lw_okq q := List.forall_mem_cons.mpr ⟨lw_p16, List.forall_mem_cons.mpr ⟨lw_p17, List.forall_mem_cons.mpr ⟨lw_p18, List.forall_mem_cons.mpr ⟨lw_p19, List.forall_mem_cons.mpr ⟨lw_p20, List.forall_mem_cons.mpr ⟨lw_p21, List.forall_mem_cons.mpr ⟨lw_p22, List.forall_mem_cons.mpr ⟨lw_p23, List.forall_mem_cons.mpr ⟨lw_p24, List.forall_mem_cons.mpr ⟨lw_p25, List.forall_mem_cons.mpr ⟨lw_p26, List.forall_mem_cons.mpr ⟨lw_p27, List.forall_mem_cons.mpr ⟨lw_p28, List.forall_mem_cons.mpr ⟨lw_p29, List.forall_mem_cons.mpr ⟨lw_p30, List.forall_mem_cons.mpr ⟨lw_p31, fun _ h => absurd h List.not_mem_nil⟩⟩⟩⟩⟩⟩⟩⟩⟩⟩⟩⟩⟩⟩⟩⟩
theorem lw_p32 : lw_okq (⟨"FlowFabricModel", "isSwitch", "(I)Z"⟩, 44) := ⟨⟨by decide +kernel, by decide +kernel⟩, List.mem_of_getElem? (i := 815) (by decide +kernel), List.mem_of_getElem? (i := 965) (by decide +kernel), List.mem_of_getElem? (i := 966) (by decide +kernel)⟩
theorem lw_p33 : lw_okq (⟨"FlowFabricModel", "join", "(II)V"⟩, 44) := ⟨⟨by decide +kernel, by decide +kernel⟩, List.mem_of_getElem? (i := 815) (by decide +kernel), List.mem_of_getElem? (i := 973) (by decide +kernel), List.mem_of_getElem? (i := 974) (by decide +kernel)⟩
theorem lw_p34 : lw_okq (⟨"FlowFabricModel", "tell", "(IIIIII)V"⟩, 44) := ⟨⟨by decide +kernel, by decide +kernel⟩, List.mem_of_getElem? (i := 815) (by decide +kernel), List.mem_of_getElem? (i := 981) (by decide +kernel), List.mem_of_getElem? (i := 982) (by decide +kernel)⟩
theorem lw_p35 : lw_okq (⟨"FlowFabricModel", "add", "(IIIIII)V"⟩, 44) := ⟨⟨by decide +kernel, by decide +kernel⟩, List.mem_of_getElem? (i := 815) (by decide +kernel), List.mem_of_getElem? (i := 985) (by decide +kernel), List.mem_of_getElem? (i := 986) (by decide +kernel)⟩
theorem lw_p36 : lw_okq (⟨"FlowFabricModel", "isGuard", "(II)Z"⟩, 44) := ⟨⟨by decide +kernel, by decide +kernel⟩, List.mem_of_getElem? (i := 815) (by decide +kernel), List.mem_of_getElem? (i := 997) (by decide +kernel), List.mem_of_getElem? (i := 998) (by decide +kernel)⟩
theorem lw_p37 : lw_okq (⟨"FlowFabricModel", "isHost", "(I)Z"⟩, 44) := ⟨⟨by decide +kernel, by decide +kernel⟩, List.mem_of_getElem? (i := 815) (by decide +kernel), List.mem_of_getElem? (i := 1009) (by decide +kernel), List.mem_of_getElem? (i := 1010) (by decide +kernel)⟩
theorem lw_p38 : lw_okq (⟨"FlowFabricModel", "comesIn", "(IIIII)V"⟩, 44) := ⟨⟨by decide +kernel, by decide +kernel⟩, List.mem_of_getElem? (i := 815) (by decide +kernel), List.mem_of_getElem? (i := 1013) (by decide +kernel), List.mem_of_getElem? (i := 1014) (by decide +kernel)⟩
theorem lw_p39 : lw_okq (⟨"FlowFabricModel", "out", "(IIII)V"⟩, 44) := ⟨⟨by decide +kernel, by decide +kernel⟩, List.mem_of_getElem? (i := 815) (by decide +kernel), List.mem_of_getElem? (i := 1020) (by decide +kernel), List.mem_of_getElem? (i := 1021) (by decide +kernel)⟩
theorem lw_p40 : lw_okq (⟨"FlowFabricModel", "toRules", "(IIIII)V"⟩, 44) := ⟨⟨by decide +kernel, by decide +kernel⟩, List.mem_of_getElem? (i := 815) (by decide +kernel), List.mem_of_getElem? (i := 1024) (by decide +kernel), List.mem_of_getElem? (i := 1025) (by decide +kernel)⟩
theorem lw_p41 : lw_okq (⟨"FlowFabricModel", "ruleAt", "(II)I"⟩, 44) := ⟨⟨by decide +kernel, by decide +kernel⟩, List.mem_of_getElem? (i := 815) (by decide +kernel), List.mem_of_getElem? (i := 1028) (by decide +kernel), List.mem_of_getElem? (i := 1029) (by decide +kernel)⟩
theorem lw_p42 : lw_okq (⟨"FlowFabricModel", "take", "(I)V"⟩, 44) := ⟨⟨by decide +kernel, by decide +kernel⟩, List.mem_of_getElem? (i := 815) (by decide +kernel), List.mem_of_getElem? (i := 1040) (by decide +kernel), List.mem_of_getElem? (i := 1041) (by decide +kernel)⟩
theorem lw_p43 : lw_okq (⟨"FlowFabricModel", "put", "(III)V"⟩, 44) := ⟨⟨by decide +kernel, by decide +kernel⟩, List.mem_of_getElem? (i := 815) (by decide +kernel), List.mem_of_getElem? (i := 1044) (by decide +kernel), List.mem_of_getElem? (i := 1045) (by decide +kernel)⟩
theorem lw_p44 : lw_okq (⟨"FlowFabricModel", "removeRule", "(II)V"⟩, 44) := ⟨⟨by decide +kernel, by decide +kernel⟩, List.mem_of_getElem? (i := 815) (by decide +kernel), List.mem_of_getElem? (i := 1048) (by decide +kernel), List.mem_of_getElem? (i := 1049) (by decide +kernel)⟩
theorem lw_p45 : lw_okq (⟨"FlowFabricModel", "order", "(IIIIII)V"⟩, 44) := ⟨⟨by decide +kernel, by decide +kernel⟩, List.mem_of_getElem? (i := 815) (by decide +kernel), List.mem_of_getElem? (i := 1056) (by decide +kernel), List.mem_of_getElem? (i := 1057) (by decide +kernel)⟩
theorem lw_p46 : lw_okq (⟨"FlowFabricModel", "missed", "(IIIII)V"⟩, 44) := ⟨⟨by decide +kernel, by decide +kernel⟩, List.mem_of_getElem? (i := 815) (by decide +kernel), List.mem_of_getElem? (i := 1068) (by decide +kernel), List.mem_of_getElem? (i := 1069) (by decide +kernel)⟩
theorem lw_p47 : lw_okq (⟨"FlowFabricModel", "courseOf", "(I)I"⟩, 44) := ⟨⟨by decide +kernel, by decide +kernel⟩, List.mem_of_getElem? (i := 815) (by decide +kernel), List.mem_of_getElem? (i := 1072) (by decide +kernel), List.mem_of_getElem? (i := 1073) (by decide +kernel)⟩
def lw_privs_3 : List (MethodName × Nat) := [(⟨"FlowFabricModel", "isSwitch", "(I)Z"⟩, 44), (⟨"FlowFabricModel", "join", "(II)V"⟩, 44), (⟨"FlowFabricModel", "tell", "(IIIIII)V"⟩, 44), (⟨"FlowFabricModel", "add", "(IIIIII)V"⟩, 44), (⟨"FlowFabricModel", "isGuard", "(II)Z"⟩, 44), (⟨"FlowFabricModel", "isHost", "(I)Z"⟩, 44), (⟨"FlowFabricModel", "comesIn", "(IIIII)V"⟩, 44), (⟨"FlowFabricModel", "out", "(IIII)V"⟩, 44), (⟨"FlowFabricModel", "toRules", "(IIIII)V"⟩, 44), (⟨"FlowFabricModel", "ruleAt", "(II)I"⟩, 44), (⟨"FlowFabricModel", "take", "(I)V"⟩, 44), (⟨"FlowFabricModel", "put", "(III)V"⟩, 44), (⟨"FlowFabricModel", "removeRule", "(II)V"⟩, 44), (⟨"FlowFabricModel", "order", "(IIIIII)V"⟩, 44), (⟨"FlowFabricModel", "missed", "(IIIII)V"⟩, 44), (⟨"FlowFabricModel", "courseOf", "(I)I"⟩, 44)]
theorem lw_r3 : ∀ q ∈ lw_privs_3, lw_okq q := List.forall_mem_cons.mpr ⟨lw_p32, List.forall_mem_cons.mpr ⟨lw_p33, List.forall_mem_cons.mpr ⟨lw_p34, List.forall_mem_cons.mpr ⟨lw_p35, List.forall_mem_cons.mpr ⟨lw_p36, List.forall_mem_cons.mpr ⟨lw_p37, List.forall_mem_cons.mpr ⟨lw_p38, List.forall_mem_cons.mpr ⟨lw_p39, List.forall_mem_cons.mpr ⟨lw_p40, List.forall_mem_cons.mpr ⟨lw_p41, List.forall_mem_cons.mpr ⟨lw_p42, List.forall_mem_cons.mpr ⟨lw_p43, List.forall_mem_cons.mpr ⟨lw_p44, List.forall_mem_cons.mpr ⟨lw_p45, List.forall_mem_cons.mpr ⟨lw_p46, List.forall_mem_cons.mpr ⟨lw_p47, fun _ h => absurd h List.not_mem_nil⟩⟩⟩⟩⟩⟩⟩⟩⟩⟩⟩⟩⟩⟩⟩⟩
theorem lw_p48 : lw_okq (⟨"FlowFabricModel", "keep", "(II)V"⟩, 44) := ⟨⟨by decide +kernel, by decide +kernel⟩, List.mem_of_getElem? (i := 815) (by decide +kernel), List.mem_of_getElem? (i := 1076) (by decide +kernel), List.mem_of_getElem? (i := 1077) (by decide +kernel)⟩
theorem lw_p49 : lw_okq (⟨"FlowFabricModel", "clear", "(I)V"⟩, 44) := ⟨⟨by decide +kernel, by decide +kernel⟩, List.mem_of_getElem? (i := 815) (by decide +kernel), List.mem_of_getElem? (i := 1080) (by decide +kernel), List.mem_of_getElem? (i := 1081) (by decide +kernel)⟩
theorem lw_p50 : lw_okq (⟨"FlowFabricModel", "flood", "(IIIII)V"⟩, 44) := ⟨⟨by decide +kernel, by decide +kernel⟩, List.mem_of_getElem? (i := 815) (by decide +kernel), List.mem_of_getElem? (i := 1084) (by decide +kernel), List.mem_of_getElem? (i := 1085) (by decide +kernel)⟩
theorem lw_p51 : lw_okq (⟨"FlowFabricModel", "search", "(I)Z"⟩, 44) := ⟨⟨by decide +kernel, by decide +kernel⟩, List.mem_of_getElem? (i := 815) (by decide +kernel), List.mem_of_getElem? (i := 1088) (by decide +kernel), List.mem_of_getElem? (i := 1089) (by decide +kernel)⟩
theorem lw_p52 : lw_okq (⟨"FlowFabricModel", "isWay", "(IIII)Z"⟩, 44) := ⟨⟨by decide +kernel, by decide +kernel⟩, List.mem_of_getElem? (i := 815) (by decide +kernel), List.mem_of_getElem? (i := 1092) (by decide +kernel), List.mem_of_getElem? (i := 1093) (by decide +kernel)⟩
theorem lw_p53 : lw_okq (⟨"FlowFabricModel", "leads", "(II)I"⟩, 44) := ⟨⟨by decide +kernel, by decide +kernel⟩, List.mem_of_getElem? (i := 815) (by decide +kernel), List.mem_of_getElem? (i := 1096) (by decide +kernel), List.mem_of_getElem? (i := 1097) (by decide +kernel)⟩
theorem lw_p54 : lw_okq (⟨"FlowFabricModel", "lay", "(I)V"⟩, 44) := ⟨⟨by decide +kernel, by decide +kernel⟩, List.mem_of_getElem? (i := 815) (by decide +kernel), List.mem_of_getElem? (i := 1100) (by decide +kernel), List.mem_of_getElem? (i := 1101) (by decide +kernel)⟩
theorem lw_p55 : lw_okq (⟨"FlowFabricModel", "lead", "(II)V"⟩, 44) := ⟨⟨by decide +kernel, by decide +kernel⟩, List.mem_of_getElem? (i := 815) (by decide +kernel), List.mem_of_getElem? (i := 1104) (by decide +kernel), List.mem_of_getElem? (i := 1105) (by decide +kernel)⟩
theorem lw_p56 : lw_okq (⟨"FlowFabricModel", "seen", "(II)V"⟩, 44) := ⟨⟨by decide +kernel, by decide +kernel⟩, List.mem_of_getElem? (i := 815) (by decide +kernel), List.mem_of_getElem? (i := 1108) (by decide +kernel), List.mem_of_getElem? (i := 1109) (by decide +kernel)⟩
theorem lw_p57 : lw_okq (⟨"FlowFabricModel", "portOf", "(II)I"⟩, 44) := ⟨⟨by decide +kernel, by decide +kernel⟩, List.mem_of_getElem? (i := 815) (by decide +kernel), List.mem_of_getElem? (i := 1112) (by decide +kernel), List.mem_of_getElem? (i := 1113) (by decide +kernel)⟩
theorem lw_p58 : lw_okq (⟨"FlowFabricModel", "done", "(I)V"⟩, 44) := ⟨⟨by decide +kernel, by decide +kernel⟩, List.mem_of_getElem? (i := 815) (by decide +kernel), List.mem_of_getElem? (i := 1116) (by decide +kernel), List.mem_of_getElem? (i := 1117) (by decide +kernel)⟩
theorem lw_p59 : lw_okq (⟨"FlowFabricModel", "cleared", "(I)V"⟩, 44) := ⟨⟨by decide +kernel, by decide +kernel⟩, List.mem_of_getElem? (i := 815) (by decide +kernel), List.mem_of_getElem? (i := 1120) (by decide +kernel), List.mem_of_getElem? (i := 1121) (by decide +kernel)⟩
theorem lw_p60 : lw_okq (⟨"FlowFabricModel", "drop", "(I)V"⟩, 44) := ⟨⟨by decide +kernel, by decide +kernel⟩, List.mem_of_getElem? (i := 815) (by decide +kernel), List.mem_of_getElem? (i := 1124) (by decide +kernel), List.mem_of_getElem? (i := 1125) (by decide +kernel)⟩
theorem lw_p61 : lw_okq (⟨"FlowFabricModel", "led", "(I)V"⟩, 44) := ⟨⟨by decide +kernel, by decide +kernel⟩, List.mem_of_getElem? (i := 815) (by decide +kernel), List.mem_of_getElem? (i := 1128) (by decide +kernel), List.mem_of_getElem? (i := 1129) (by decide +kernel)⟩
theorem lw_p62 : lw_okq (⟨"FlowFabricModel", "down", "(I)V"⟩, 44) := ⟨⟨by decide +kernel, by decide +kernel⟩, List.mem_of_getElem? (i := 815) (by decide +kernel), List.mem_of_getElem? (i := 1132) (by decide +kernel), List.mem_of_getElem? (i := 1133) (by decide +kernel)⟩
theorem lw_p63 : lw_okq (⟨"FlowFabricModel", "passes", "(II)Z"⟩, 44) := ⟨⟨by decide +kernel, by decide +kernel⟩, List.mem_of_getElem? (i := 815) (by decide +kernel), List.mem_of_getElem? (i := 1136) (by decide +kernel), List.mem_of_getElem? (i := 1137) (by decide +kernel)⟩
def lw_privs_4 : List (MethodName × Nat) := [(⟨"FlowFabricModel", "keep", "(II)V"⟩, 44), (⟨"FlowFabricModel", "clear", "(I)V"⟩, 44), (⟨"FlowFabricModel", "flood", "(IIIII)V"⟩, 44), (⟨"FlowFabricModel", "search", "(I)Z"⟩, 44), (⟨"FlowFabricModel", "isWay", "(IIII)Z"⟩, 44), (⟨"FlowFabricModel", "leads", "(II)I"⟩, 44), (⟨"FlowFabricModel", "lay", "(I)V"⟩, 44), (⟨"FlowFabricModel", "lead", "(II)V"⟩, 44), (⟨"FlowFabricModel", "seen", "(II)V"⟩, 44), (⟨"FlowFabricModel", "portOf", "(II)I"⟩, 44), (⟨"FlowFabricModel", "done", "(I)V"⟩, 44), (⟨"FlowFabricModel", "cleared", "(I)V"⟩, 44), (⟨"FlowFabricModel", "drop", "(I)V"⟩, 44), (⟨"FlowFabricModel", "led", "(I)V"⟩, 44), (⟨"FlowFabricModel", "down", "(I)V"⟩, 44), (⟨"FlowFabricModel", "passes", "(II)Z"⟩, 44)]
theorem lw_r4 : ∀ q ∈ lw_privs_4, lw_okq q := List.forall_mem_cons.mpr ⟨lw_p48, List.forall_mem_cons.mpr ⟨lw_p49, List.forall_mem_cons.mpr ⟨lw_p50, List.forall_mem_cons.mpr ⟨lw_p51, List.forall_mem_cons.mpr ⟨lw_p52, List.forall_mem_cons.mpr ⟨lw_p53, List.forall_mem_cons.mpr ⟨lw_p54, List.forall_mem_cons.mpr ⟨lw_p55, List.forall_mem_cons.mpr ⟨lw_p56, List.forall_mem_cons.mpr ⟨lw_p57, List.forall_mem_cons.mpr ⟨lw_p58, List.forall_mem_cons.mpr ⟨lw_p59, List.forall_mem_cons.mpr ⟨lw_p60, List.forall_mem_cons.mpr ⟨lw_p61, List.forall_mem_cons.mpr ⟨lw_p62, List.forall_mem_cons.mpr ⟨lw_p63, fun _ h => absurd h List.not_mem_nil⟩⟩⟩⟩⟩⟩⟩⟩⟩⟩⟩⟩⟩⟩⟩⟩
def lw_privs : List (MethodName × Nat) := lw_privs_1 ++ (lw_privs_2 ++ (lw_privs_3 ++ (lw_privs_4)))
def lw_tbl : List Cond := k2_sels lw_privs ++ tables_1
theorem lw_privs_ok : ∀ q ∈ lw_privs, lw_okq q := by
  show ∀ q ∈ lw_privs_1 ++ (lw_privs_2 ++ (lw_privs_3 ++ (lw_privs_4))), lw_okq q
  exact List.forall_mem_append.mpr ⟨lw_r1, List.forall_mem_append.mpr ⟨lw_r2, List.forall_mem_append.mpr ⟨lw_r3, lw_r4⟩⟩⟩
/-- the words that every call carries on -/
def am_good (w : Cond) : Bool := w.onTables && w.keeps
def am_wz : List Cond := lw_tbl.filter am_good
theorem am_wz_good (w : Cond) (h : w ∈ am_wz) : (w.onTables && w.keeps) = true := (List.mem_filter.mp h).2
theorem am_in {w : Cond} (h : w ∈ tables_1) (hg : am_good w = true) : w ∈ am_wz := List.mem_filter.mpr ⟨List.mem_append_right _ h, hg⟩
theorem am_in1 {w : Cond} (i : Nat) (h : tables_1_1[i]? = some w) (hg : am_good w = true) : w ∈ am_wz := am_in (List.mem_append_left _ (List.mem_of_getElem? h)) hg
theorem am_in2 {w : Cond} (i : Nat) (h : tables_1_2[i]? = some w) (hg : am_good w = true) : w ∈ am_wz := am_in (List.mem_append_right _ (List.mem_append_left _ (List.mem_of_getElem? h))) hg
theorem am_in3 {w : Cond} (i : Nat) (h : tables_1_3[i]? = some w) (hg : am_good w = true) : w ∈ am_wz := am_in (List.mem_append_right _ (List.mem_append_right _ (List.mem_append_left _ (List.mem_of_getElem? h)))) hg
theorem am_in4 {w : Cond} (i : Nat) (h : tables_1_4[i]? = some w) (hg : am_good w = true) : w ∈ am_wz := am_in (List.mem_append_right _ (List.mem_append_right _ (List.mem_append_right _ (List.mem_append_left _ (List.mem_of_getElem? h))))) hg
theorem am_in5 {w : Cond} (i : Nat) (h : tables_1_5[i]? = some w) (hg : am_good w = true) : w ∈ am_wz := am_in (List.mem_append_right _ (List.mem_append_right _ (List.mem_append_right _ (List.mem_append_right _ (List.mem_of_getElem? h))))) hg
theorem am_inS {w : Cond} (h : w ∈ k2_sels lw_privs) (hg : am_good w = true) : w ∈ am_wz := List.mem_filter.mpr ⟨List.mem_append_left _ h, hg⟩
def am_lFF : List (String × String × String × Bool) := [("FlowFabric", "idle", "I", true), ("FlowFabric", "nodes", "[LFlowFabric$Node;", true), ("FlowFabric", "hosts", "[LFlowFabric$Host;", true), ("FlowFabric", "controller", "LFlowFabric$Controller;", true), ("FlowFabric", "hostCount", "I", false), ("FlowFabric", "now", "I", false)]
def am_qFF : vw_C := ("FlowFabric", (fun k => am_lFF.getD k ("", "", "", false)), 6)
abbrev am_cFF : Nat := 0
def am_lNd : List (String × String × String × Bool) := [("FlowFabric$Node", "number", "I", true), ("FlowFabric$Node", "room", "I", true), ("FlowFabric$Node", "ports", "[LFlowFabric$Port;", true), ("FlowFabric$Node", "guards", "Ljava/util/ArrayList;", true), ("FlowFabric$Node", "rules", "Ljava/util/ArrayList;", true), ("FlowFabric$Node", "orders", "Ljava/util/ArrayList;", true), ("FlowFabric$Node", "reports", "Ljava/util/ArrayList;", true)]
def am_qNd : vw_C := ("FlowFabric$Node", (fun k => am_lNd.getD k ("", "", "", false)), 7)
abbrev am_cNd : Nat := 1
def am_lPt : List (String × String × String × Bool) := [("FlowFabric$Port", "wire", "Ljava/util/ArrayList;", true), ("FlowFabric$Port", "host", "LFlowFabric$Host;", false), ("FlowFabric$Port", "otherEnd", "I", false), ("FlowFabric$Port", "up", "Z", false)]
def am_qPt : vw_C := ("FlowFabric$Port", (fun k => am_lPt.getD k ("", "", "", false)), 4)
abbrev am_cPt : Nat := 2
def am_lHo : List (String × String × String × Bool) := [("FlowFabric$Host", "number", "I", true), ("FlowFabric$Host", "node", "I", true), ("FlowFabric$Host", "port", "I", true), ("FlowFabric$Host", "takenCount", "I", false), ("FlowFabric$Host", "latestNumber", "I", false), ("FlowFabric$Host", "latestFrom", "I", false)]
def am_qHo : vw_C := ("FlowFabric$Host", (fun k => am_lHo.getD k ("", "", "", false)), 6)
abbrev am_cHo : Nat := 3
def am_lCt : List (String × String × String × Bool) := [("FlowFabric$Controller", "nodes", "[LFlowFabric$Node;", true), ("FlowFabric$Controller", "otherEnds", "[I", true), ("FlowFabric$Controller", "marked", "[Z", true), ("FlowFabric$Controller", "places", "[I", true), ("FlowFabric$Controller", "courses", "Ljava/util/ArrayList;", true), ("FlowFabric$Controller", "steps", "[I", true), ("FlowFabric$Controller", "waves", "I", false)]
def am_qCt : vw_C := ("FlowFabric$Controller", (fun k => am_lCt.getD k ("", "", "", false)), 7)
abbrev am_cCt : Nat := 4
def am_lCo : List (String × String × String × Bool) := [("FlowFabric$Course", "from", "I", true), ("FlowFabric$Course", "to", "I", true), ("FlowFabric$Course", "state", "I", false), ("FlowFabric$Course", "way", "[I", false), ("FlowFabric$Course", "kept", "LFlowFabric$Datagram;", false), ("FlowFabric$Course", "wave", "I", false), ("FlowFabric$Course", "awaited", "I", false), ("FlowFabric$Course", "ledTo", "I", false)]
def am_qCo : vw_C := ("FlowFabric$Course", (fun k => am_lCo.getD k ("", "", "", false)), 8)
abbrev am_cCo : Nat := 5
def am_lDg : List (String × String × String × Bool) := [("FlowFabric$Datagram", "from", "I", true), ("FlowFabric$Datagram", "to", "I", true), ("FlowFabric$Datagram", "number", "I", true)]
def am_qDg : vw_C := ("FlowFabric$Datagram", (fun k => am_lDg.getD k ("", "", "", false)), 3)
abbrev am_cDg : Nat := 6
def am_lFr : List (String × String × String × Bool) := [("FlowFabric$Frame", "datagram", "LFlowFabric$Datagram;", true), ("FlowFabric$Frame", "origin", "I", true)]
def am_qFr : vw_C := ("FlowFabric$Frame", (fun k => am_lFr.getD k ("", "", "", false)), 2)
abbrev am_cFr : Nat := 7
def am_lGd : List (String × String × String × Bool) := [("FlowFabric$Guard", "priority", "I", true), ("FlowFabric$Guard", "match", "I", true), ("FlowFabric$Guard", "verdict", "I", true), ("FlowFabric$Guard", "hits", "I", false)]
def am_qGd : vw_C := ("FlowFabric$Guard", (fun k => am_lGd.getD k ("", "", "", false)), 4)
abbrev am_cGd : Nat := 8
def am_lMs : List (String × String × String × Bool) := [("FlowFabric$Message", "code", "I", true), ("FlowFabric$Message", "value", "I", true), ("FlowFabric$Message", "from", "I", true), ("FlowFabric$Message", "to", "I", true), ("FlowFabric$Message", "number", "I", true)]
def am_qMs : vw_C := ("FlowFabric$Message", (fun k => am_lMs.getD k ("", "", "", false)), 5)
abbrev am_cMs : Nat := 9
def am_lRl : List (String × String × String × Bool) := [("FlowFabric$Rule", "from", "I", true), ("FlowFabric$Rule", "to", "I", true), ("FlowFabric$Rule", "port", "I", true), ("FlowFabric$Rule", "made", "I", true), ("FlowFabric$Rule", "last", "I", false), ("FlowFabric$Rule", "uses", "I", false)]
def am_qRl : vw_C := ("FlowFabric$Rule", (fun k => am_lRl.getD k ("", "", "", false)), 6)
abbrev am_cRl : Nat := 10
def am_lM : List (String × String × String × Bool) := [("FlowFabricModel", "switches", "I", true), ("FlowFabricModel", "room", "I", true), ("FlowFabricModel", "idle", "I", true), ("FlowFabricModel", "now", "I", false), ("FlowFabricModel", "use", "[I", true), ("FlowFabricModel", "mate", "[I", true), ("FlowFabricModel", "up", "[Z", true), ("FlowFabricModel", "hosts", "I", false), ("FlowFabricModel", "port", "[I", true), ("FlowFabricModel", "took", "[I", true), ("FlowFabricModel", "tookNumber", "[I", true), ("FlowFabricModel", "tookFrom", "[I", true), ("FlowFabricModel", "onWire", "[I", true), ("FlowFabricModel", "wire", "[I", true), ("FlowFabricModel", "guards", "[I", true), ("FlowFabricModel", "priority", "[I", true), ("FlowFabricModel", "match", "[I", true), ("FlowFabricModel", "verdict", "[I", true), ("FlowFabricModel", "hits", "[I", true), ("FlowFabricModel", "rules", "[I", true), ("FlowFabricModel", "rulePair", "[I", true), ("FlowFabricModel", "rulePort", "[I", true), ("FlowFabricModel", "ruleUses", "[I", true), ("FlowFabricModel", "ruleMade", "[I", true), ("FlowFabricModel", "ruleLast", "[I", true), ("FlowFabricModel", "listed", "[I", true), ("FlowFabricModel", "items", "[I", true), ("FlowFabricModel", "item", "[I", true), ("FlowFabricModel", "other", "[I", true), ("FlowFabricModel", "marked", "[Z", true), ("FlowFabricModel", "placeOf", "[I", true), ("FlowFabricModel", "waves", "I", false), ("FlowFabricModel", "courses", "I", false), ("FlowFabricModel", "coursePair", "[I", true), ("FlowFabricModel", "courseState", "[I", true), ("FlowFabricModel", "courseWave", "[I", true), ("FlowFabricModel", "courseWaits", "[I", true), ("FlowFabricModel", "courseLed", "[I", true), ("FlowFabricModel", "courseSize", "[I", true), ("FlowFabricModel", "courseWay", "[I", true), ("FlowFabricModel", "keeps", "[Z", true), ("FlowFabricModel", "keptNumber", "[I", true), ("FlowFabricModel", "found", "I", false), ("FlowFabricModel", "way", "[I", true)]
def am_qM : vw_C := ("FlowFabricModel", (fun k => am_lM.getD k ("", "", "", false)), 44)
abbrev am_cM : Nat := 11
def am_lAL : List (String × String × String × Bool) := [("java/util/AbstractList", "modCount", "I", false), ("java/util/ArrayList", "elementData", "[Ljava/lang/Object;", false), ("java/util/ArrayList", "size", "I", false)]
def am_qAL : vw_C := ("java/util/ArrayList", (fun k => am_lAL.getD k ("", "", "", false)), 3)
abbrev am_cAL : Nat := 12
def am_cl : List vw_C := [am_qFF, am_qNd, am_qPt, am_qHo, am_qCt, am_qCo, am_qDg, am_qFr, am_qGd, am_qMs, am_qRl, am_qM, am_qAL]
/-- a class of the table: its words are there, its fields' types are known, their names differ -/
def am_clOK (q : vw_C) : Prop := (∀ w ∈ u_ws q.1 q.2.1 q.2.2, w ∈ am_wz) ∧ (∀ j, j < q.2.2 → (parseFieldDescriptor (q.2.1 j).2.2.1).isSome = true) ∧ ∀ a, a < q.2.2 → ∀ b, b < q.2.2 → a ≠ b → (q.2.1 a).2.1 ≠ (q.2.1 b).2.1
def am_clB (q : vw_C) : Bool := (u_ws q.1 q.2.1 q.2.2).all (fun w => tables_1.contains w && am_good w) && ((List.range q.2.2).all (fun j => (parseFieldDescriptor (q.2.1 j).2.2.1).isSome) && (List.range q.2.2).all (fun a => (List.range q.2.2).all (fun b => a == b || (q.2.1 a).2.1 != (q.2.1 b).2.1)))
theorem am_clB_ok {q : vw_C} (h : am_clB q = true) : am_clOK q := by
  unfold am_clB at h
  simp only [Bool.and_eq_true, List.all_eq_true, List.mem_range, Bool.or_eq_true, beq_iff_eq, bne_iff_ne] at h
  obtain ⟨h1, h2, h3⟩ := h
  refine ⟨fun w hw => am_in (List.contains_iff_mem.mp (h1 w hw).1) (h1 w hw).2, h2, fun a ha b hb hne => ?_⟩
  rcases h3 a ha b hb with h | h
  · exact absurd h hne
  · exact h
theorem am_okFF : am_clOK am_qFF := am_clB_ok (by decide +kernel)
theorem am_okNd : am_clOK am_qNd := am_clB_ok (by decide +kernel)
theorem am_okPt : am_clOK am_qPt := am_clB_ok (by decide +kernel)
theorem am_okHo : am_clOK am_qHo := am_clB_ok (by decide +kernel)
theorem am_okCt : am_clOK am_qCt := am_clB_ok (by decide +kernel)
theorem am_okCo : am_clOK am_qCo := am_clB_ok (by decide +kernel)
theorem am_okDg : am_clOK am_qDg := am_clB_ok (by decide +kernel)
theorem am_okFr : am_clOK am_qFr := am_clB_ok (by decide +kernel)
theorem am_okGd : am_clOK am_qGd := am_clB_ok (by decide +kernel)
theorem am_okMs : am_clOK am_qMs := am_clB_ok (by decide +kernel)
theorem am_okRl : am_clOK am_qRl := am_clB_ok (by decide +kernel)
theorem am_okM : am_clOK am_qM := am_clB_ok (by decide +kernel)
theorem am_okAL : am_clOK am_qAL := am_clB_ok (by decide +kernel)
theorem am_cl_ok (ci : Nat) (q : vw_C) (h : am_cl[ci]? = some q) : am_clOK q := by
  have hm := List.mem_of_getElem? h
  simp only [am_cl, List.mem_cons, List.not_mem_nil, or_false] at hm
  rcases hm with rfl | rfl | rfl | rfl | rfl | rfl | rfl | rfl | rfl | rfl | rfl | rfl | rfl
  · exact am_okFF
  · exact am_okNd
  · exact am_okPt
  · exact am_okHo
  · exact am_okCt
  · exact am_okCo
  · exact am_okDg
  · exact am_okFr
  · exact am_okGd
  · exact am_okMs
  · exact am_okRl
  · exact am_okM
  · exact am_okAL
def am_ak : List FieldType := [.int, .boolean, .object "java/lang/Object", .object "FlowFabric$Node", .object "FlowFabric$Port", .object "FlowFabric$Host"]
abbrev am_kI : Nat := 0
theorem am_kI_ok : am_ak[am_kI]? = some (.int) := rfl
abbrev am_kZ : Nat := 1
theorem am_kZ_ok : am_ak[am_kZ]? = some (.boolean) := rfl
abbrev am_kO : Nat := 2
theorem am_kO_ok : am_ak[am_kO]? = some (.object "java/lang/Object") := rfl
abbrev am_kN : Nat := 3
theorem am_kN_ok : am_ak[am_kN]? = some (.object "FlowFabric$Node") := rfl
abbrev am_kP : Nat := 4
theorem am_kP_ok : am_ak[am_kP]? = some (.object "FlowFabric$Port") := rfl
abbrev am_kH : Nat := 5
theorem am_kH_ok : am_ak[am_kH]? = some (.object "FlowFabric$Host") := rfl
def am_nF : List (String × Nat × String × String × String × String) := [("FlowFabric$Controller", 176, "FlowFabric", "NO_WAY", "[I", "FlowFabric"), ("FlowFabric$Course", 21, "FlowFabric", "NO_WAY", "[I", "FlowFabric")]
def am_nM : List (String × Nat × MethodName × String) := [("FlowFabric$Node", 187, ⟨"FlowFabric", "endOf", "(II)I"⟩, "FlowFabric"), ("FlowFabric$Controller", 62, ⟨"FlowFabric", "endOf", "(II)I"⟩, "FlowFabric"), ("FlowFabric$Controller", 187, ⟨"FlowFabric", "switchOf", "(I)I"⟩, "FlowFabric"), ("FlowFabric$Controller", 205, ⟨"FlowFabric", "portOf", "(I)I"⟩, "FlowFabric"), ("FlowFabric$Course", 41, ⟨"FlowFabric", "switchOf", "(I)I"⟩, "FlowFabric")]
def am_nC : List (String × String) := [("FlowFabric$Guard", "FlowFabric$Guard"), ("FlowFabric$Rule", "FlowFabric$Rule"), ("FlowFabric$Frame", "FlowFabric$Frame"), ("FlowFabric$Message", "FlowFabric$Message"), ("FlowFabric$Course", "FlowFabric$Course"), ("FlowFabric", "java/lang/Object"), ("FlowFabric$Node", "java/lang/Object"), ("FlowFabric$Port", "java/lang/Object"), ("FlowFabric$Controller", "java/lang/Object"), ("FlowFabricModel", "java/lang/Object"), ("FlowFabric$Host", "java/lang/Object"), ("FlowFabric$Message", "java/lang/Object"), ("FlowFabric$Guard", "java/lang/Object"), ("FlowFabric$Datagram", "java/lang/Object"), ("FlowFabric$Frame", "java/lang/Object"), ("FlowFabric$Rule", "java/lang/Object"), ("FlowFabric$Course", "java/lang/Object")]
def am_nO : List String := ["FlowFabric$Node", "FlowFabric$Port", "FlowFabric$Host", "java/lang/Object"]
end
section
/-! A logic of my own over the kit's W: the heap is seen as a pure store. A cell of the store: an array (number of its kind, its places) or an object (number of its class, its fields). The store: cells by address, and the next free address. Everything below speaks of am_cl (classes), am_ak (kinds of arrays), am_wz (words), am_nF, am_nM, am_nC, am_nO (words that the calls can't carry), which part 01 gives. -/
abbrev am_K : Type := (Nat × List Value) ⊕ (Nat × List Value)
/-- cells by address, each with a ghost tag (0: never written again); the next free address; how many slots were made -/
abbrev am_S : Type := (Nat → Option (Nat × am_K)) × Nat × Nat
/-- fixed for a run: the launch, the layout of objects, the classes of arrays, the heap at the start, what static fields hold, and the class object of Object[] -/
abbrev am_G : Type := Launch × va_G × (Nat → ClassId) × Heap × List (String × String × String × Value) × Nat
abbrev am_G.lay (g : am_G) : va_G := g.2.1
abbrev am_G.arr (g : am_G) : Nat → ClassId := g.2.2.1
abbrev am_G.old (g : am_G) : Heap := g.2.2.2.1
abbrev am_G.sta (g : am_G) : List (String × String × String × Value) := g.2.2.2.2.1
abbrev am_G.mir (g : am_G) : Nat := g.2.2.2.2.2
def am_cell (cA : ClassId) (vs : List Value) : Cell := { cls := cA, slots := vs.toArray, vm := .none }
def am_at (g : am_G) (a : Nat) (x : am_K) (H : Heap) : Prop := match x with
  | .inl r => H[a]? = some (am_cell (g.arr r.1) r.2)
  | .inr o => ∃ q : vw_C, am_cl[o.1]? = some q ∧ o.2.length = q.2.2 ∧ t_OB a (g.lay.1 o.1) q.2.2 (g.lay.2 o.1) H (vp_V o.2)
def am_R (g : am_G) (S : am_S) (H : Heap) : Prop := H.size = S.2.1 ∧ g.old.size ≤ H.size ∧ (∀ q : Nat, q < g.old.size → H[q]? = g.old[q]?) ∧ (∀ (a t : Nat) (x : am_K), S.1 a = some (t, x) → am_at g a x H) ∧ ∀ (a t : Nat) (x : am_K), S.1 a = some (t, x) → t ≠ 0 → g.old.size ≤ a
def am_up (S : am_S) (a t : Nat) (x : am_K) : am_S := (fun q => if q = a then some (t, x) else S.1 q, S.2)
def am_mk (S : am_S) (t z : Nat) (x : am_K) : am_S := (fun q => if q = S.2.1 then some (t, x) else S.1 q, S.2.1 + 1, S.2.2 + z)
theorem am_up_at (S : am_S) (a t : Nat) (x : am_K) : (am_up S a t x).1 a = some (t, x) := by simp [am_up]
theorem am_up_ne (S : am_S) {a q : Nat} (t : Nat) (x : am_K) (h : q ≠ a) : (am_up S a t x).1 q = S.1 q := by simp [am_up, h]
theorem am_mk_at (S : am_S) (t z : Nat) (x : am_K) : (am_mk S t z x).1 S.2.1 = some (t, x) := by simp [am_mk]
theorem am_mk_ne (S : am_S) {q : Nat} (t z : Nat) (x : am_K) (h : q ≠ S.2.1) : (am_mk S t z x).1 q = S.1 q := by simp [am_mk, h]
theorem am_at.lt {g : am_G} {a : Nat} {x : am_K} {H : Heap} (h : am_at g a x H) : a < H.size := by
  cases x with
  | inl r => exact (Array.getElem?_eq_some_iff.mp h).1
  | inr o =>
    obtain ⟨q, -, -, cell, h1, -⟩ := h
    exact (Array.getElem?_eq_some_iff.mp h1).1
theorem am_at.kept {g : am_G} {a : Nat} {x : am_K} {H H1 : Heap} (h : am_at g a x H) (e : H1[a]? = H[a]?) : am_at g a x H1 := by
  cases x with
  | inl r => exact e.trans h
  | inr o =>
    obtain ⟨q, h1, h2, h3⟩ := h
    exact ⟨q, h1, h2, h3.kept e⟩
/-- one cell has changed -/
theorem am_R.put {g : am_G} {S : am_S} {H H1 : Heap} {a : Nat} (t : Nat) {x : am_K} (h : am_R g S H) (ha : g.old.size ≤ a) (z : H1.size = H.size) (hq : ∀ q : Nat, q ≠ a → H1[q]? = H[q]?) (hx : am_at g a x H1) : am_R g (am_up S a t x) H1 := by
  obtain ⟨h1, h2, h3, h4, h5⟩ := h
  refine ⟨by rw [z]; exact h1, by rw [z]; exact h2, fun q hl => ?_, fun q u y hy => ?_, fun q u y hy hu => ?_⟩
  · rw [hq q (by omega)]; exact h3 q hl
  · by_cases e : q = a
    · subst e
      rw [am_up_at] at hy
      cases hy
      exact hx
    · rw [am_up_ne S t x e] at hy
      exact (h4 q u y hy).kept (hq q e)
  · by_cases e : q = a
    · subst e; exact ha
    · rw [am_up_ne S t x e] at hy
      exact h5 q u y hy hu
/-- one cell is new -/
theorem am_R.push {g : am_G} {S : am_S} {H H1 : Heap} (t n : Nat) {x : am_K} (h : am_R g S H) (z : H1.size = H.size + 1) (hq : ∀ q : Nat, q < H.size → H1[q]? = H[q]?) (hx : am_at g S.2.1 x H1) : am_R g (am_mk S t n x) H1 := by
  obtain ⟨h1, h2, h3, h4, h5⟩ := h
  refine ⟨by rw [z, h1]; rfl, by omega, fun q hl => ?_, fun q u y hy => ?_, fun q u y hy hu => ?_⟩
  · rw [hq q (by omega)]; exact h3 q hl
  · by_cases e : q = S.2.1
    · subst e
      rw [am_mk_at] at hy
      cases hy
      exact hx
    · rw [am_mk_ne S t n x e] at hy
      exact (h4 q u y hy).kept (hq q (h4 q u y hy).lt)
  · by_cases e : q = S.2.1
    · subst e; rw [← h1]; exact h2
    · rw [am_mk_ne S t n x e] at hy
      exact h5 q u y hy hu
/-- another tag -/
theorem am_R.tag {g : am_G} {S : am_S} {H : Heap} {a t : Nat} (t' : Nat) {x : am_K} (h : am_R g S H) (ha : S.1 a = some (t, x)) (ht : t ≠ 0) : am_R g (am_up S a t' x) H :=
  h.put t' (h.2.2.2.2 a t x ha ht) rfl (fun _ _ => rfl) (h.2.2.2.1 a t x ha)
/-- what is known of the tables at a state -/
def am_T (g : am_G) (U : State) : Prop :=
  (∀ w ∈ am_wz, va_Nw w U) ∧ (∀ x ∈ am_nF, va_Nw (.fieldLinkNest x.1 x.2.1 x.2.2.1 x.2.2.2.1 x.2.2.2.2.1 x.2.2.2.2.2) U) ∧ (∀ x ∈ am_nM, va_Nw (.methodLinkNest x.1 x.2.1 x.2.2.1 x.2.2.2) U) ∧ (∀ x ∈ am_nC, va_Nw (.castable x.1 x.2) U) ∧ (∀ x ∈ am_nO, va_AO x U) ∧
  (∀ (c : Nat) (q : vw_C), am_cl[c]? = some q → u_Kn U q.1 q.2.1 q.2.2 (g.lay.1 c) (g.lay.2 c)) ∧ (∀ (t : Nat) (ty : FieldType), am_ak[t]? = some ty → ArrOfT U (g.arr t) ty ∧ va_RA U (g.arr t) ty) ∧
  (∀ x ∈ g.sta, va_Z x.1 x.2.1 x.2.2.1 x.2.2.2 (fun q => g.old.size ≤ q) U g.old) ∧ va_Mi "[Ljava/lang/Object;" g.mir U ∧ va_Dc U
theorem am_T.warm {g : am_G} {s U : State} (hW : s.WarmedH U.vm) (h : am_T g s) : am_T g U := by
  obtain ⟨h1, h2, h3, h4, h5, h6, h7, h8, h9, h10⟩ := h
  refine ⟨fun w hw => ?_, fun x hx => (h2 x hx).warmF hW, fun x hx => (h3 x hx).warmM hW, fun x hx => (h4 x hx).warmC hW, fun x hx => (h5 x hx).moved hW.alike, fun c q hc => u_Kn_moved hW.alike (h6 c q hc), fun t ty ht => ⟨arrOfT_moved hW.alike (h7 t ty ht).1, (h7 t ty ht).2.moved hW.alike⟩, fun x hx => (h8 x hx).moved hW.alike, h9.moved hW.alike, h10.moved hW.alike⟩
  exact word_at (args := #[]) (a' := #[]) hW (Or.inl (am_wz_good w hw)) (h1 w hw)
theorem am_T.calling {g : am_G} {U : State} (h : am_T g U) (f : JFrame) (mk : MethodId) (a : Array Value) : am_T g (U.calling f mk a) := by
  obtain ⟨h1, h2, h3, h4, h5, h6, h7, h8, h9, h10⟩ := h
  have hA : U.vm.Alike (U.calling f mk a).vm := Vm.Alike.refl U.vm
  refine ⟨fun w hw => ?_, fun x hx => va_Nw.same rfl rfl (h2 x hx), fun x hx => va_Nw.same rfl rfl (h3 x hx), fun x hx => va_Nw.same rfl rfl (h4 x hx), fun x hx => (h5 x hx).moved hA, fun c q hc => u_Kn_moved hA (h6 c q hc), fun t ty ht => ⟨arrOfT_moved hA (h7 t ty ht).1, (h7 t ty ht).2.moved hA⟩, fun x hx => (h8 x hx).moved hA, h9.moved hA, h10.moved hA⟩
  have hg := am_wz_good w hw
  simp only [Bool.and_eq_true] at hg
  exact va_Nw.same (u := U) hg.1 rfl (h1 w hw)
theorem am_T.word {g : am_G} {s : State} (h : am_T g s) (args : Array Value) {w : Cond} (hw : w ∈ am_wz) : w.before args s = true := by
  have hg := am_wz_good w hw
  simp only [Bool.and_eq_true] at hg
  exact va_Nw.use hg.1 (h.1 w hw)
/-! locals: a list, a place for each -/
def am_L (ls : Array Slot) (nL : Nat) (L : List (Option Value)) : Prop := ls.size = nL ∧ lv_wf ls ∧ L.length = nL ∧ ∀ (i : Nat) (v : Value), L[i]? = some (some v) → ls[i]? = some (.val v) ∧ v.category = 1
def am_al (L : List (Option Value)) : List (Nat × Value) := (List.range L.length).filterMap (fun j => (L[j]?.join).map (fun v => (j, v)))
theorem am_al_mem {L : List (Option Value)} {j : Nat} {v : Value} : (j, v) ∈ am_al L ↔ L[j]? = some (some v) := by
  unfold am_al
  rw [List.mem_filterMap]
  constructor
  · rintro ⟨i, -, h⟩
    rw [Option.map_eq_some_iff] at h
    obtain ⟨w, h1, h2⟩ := h
    have e1 : i = j := congrArg Prod.fst h2
    have e2 : w = v := congrArg Prod.snd h2
    subst e1
    subst e2
    cases h3 : L[i]? with
    | none => rw [h3] at h1; cases h1
    | some o => rw [h3] at h1; exact congrArg some h1
  · intro h
    refine ⟨j, List.mem_range.mpr (List.getElem?_eq_some_iff.mp h).1, ?_⟩
    rw [h]; rfl
theorem am_L.has {ls : Array Slot} {nL : Nat} {L : List (Option Value)} (h : am_L ls nL L) : lv_has ls nL (am_al L) :=
  ⟨h.1, h.2.1, fun q hq => (h.2.2.2 q.1 q.2 (am_al_mem.mp hq)).1⟩
theorem am_L.st {ls ls' : Array Slot} {nL : Nat} {L : List (Option Value)} {i : Nat} {v : Value} (h : am_L ls nL L) (hi : i < nL) (hc : v.category = 1)
    (h' : lv_has ls' nL ((i, v) :: (am_al L).filter (fun q => !(q.1 == i) && !(q.1 + 1 == i && q.2.category == 2)))) : am_L ls' nL (L.set i (some v)) := by
  refine ⟨h'.1, h'.2.1, by rw [List.length_set]; exact h.2.2.1, fun j w hj => ?_⟩
  by_cases e : j = i
  · subst e
    rw [List.getElem?_set_self (by rw [h.2.2.1]; exact hi)] at hj
    cases hj
    exact ⟨h'.2.2 (j, v) List.mem_cons_self, hc⟩
  · rw [List.getElem?_set_ne (Ne.symm e)] at hj
    have hw := (h.2.2.2 j w hj).2
    refine ⟨h'.2.2 (j, w) (List.mem_cons_of_mem _ (List.mem_filter.mpr ⟨am_al_mem.mpr hj, ?_⟩)), hw⟩
    simp [e, hw]
/-- a reference or null -/
def am_rv (v : Value) : Prop := v = .null ∨ ∃ a, v = .ref a
theorem am_rvN : am_rv .null := Or.inl rfl
theorem am_rvR (a : Nat) : am_rv (.ref a) := Or.inr ⟨a, rfl⟩
/-- the end of a method -/
def am_Q (g : am_G) (v : Option Value) (S' : am_S) : Array Value → State → Outcome → State → Prop := fun _ _ o t => o = .returned v ∧ am_R g S' t.heap
/-- a method's constants: class, name, code, locals, answer -/
abbrev am_N : Type := String × String × ByteArray × Nat × Option FieldType
/-- all that a row knows: hexec, code, maxLocals, answer, no lock, own class, name; the tables; the budgets; what was written; the store; the locals -/
def am_Y (g : am_G) (y : am_N) (k n : Nat) (L : List (Option Value)) (S : am_S) (p : Program) (s : State) (m : MethodId) (meth : Method) (c : Code) (H : Heap) (locs : List Loc) (cells slots mc ms : Nat) (ls : Array Slot) : Prop :=
  p.tables.exec = Jvm.exec ∧ c.code = y.2.2.1 ∧ c.maxLocals = y.2.2.2.1 ∧ meth.sig.returnType = y.2.2.2.2 ∧ meth.locks = false ∧ s.vm.findClass y.1 = some m.cls ∧ meth.name = y.2.1 ∧ am_T g s ∧ cells + k ≤ mc ∧ slots + n ≤ ms ∧ (∀ q ∈ locs, g.old.size ≤ q.base) ∧ am_R g S H ∧ am_L ls y.2.2.2.1 L
/-- from here the method ends with this answer and this store, within k cells and n slots -/
def am_V (g : am_G) (y : am_N) (d lo k n : Nat) (v : Option Value) (S' : am_S) (pc : Nat) (L : List (Option Value)) (st : List Value) (S : am_S) : Prop :=
  ∀ (p : Program) (e : Env) (s : State) (m : MethodId) (args : Array Value) (below : List Frame) (meth : Method) (c : Code) (H : Heap) (locs : List Loc) (cells slots mc ms : Nat) (ls : Array Slot), am_Y g y k n L S p s m meth c H locs cells slots mc ms ls →
    W p g.1 e { frames := d, cells := mc, slots := ms, locals := lo } s m args below meth c H locs cells slots (MQ below (am_Q g v S') args s mc ms (fun q => g.old.size ≤ q)) (F0 m pc ls st)
/-- a method's contract at these arguments and this store: this answer, this store, within k cells and n slots -/
def am_N0 (g : am_G) (y : am_N) (desc : String) (d lo k n : Nat) (vs : List Value) (S : am_S) (v : Option Value) (S' : am_S) : Prop :=
  Met g.1 ⟨y.1, y.2.1, desc⟩ [.code ⟨y.1, y.2.1, desc⟩ y.2.2.1 y.2.2.2.1 y.2.2.2.2] { frames := d, cells := k, slots := n, locals := lo } (va_Pc vs (fun U => am_T g U ∧ am_R g S U.heap)) (am_Q g v S') k n (fun q => g.old.size ≤ q)
/-- the judgement: from here the method ends, with 'post' of its answer and of the store; what it makes is what the store's counters say -/
def am_W (g : am_G) (y : am_N) (d lo : Nat) (post : Option Value → am_S → Prop) (pc : Nat) (L : List (Option Value)) (st : List Value) (S : am_S) : Prop :=
  ∃ (v : Option Value) (S' : am_S), S.2.1 ≤ S'.2.1 ∧ S.2.2 ≤ S'.2.2 ∧ am_V g y d lo (S'.2.1 - S.2.1) (S'.2.2 - S.2.2) v S' pc L st S ∧ post v S'
def am_M (g : am_G) (y : am_N) (desc : String) (d lo : Nat) (vs : List Value) (S : am_S) (post : Option Value → am_S → Prop) : Prop :=
  ∃ (v : Option Value) (S' : am_S), S.2.1 ≤ S'.2.1 ∧ S.2.2 ≤ S'.2.2 ∧ am_N0 g y desc d lo (S'.2.1 - S.2.1) (S'.2.2 - S.2.2) vs S v S' ∧ post v S'
/-- the locals as a method begins -/
def am_L0 (vs : List Value) (nL : Nat) : List (Option Value) := vs.map some ++ List.replicate (nL - vs.length) none
theorem am_L.entry (vs : List Value) {nL : Nat} (hc : ∀ v ∈ vs, v.category = 1) (h : vs.length ≤ nL) : am_L ((vs.map Slot.val ++ List.replicate (nL - vs.length) Slot.unset).toArray) nL (am_L0 vs nL) := by
  have e : lg_sl vs = vs.map Slot.val := by
    unfold lg_sl
    induction vs with
    | nil => rfl
    | cons v vs ih =>
      have h1 : ¬ v.category = 2 := by rw [hc v List.mem_cons_self]; decide
      rw [List.flatMap_cons, if_neg h1, ih (fun w hw => hc w (List.mem_cons_of_mem _ hw)) (by simp at h; omega)]
      rfl
  have hl : (lg_sl vs).length ≤ nL := by rw [e, List.length_map]; exact h
  obtain ⟨h1, h2, -⟩ := lv_entry vs hl
  rw [e, List.length_map] at h1 h2
  refine ⟨h1, h2, by simp [am_L0]; omega, fun i v hi => ?_⟩
  unfold am_L0 at hi
  by_cases hlt : i < vs.length
  · rw [List.getElem?_append_left (by simpa using hlt), List.getElem?_map] at hi
    cases hv : vs[i]? with
    | none => rw [hv] at hi; cases hi
    | some w =>
      rw [hv] at hi
      cases hi
      refine ⟨?_, hc _ (List.mem_of_getElem? hv)⟩
      rw [List.getElem?_toArray, List.getElem?_append_left (by simpa using hlt), List.getElem?_map, hv]
      rfl
  · rw [List.getElem?_append_right (by simpa using Nat.not_lt.mp hlt)] at hi
    have := List.mem_of_getElem? hi
    rw [List.mem_replicate] at this
    cases this.2
theorem am_M.of {g : am_G} {y : am_N} {desc : String} {d lo : Nat} {vs : List Value} {S : am_S} {post : Option Value → am_S → Prop} (hy : plainName y.1 = true) (hc : ∀ v ∈ vs, v.category = 1) (hl : vs.length ≤ y.2.2.2.1)
    (h : am_W g y d lo post 0 (am_L0 vs y.2.2.2.1) [] S) : am_M g y desc d lo vs S post := by
  obtain ⟨v, S', h1, h2, h3, h4⟩ := h
  refine ⟨v, S', h1, h2, ?_, h4⟩
  unfold am_N0
  refine Met.ofW (cc := y.2.2.1) (maxL := y.2.2.2.1) (ret := y.2.2.2.2) hy rfl ?_
  intro p e s m args below meth c s₁ B hml hv
  obtain ⟨rfl, hT, hR⟩ := hv
  rw [entry_eq m vs hc]
  exact h3 p e s m _ below meth c s.heap [] 0 0 _ _ _ ⟨B.exec, B.bytes, hml, B.returns, B.notSynchronized, findClass_of_methodNamed B.named, (name_of_methodNamed B.named B.method).1, hT, by omega, by omega, (fun _ h => by cases h), hR, am_L.entry vs hc hl⟩
theorem am_M.post {g : am_G} {y : am_N} {desc : String} {d lo : Nat} {vs : List Value} {S : am_S} {post post' : Option Value → am_S → Prop} (hp : ∀ v S', post v S' → post' v S') (h : am_M g y desc d lo vs S post) : am_M g y desc d lo vs S post' := by
  obtain ⟨v, S', h1, h2, h3, h4⟩ := h
  exact ⟨v, S', h1, h2, h3, hp v S' h4⟩
section AML
variable {g : am_G} {y : am_N} {d lo : Nat} {post post' : Option Value → am_S → Prop} {pc pc1 : Nat} {L L1 : List (Option Value)} {st st1 : List Value} {S S1 : am_S}
theorem am_post (hp : ∀ v S', post v S' → post' v S') (h : am_W g y d lo post pc L st S) : am_W g y d lo post' pc L st S := by
  obtain ⟨v, S', h1, h2, h3, h4⟩ := h
  exact ⟨v, S', h1, h2, h3, hp v S' h4⟩
/-- a row that makes nothing -/
theorem am_lift (e : S1.2 = S.2) (f : ∀ k n v S', am_V g y d lo k n v S' pc1 L1 st1 S1 → am_V g y d lo k n v S' pc L st S) (h : am_W g y d lo post pc1 L1 st1 S1) : am_W g y d lo post pc L st S := by
  obtain ⟨v, S', h1, h2, h3, h4⟩ := h
  rw [e] at h1 h2 h3
  exact ⟨v, S', h1, h2, f _ _ _ _ h3, h4⟩
/-- a row that makes a cell of z slots -/
theorem am_liftN {z : Nat} (e1 : S1.2.1 = S.2.1 + 1) (e2 : S1.2.2 = S.2.2 + z) (f : ∀ k n v S', am_V g y d lo k n v S' pc1 L1 st1 S1 → am_V g y d lo (k + 1) (n + z) v S' pc L st S) (h : am_W g y d lo post pc1 L1 st1 S1) : am_W g y d lo post pc L st S := by
  obtain ⟨v, S', h1, h2, h3, h4⟩ := h
  have h5 := f _ _ _ _ h3
  have a1 : S'.2.1 - S1.2.1 + 1 = S'.2.1 - S.2.1 := by omega
  have a2 : S'.2.2 - S1.2.2 + z = S'.2.2 - S.2.2 := by omega
  rw [a1, a2] at h5
  exact ⟨v, S', by omega, by omega, h5, h4⟩
/-- the end -/
theorem am_end {v : Option Value} (h : am_V g y d lo 0 0 v S pc L st S) (hp : post v S) : am_W g y d lo post pc L st S := by
  refine ⟨v, S, Nat.le_refl _, Nat.le_refl _, ?_, hp⟩
  rw [Nat.sub_self, Nat.sub_self]
  exact h
/-- what is forgotten of the locals -/
theorem am_drop (hl : L1.length = L.length) (hL : ∀ (i : Nat) (v : Value), L1[i]? = some (some v) → L[i]? = some (some v)) (h : am_W g y d lo post pc L1 st S) : am_W g y d lo post pc L st S := by
  refine am_lift rfl (fun k n v S' h => ?_) h
  intro p e s m args below meth c H locs cells slots mc ms ls Y
  obtain ⟨y1, y2, y3, y4, y5, y6, y7, y8, y9, y10, y11, y12, z1, z2, z3, z4⟩ := Y
  exact h p e s m args below meth c H locs cells slots mc ms ls ⟨y1, y2, y3, y4, y5, y6, y7, y8, y9, y10, y11, y12, z1, z2, by rw [hl]; exact z3, fun i v hi => z4 i v (hL i v hi)⟩
/-- a cell gets another tag -/
theorem am_retag {a t : Nat} {x : am_K} (t' : Nat) (ha : S.1 a = some (t, x)) (ht : t ≠ 0) (h : am_W g y d lo post pc L st (am_up S a t' x)) : am_W g y d lo post pc L st S := by
  refine am_lift (S1 := am_up S a t' x) rfl (fun k n v S' h => ?_) h
  intro p e s m args below meth c H locs cells slots mc ms ls Y
  obtain ⟨y1, y2, y3, y4, y5, y6, y7, y8, y9, y10, y11, y12, z⟩ := Y
  exact h p e s m args below meth c H locs cells slots mc ms ls ⟨y1, y2, y3, y4, y5, y6, y7, y8, y9, y10, y11, y12.tag t' ha ht, z⟩
end AML
/-- the instruction at a place, its length, and the place behind it -/
def am_D (c : ByteArray) (pc : Nat) (i : Instr) (len pc1 : Nat) : Prop := decode c pc = .ok (i, len) ∧ pc + len = pc1
section AMR
variable {g : am_G} {y : am_N} {d lo : Nat} {post : Option Value → am_S → Prop} {pc pc1 : Nat} {L L1 : List (Option Value)} {st : List Value} {S : am_S}
theorem am_iconst {z : Int} {v : Int32} (hd : am_D y.2.2.1 pc (.iconst z) 1 pc1) (hv : Int32.ofInt z = v) (h : am_W g y d lo post pc1 L (.int v :: st) S) : am_W g y d lo post pc L (st) S := by
  obtain ⟨hd, rfl⟩ := hd
  refine am_lift rfl (fun k n rv RS h => ?_) h
  intro p e s m args below meth c H locs cells slots mc ms ls Y
  exact lv_iconst Y.1 Y.2.1 hd hv (h p e s m args below meth c H locs cells slots mc ms ls Y)
theorem am_bipush {z : Int} {v : Int32} (hd : am_D y.2.2.1 pc (.bipush z) 2 pc1) (hv : (Int8.ofInt z).toInt32 = v) (h : am_W g y d lo post pc1 L (.int v :: st) S) : am_W g y d lo post pc L (st) S := by
  obtain ⟨hd, rfl⟩ := hd
  refine am_lift rfl (fun k n rv RS h => ?_) h
  intro p e s m args below meth c H locs cells slots mc ms ls Y
  exact lv_bipush Y.1 Y.2.1 hd hv (h p e s m args below meth c H locs cells slots mc ms ls Y)
theorem am_sipush {z : Int} {v : Int32} (hd : am_D y.2.2.1 pc (.sipush z) 3 pc1) (hv : (Int16.ofInt z).toInt32 = v) (h : am_W g y d lo post pc1 L (.int v :: st) S) : am_W g y d lo post pc L (st) S := by
  obtain ⟨hd, rfl⟩ := hd
  refine am_lift rfl (fun k n rv RS h => ?_) h
  intro p e s m args below meth c H locs cells slots mc ms ls Y
  exact lv_sipush Y.1 Y.2.1 hd hv (h p e s m args below meth c H locs cells slots mc ms ls Y)
theorem am_null (hd : am_D y.2.2.1 pc (.aconst_null) 1 pc1) (h : am_W g y d lo post pc1 L (.null :: st) S) : am_W g y d lo post pc L (st) S := by
  obtain ⟨hd, rfl⟩ := hd
  refine am_lift rfl (fun k n rv RS h => ?_) h
  intro p e s m args below meth c H locs cells slots mc ms ls Y
  exact lv_null Y.1 Y.2.1 hd (h p e s m args below meth c H locs cells slots mc ms ls Y)
theorem am_iload_n {j : Fin 4} {x : Int32} (hd : am_D y.2.2.1 pc (.iload_n j) 1 pc1) (hl : L[(j : Nat)]? = some (some (.int x))) (h : am_W g y d lo post pc1 L (.int x :: st) S) : am_W g y d lo post pc L st S := by
  obtain ⟨hd, rfl⟩ := hd
  refine am_lift rfl (fun k n rv RS h => ?_) h
  intro p e s m args below meth c H locs cells slots mc ms ls Y
  exact lv_iload_n Y.1 Y.2.1 hd rfl (Y.2.2.2.2.2.2.2.2.2.2.2.2.2.2.2 _ _ hl).1 (h p e s m args below meth c H locs cells slots mc ms ls Y)
theorem am_iload {j : Nat} {x : Int32} (hd : am_D y.2.2.1 pc (.iload j) 2 pc1) (hl : L[j]? = some (some (.int x))) (h : am_W g y d lo post pc1 L (.int x :: st) S) : am_W g y d lo post pc L st S := by
  obtain ⟨hd, rfl⟩ := hd
  refine am_lift rfl (fun k n rv RS h => ?_) h
  intro p e s m args below meth c H locs cells slots mc ms ls Y
  exact lv_iload Y.1 Y.2.1 hd (Y.2.2.2.2.2.2.2.2.2.2.2.2.2.2.2 _ _ hl).1 (h p e s m args below meth c H locs cells slots mc ms ls Y)
theorem am_aload_n {j : Fin 4} {v : Value} (hd : am_D y.2.2.1 pc (.aload_n j) 1 pc1) (hl : L[(j : Nat)]? = some (some v)) (hv : am_rv v) (h : am_W g y d lo post pc1 L (v :: st) S) : am_W g y d lo post pc L st S := by
  obtain ⟨hd, rfl⟩ := hd
  refine am_lift rfl (fun k n rv RS h => ?_) h
  intro p e s m args below meth c H locs cells slots mc ms ls Y
  rcases hv with rfl | ⟨a, rfl⟩
  · exact lv_aload_nN Y.1 Y.2.1 hd rfl (Y.2.2.2.2.2.2.2.2.2.2.2.2.2.2.2 _ _ hl).1 (h p e s m args below meth c H locs cells slots mc ms ls Y)
  · exact lv_aload_n Y.1 Y.2.1 hd rfl (Y.2.2.2.2.2.2.2.2.2.2.2.2.2.2.2 _ _ hl).1 (h p e s m args below meth c H locs cells slots mc ms ls Y)
theorem am_aload {j : Nat} {v : Value} (hd : am_D y.2.2.1 pc (.aload j) 2 pc1) (hl : L[j]? = some (some v)) (hv : am_rv v) (h : am_W g y d lo post pc1 L (v :: st) S) : am_W g y d lo post pc L st S := by
  obtain ⟨hd, rfl⟩ := hd
  refine am_lift rfl (fun k n rv RS h => ?_) h
  intro p e s m args below meth c H locs cells slots mc ms ls Y
  rcases hv with rfl | ⟨a, rfl⟩
  · exact lv_aloadN Y.1 Y.2.1 hd (Y.2.2.2.2.2.2.2.2.2.2.2.2.2.2.2 _ _ hl).1 (h p e s m args below meth c H locs cells slots mc ms ls Y)
  · exact lv_aload Y.1 Y.2.1 hd (Y.2.2.2.2.2.2.2.2.2.2.2.2.2.2.2 _ _ hl).1 (h p e s m args below meth c H locs cells slots mc ms ls Y)
theorem am_istore_n {j : Fin 4} {x : Int32} (hd : am_D y.2.2.1 pc (.istore_n j) 1 pc1) (hj : (j : Nat) < y.2.2.2.1) (hL : L.set (j : Nat) (some (.int x)) = L1) (h : am_W g y d lo post pc1 L1 st S) : am_W g y d lo post pc L (.int x :: st) S := by
  obtain ⟨hd, rfl⟩ := hd
  subst hL
  refine am_lift rfl (fun k n rv RS h => ?_) h
  intro p e s m args below meth c H locs cells slots mc ms ls Y
  refine lv_istore_n Y.1 Y.2.1 hd rfl Y.2.2.2.2.2.2.2.2.2.2.2.2.has hj rfl (fun ls' h' => ?_)
  exact h p e s m args below meth c H locs cells slots mc ms ls' ⟨Y.1, Y.2.1, Y.2.2.1, Y.2.2.2.1, Y.2.2.2.2.1, Y.2.2.2.2.2.1, Y.2.2.2.2.2.2.1, Y.2.2.2.2.2.2.2.1, Y.2.2.2.2.2.2.2.2.1, Y.2.2.2.2.2.2.2.2.2.1, Y.2.2.2.2.2.2.2.2.2.2.1, Y.2.2.2.2.2.2.2.2.2.2.2.1, (Y.2.2.2.2.2.2.2.2.2.2.2.2.st hj rfl h')⟩
theorem am_istore {j : Nat} {x : Int32} (hd : am_D y.2.2.1 pc (.istore j) 2 pc1) (hj : j < y.2.2.2.1) (hL : L.set j (some (.int x)) = L1) (h : am_W g y d lo post pc1 L1 st S) : am_W g y d lo post pc L (.int x :: st) S := by
  obtain ⟨hd, rfl⟩ := hd
  subst hL
  refine am_lift rfl (fun k n rv RS h => ?_) h
  intro p e s m args below meth c H locs cells slots mc ms ls Y
  refine lv_istore Y.1 Y.2.1 hd Y.2.2.2.2.2.2.2.2.2.2.2.2.has hj rfl (fun ls' h' => ?_)
  exact h p e s m args below meth c H locs cells slots mc ms ls' ⟨Y.1, Y.2.1, Y.2.2.1, Y.2.2.2.1, Y.2.2.2.2.1, Y.2.2.2.2.2.1, Y.2.2.2.2.2.2.1, Y.2.2.2.2.2.2.2.1, Y.2.2.2.2.2.2.2.2.1, Y.2.2.2.2.2.2.2.2.2.1, Y.2.2.2.2.2.2.2.2.2.2.1, Y.2.2.2.2.2.2.2.2.2.2.2.1, (Y.2.2.2.2.2.2.2.2.2.2.2.2.st hj rfl h')⟩
theorem am_astore_n {j : Fin 4} {v : Value} (hd : am_D y.2.2.1 pc (.astore_n j) 1 pc1) (hj : (j : Nat) < y.2.2.2.1) (hv : am_rv v) (hL : L.set (j : Nat) (some v) = L1) (h : am_W g y d lo post pc1 L1 st S) : am_W g y d lo post pc L (v :: st) S := by
  obtain ⟨hd, rfl⟩ := hd
  subst hL
  refine am_lift rfl (fun k n rv RS h => ?_) h
  intro p e s m args below meth c H locs cells slots mc ms ls Y
  rcases hv with rfl | ⟨a, rfl⟩
  · refine lv_astore_nN Y.1 Y.2.1 hd rfl Y.2.2.2.2.2.2.2.2.2.2.2.2.has hj rfl (fun ls' h' => ?_)
    exact h p e s m args below meth c H locs cells slots mc ms ls' ⟨Y.1, Y.2.1, Y.2.2.1, Y.2.2.2.1, Y.2.2.2.2.1, Y.2.2.2.2.2.1, Y.2.2.2.2.2.2.1, Y.2.2.2.2.2.2.2.1, Y.2.2.2.2.2.2.2.2.1, Y.2.2.2.2.2.2.2.2.2.1, Y.2.2.2.2.2.2.2.2.2.2.1, Y.2.2.2.2.2.2.2.2.2.2.2.1, (Y.2.2.2.2.2.2.2.2.2.2.2.2.st hj rfl h')⟩
  · refine lv_astore_n Y.1 Y.2.1 hd rfl Y.2.2.2.2.2.2.2.2.2.2.2.2.has hj rfl (fun ls' h' => ?_)
    exact h p e s m args below meth c H locs cells slots mc ms ls' ⟨Y.1, Y.2.1, Y.2.2.1, Y.2.2.2.1, Y.2.2.2.2.1, Y.2.2.2.2.2.1, Y.2.2.2.2.2.2.1, Y.2.2.2.2.2.2.2.1, Y.2.2.2.2.2.2.2.2.1, Y.2.2.2.2.2.2.2.2.2.1, Y.2.2.2.2.2.2.2.2.2.2.1, Y.2.2.2.2.2.2.2.2.2.2.2.1, (Y.2.2.2.2.2.2.2.2.2.2.2.2.st hj rfl h')⟩
theorem am_astore {j : Nat} {v : Value} (hd : am_D y.2.2.1 pc (.astore j) 2 pc1) (hj : j < y.2.2.2.1) (hv : am_rv v) (hL : L.set j (some v) = L1) (h : am_W g y d lo post pc1 L1 st S) : am_W g y d lo post pc L (v :: st) S := by
  obtain ⟨hd, rfl⟩ := hd
  subst hL
  refine am_lift rfl (fun k n rv RS h => ?_) h
  intro p e s m args below meth c H locs cells slots mc ms ls Y
  rcases hv with rfl | ⟨a, rfl⟩
  · refine lv_astoreN Y.1 Y.2.1 hd Y.2.2.2.2.2.2.2.2.2.2.2.2.has hj rfl (fun ls' h' => ?_)
    exact h p e s m args below meth c H locs cells slots mc ms ls' ⟨Y.1, Y.2.1, Y.2.2.1, Y.2.2.2.1, Y.2.2.2.2.1, Y.2.2.2.2.2.1, Y.2.2.2.2.2.2.1, Y.2.2.2.2.2.2.2.1, Y.2.2.2.2.2.2.2.2.1, Y.2.2.2.2.2.2.2.2.2.1, Y.2.2.2.2.2.2.2.2.2.2.1, Y.2.2.2.2.2.2.2.2.2.2.2.1, (Y.2.2.2.2.2.2.2.2.2.2.2.2.st hj rfl h')⟩
  · refine lv_astore Y.1 Y.2.1 hd Y.2.2.2.2.2.2.2.2.2.2.2.2.has hj rfl (fun ls' h' => ?_)
    exact h p e s m args below meth c H locs cells slots mc ms ls' ⟨Y.1, Y.2.1, Y.2.2.1, Y.2.2.2.1, Y.2.2.2.2.1, Y.2.2.2.2.2.1, Y.2.2.2.2.2.2.1, Y.2.2.2.2.2.2.2.1, Y.2.2.2.2.2.2.2.2.1, Y.2.2.2.2.2.2.2.2.2.1, Y.2.2.2.2.2.2.2.2.2.2.1, Y.2.2.2.2.2.2.2.2.2.2.2.1, (Y.2.2.2.2.2.2.2.2.2.2.2.2.st hj rfl h')⟩
theorem am_iinc {j : Nat} {z : Int} {x v : Int32} (hd : am_D y.2.2.1 pc (.iinc j z) 3 pc1) (hl : L[j]? = some (some (.int x))) (hv : x + Int32.ofInt z = v) (hj : j < y.2.2.2.1) (hL : L.set j (some (.int v)) = L1) (h : am_W g y d lo post pc1 L1 st S) : am_W g y d lo post pc L st S := by
  obtain ⟨hd, rfl⟩ := hd
  subst hL
  refine am_lift rfl (fun k n rv RS h => ?_) h
  intro p e s m args below meth c H locs cells slots mc ms ls Y
  obtain ⟨i, hi⟩ := List.getElem?_of_mem (am_al_mem.mpr hl)
  refine lv_iinc Y.1 Y.2.1 hd Y.2.2.2.2.2.2.2.2.2.2.2.2.has hi hv hj rfl (fun ls' h' => ?_)
  exact h p e s m args below meth c H locs cells slots mc ms ls' ⟨Y.1, Y.2.1, Y.2.2.1, Y.2.2.2.1, Y.2.2.2.2.1, Y.2.2.2.2.2.1, Y.2.2.2.2.2.2.1, Y.2.2.2.2.2.2.2.1, Y.2.2.2.2.2.2.2.2.1, Y.2.2.2.2.2.2.2.2.2.1, Y.2.2.2.2.2.2.2.2.2.2.1, Y.2.2.2.2.2.2.2.2.2.2.2.1, (Y.2.2.2.2.2.2.2.2.2.2.2.2.st hj rfl h')⟩
theorem am_iadd {x z : Int32} (hd : am_D y.2.2.1 pc (.iadd) 1 pc1) (h : am_W g y d lo post pc1 L (.int (x + z) :: st) S) : am_W g y d lo post pc L (.int z :: .int x :: st) S := by
  obtain ⟨hd, rfl⟩ := hd
  refine am_lift rfl (fun k n rv RS h => ?_) h
  intro p e s m args below meth c H locs cells slots mc ms ls Y
  exact lv_iadd Y.1 Y.2.1 hd (h p e s m args below meth c H locs cells slots mc ms ls Y)
theorem am_isub {x z : Int32} (hd : am_D y.2.2.1 pc (.isub) 1 pc1) (h : am_W g y d lo post pc1 L (.int (x - z) :: st) S) : am_W g y d lo post pc L (.int z :: .int x :: st) S := by
  obtain ⟨hd, rfl⟩ := hd
  refine am_lift rfl (fun k n rv RS h => ?_) h
  intro p e s m args below meth c H locs cells slots mc ms ls Y
  exact lv_isub Y.1 Y.2.1 hd (h p e s m args below meth c H locs cells slots mc ms ls Y)
theorem am_imul {x z : Int32} (hd : am_D y.2.2.1 pc (.imul) 1 pc1) (h : am_W g y d lo post pc1 L (.int (x * z) :: st) S) : am_W g y d lo post pc L (.int z :: .int x :: st) S := by
  obtain ⟨hd, rfl⟩ := hd
  refine am_lift rfl (fun k n rv RS h => ?_) h
  intro p e s m args below meth c H locs cells slots mc ms ls Y
  exact lv_imul Y.1 Y.2.1 hd (h p e s m args below meth c H locs cells slots mc ms ls Y)
theorem am_iand {x z : Int32} (hd : am_D y.2.2.1 pc (.iand) 1 pc1) (h : am_W g y d lo post pc1 L (.int (x &&& z) :: st) S) : am_W g y d lo post pc L (.int z :: .int x :: st) S := by
  obtain ⟨hd, rfl⟩ := hd
  refine am_lift rfl (fun k n rv RS h => ?_) h
  intro p e s m args below meth c H locs cells slots mc ms ls Y
  exact lv_iand Y.1 Y.2.1 hd (h p e s m args below meth c H locs cells slots mc ms ls Y)
theorem am_ior {x z : Int32} (hd : am_D y.2.2.1 pc (.ior) 1 pc1) (h : am_W g y d lo post pc1 L (.int (x ||| z) :: st) S) : am_W g y d lo post pc L (.int z :: .int x :: st) S := by
  obtain ⟨hd, rfl⟩ := hd
  refine am_lift rfl (fun k n rv RS h => ?_) h
  intro p e s m args below meth c H locs cells slots mc ms ls Y
  exact lv_ior Y.1 Y.2.1 hd (h p e s m args below meth c H locs cells slots mc ms ls Y)
theorem am_ixor {x z : Int32} (hd : am_D y.2.2.1 pc (.ixor) 1 pc1) (h : am_W g y d lo post pc1 L (.int (x ^^^ z) :: st) S) : am_W g y d lo post pc L (.int z :: .int x :: st) S := by
  obtain ⟨hd, rfl⟩ := hd
  refine am_lift rfl (fun k n rv RS h => ?_) h
  intro p e s m args below meth c H locs cells slots mc ms ls Y
  exact lv_ixor Y.1 Y.2.1 hd (h p e s m args below meth c H locs cells slots mc ms ls Y)
theorem am_ishl {x z : Int32} (hd : am_D y.2.2.1 pc (.ishl) 1 pc1) (h : am_W g y d lo post pc1 L (.int (x <<< (z &&& 31)) :: st) S) : am_W g y d lo post pc L (.int z :: .int x :: st) S := by
  obtain ⟨hd, rfl⟩ := hd
  refine am_lift rfl (fun k n rv RS h => ?_) h
  intro p e s m args below meth c H locs cells slots mc ms ls Y
  exact lv_ishl Y.1 Y.2.1 hd (h p e s m args below meth c H locs cells slots mc ms ls Y)
theorem am_ishr {x z : Int32} (hd : am_D y.2.2.1 pc (.ishr) 1 pc1) (h : am_W g y d lo post pc1 L (.int (x >>> (z &&& 31)) :: st) S) : am_W g y d lo post pc L (.int z :: .int x :: st) S := by
  obtain ⟨hd, rfl⟩ := hd
  refine am_lift rfl (fun k n rv RS h => ?_) h
  intro p e s m args below meth c H locs cells slots mc ms ls Y
  exact lv_ishr Y.1 Y.2.1 hd (h p e s m args below meth c H locs cells slots mc ms ls Y)
theorem am_idiv {x z : Int32} (hd : am_D y.2.2.1 pc (.idiv) 1 pc1) (hz : ¬ z = 0) (h : am_W g y d lo post pc1 L (.int (x / z) :: st) S) : am_W g y d lo post pc L (.int z :: .int x :: st) S := by
  obtain ⟨hd, rfl⟩ := hd
  refine am_lift rfl (fun k n rv RS h => ?_) h
  intro p e s m args below meth c H locs cells slots mc ms ls Y
  exact lv_idiv Y.1 Y.2.1 hd hz (h p e s m args below meth c H locs cells slots mc ms ls Y)
theorem am_irem {x z : Int32} (hd : am_D y.2.2.1 pc (.irem) 1 pc1) (hz : ¬ z = 0) (h : am_W g y d lo post pc1 L (.int (x - x / z * z) :: st) S) : am_W g y d lo post pc L (.int z :: .int x :: st) S := by
  obtain ⟨hd, rfl⟩ := hd
  refine am_lift rfl (fun k n rv RS h => ?_) h
  intro p e s m args below meth c H locs cells slots mc ms ls Y
  exact lv_irem Y.1 Y.2.1 hd hz (h p e s m args below meth c H locs cells slots mc ms ls Y)
theorem am_iushr {x z v : Int32} (hd : am_D y.2.2.1 pc (.iushr) 1 pc1) (hv : (x.toUInt32 >>> (z.toUInt32 &&& Int32.toUInt32 31)).toInt32 = v) (h : am_W g y d lo post pc1 L (.int v :: st) S) : am_W g y d lo post pc L (.int z :: .int x :: st) S := by
  obtain ⟨hd, rfl⟩ := hd
  refine am_lift rfl (fun k n rv RS h => ?_) h
  intro p e s m args below meth c H locs cells slots mc ms ls Y
  exact lv_iushr Y.1 Y.2.1 hd hv (h p e s m args below meth c H locs cells slots mc ms ls Y)
theorem am_ineg {x : Int32} (hd : am_D y.2.2.1 pc (.ineg) 1 pc1) (h : am_W g y d lo post pc1 L (.int (-x) :: st) S) : am_W g y d lo post pc L (.int x :: st) S := by
  obtain ⟨hd, rfl⟩ := hd
  refine am_lift rfl (fun k n rv RS h => ?_) h
  intro p e s m args below meth c H locs cells slots mc ms ls Y
  exact lv_ineg Y.1 Y.2.1 hd (h p e s m args below meth c H locs cells slots mc ms ls Y)
theorem am_dup {v : Value} (hd : am_D y.2.2.1 pc (.dup) 1 pc1) (hv : v.category = 1) (h : am_W g y d lo post pc1 L (v :: v :: st) S) : am_W g y d lo post pc L (v :: st) S := by
  obtain ⟨hd, rfl⟩ := hd
  refine am_lift rfl (fun k n rv RS h => ?_) h
  intro p e s m args below meth c H locs cells slots mc ms ls Y
  exact lv_dup Y.1 Y.2.1 hd hv (h p e s m args below meth c H locs cells slots mc ms ls Y)
theorem am_pop {v : Value} (hd : am_D y.2.2.1 pc (.pop) 1 pc1) (hv : v.category = 1) (h : am_W g y d lo post pc1 L (st) S) : am_W g y d lo post pc L (v :: st) S := by
  obtain ⟨hd, rfl⟩ := hd
  refine am_lift rfl (fun k n rv RS h => ?_) h
  intro p e s m args below meth c H locs cells slots mc ms ls Y
  exact lv_pop Y.1 Y.2.1 hd hv (h p e s m args below meth c H locs cells slots mc ms ls Y)
theorem am_dup_x1 {v u : Value} (hd : am_D y.2.2.1 pc (.dup_x1) 1 pc1) (hv : v.category = 1) (hu : u.category = 1) (h : am_W g y d lo post pc1 L (v :: u :: v :: st) S) : am_W g y d lo post pc L (v :: u :: st) S := by
  obtain ⟨hd, rfl⟩ := hd
  refine am_lift rfl (fun k n rv RS h => ?_) h
  intro p e s m args below meth c H locs cells slots mc ms ls Y
  exact lv_dup_x1 Y.1 Y.2.1 hd hv hu (h p e s m args below meth c H locs cells slots mc ms ls Y)
theorem am_dup_x2 {v u t : Value} (hd : am_D y.2.2.1 pc (.dup_x2) 1 pc1) (hv : v.category = 1) (hu : u.category = 1) (ht : t.category = 1) (h : am_W g y d lo post pc1 L (v :: u :: t :: v :: st) S) : am_W g y d lo post pc L (v :: u :: t :: st) S := by
  obtain ⟨hd, rfl⟩ := hd
  refine am_lift rfl (fun k n rv RS h => ?_) h
  intro p e s m args below meth c H locs cells slots mc ms ls Y
  exact lv_dup_x2 Y.1 Y.2.1 hd hv hu ht (h p e s m args below meth c H locs cells slots mc ms ls Y)
theorem am_dup2 {v u : Value} (hd : am_D y.2.2.1 pc (.dup2) 1 pc1) (hv : v.category = 1) (hu : u.category = 1) (h : am_W g y d lo post pc1 L (v :: u :: v :: u :: st) S) : am_W g y d lo post pc L (v :: u :: st) S := by
  obtain ⟨hd, rfl⟩ := hd
  refine am_lift rfl (fun k n rv RS h => ?_) h
  intro p e s m args below meth c H locs cells slots mc ms ls Y
  exact lv_dup2_11 Y.1 Y.2.1 hd hv hu (h p e s m args below meth c H locs cells slots mc ms ls Y)
theorem am_if_eq {x : Int32} {off : Int} {tgt : Nat} (hd : am_D y.2.2.1 pc (.ifCond .eq off) 3 pc1) (ht : (pc : Int) + off = (tgt : Int)) (kt : x = 0 → am_W g y d lo post tgt L st S) (kf : ¬ x = 0 → am_W g y d lo post pc1 L st S) : am_W g y d lo post pc L (.int x :: st) S := by
  obtain ⟨hd, rfl⟩ := hd
  by_cases q : x = 0
  · refine am_lift rfl (fun k n rv RS h => ?_) (kt q)
    intro p e s m args below meth c H locs cells slots mc ms ls Y
    exact lv_if_eq Y.1 Y.2.1 hd ht (fun _ => h p e s m args below meth c H locs cells slots mc ms ls Y) (fun z => absurd q z)
  · refine am_lift rfl (fun k n rv RS h => ?_) (kf q)
    intro p e s m args below meth c H locs cells slots mc ms ls Y
    exact lv_if_eq Y.1 Y.2.1 hd ht (fun z => absurd z q) (fun _ => h p e s m args below meth c H locs cells slots mc ms ls Y)
theorem am_icmp_eq {x z : Int32} {off : Int} {tgt : Nat} (hd : am_D y.2.2.1 pc (.if_icmp .eq off) 3 pc1) (ht : (pc : Int) + off = (tgt : Int)) (kt : x = z → am_W g y d lo post tgt L st S) (kf : ¬ x = z → am_W g y d lo post pc1 L st S) : am_W g y d lo post pc L (.int z :: .int x :: st) S := by
  obtain ⟨hd, rfl⟩ := hd
  by_cases q : x = z
  · refine am_lift rfl (fun k n rv RS h => ?_) (kt q)
    intro p e s m args below meth c H locs cells slots mc ms ls Y
    exact lv_icmp_eq Y.1 Y.2.1 hd ht (fun _ => h p e s m args below meth c H locs cells slots mc ms ls Y) (fun z => absurd q z)
  · refine am_lift rfl (fun k n rv RS h => ?_) (kf q)
    intro p e s m args below meth c H locs cells slots mc ms ls Y
    exact lv_icmp_eq Y.1 Y.2.1 hd ht (fun z => absurd z q) (fun _ => h p e s m args below meth c H locs cells slots mc ms ls Y)
theorem am_if_ne {x : Int32} {off : Int} {tgt : Nat} (hd : am_D y.2.2.1 pc (.ifCond .ne off) 3 pc1) (ht : (pc : Int) + off = (tgt : Int)) (kt : ¬ x = 0 → am_W g y d lo post tgt L st S) (kf : x = 0 → am_W g y d lo post pc1 L st S) : am_W g y d lo post pc L (.int x :: st) S := by
  obtain ⟨hd, rfl⟩ := hd
  by_cases q : ¬ x = 0
  · refine am_lift rfl (fun k n rv RS h => ?_) (kt q)
    intro p e s m args below meth c H locs cells slots mc ms ls Y
    exact lv_if_ne Y.1 Y.2.1 hd ht (fun _ => h p e s m args below meth c H locs cells slots mc ms ls Y) (fun z => absurd z q)
  · refine am_lift rfl (fun k n rv RS h => ?_) (kf (Classical.not_not.mp q))
    intro p e s m args below meth c H locs cells slots mc ms ls Y
    exact lv_if_ne Y.1 Y.2.1 hd ht (fun z => absurd z q) (fun _ => h p e s m args below meth c H locs cells slots mc ms ls Y)
theorem am_icmp_ne {x z : Int32} {off : Int} {tgt : Nat} (hd : am_D y.2.2.1 pc (.if_icmp .ne off) 3 pc1) (ht : (pc : Int) + off = (tgt : Int)) (kt : ¬ x = z → am_W g y d lo post tgt L st S) (kf : x = z → am_W g y d lo post pc1 L st S) : am_W g y d lo post pc L (.int z :: .int x :: st) S := by
  obtain ⟨hd, rfl⟩ := hd
  by_cases q : ¬ x = z
  · refine am_lift rfl (fun k n rv RS h => ?_) (kt q)
    intro p e s m args below meth c H locs cells slots mc ms ls Y
    exact lv_icmp_ne Y.1 Y.2.1 hd ht (fun _ => h p e s m args below meth c H locs cells slots mc ms ls Y) (fun z => absurd z q)
  · refine am_lift rfl (fun k n rv RS h => ?_) (kf (Classical.not_not.mp q))
    intro p e s m args below meth c H locs cells slots mc ms ls Y
    exact lv_icmp_ne Y.1 Y.2.1 hd ht (fun z => absurd z q) (fun _ => h p e s m args below meth c H locs cells slots mc ms ls Y)
theorem am_if_lt {x : Int32} {off : Int} {tgt : Nat} (hd : am_D y.2.2.1 pc (.ifCond .lt off) 3 pc1) (ht : (pc : Int) + off = (tgt : Int)) (kt : x < 0 → am_W g y d lo post tgt L st S) (kf : ¬ x < 0 → am_W g y d lo post pc1 L st S) : am_W g y d lo post pc L (.int x :: st) S := by
  obtain ⟨hd, rfl⟩ := hd
  by_cases q : x < 0
  · refine am_lift rfl (fun k n rv RS h => ?_) (kt q)
    intro p e s m args below meth c H locs cells slots mc ms ls Y
    exact lv_if_lt Y.1 Y.2.1 hd ht (fun _ => h p e s m args below meth c H locs cells slots mc ms ls Y) (fun z => absurd q z)
  · refine am_lift rfl (fun k n rv RS h => ?_) (kf q)
    intro p e s m args below meth c H locs cells slots mc ms ls Y
    exact lv_if_lt Y.1 Y.2.1 hd ht (fun z => absurd z q) (fun _ => h p e s m args below meth c H locs cells slots mc ms ls Y)
theorem am_icmp_lt {x z : Int32} {off : Int} {tgt : Nat} (hd : am_D y.2.2.1 pc (.if_icmp .lt off) 3 pc1) (ht : (pc : Int) + off = (tgt : Int)) (kt : x < z → am_W g y d lo post tgt L st S) (kf : ¬ x < z → am_W g y d lo post pc1 L st S) : am_W g y d lo post pc L (.int z :: .int x :: st) S := by
  obtain ⟨hd, rfl⟩ := hd
  by_cases q : x < z
  · refine am_lift rfl (fun k n rv RS h => ?_) (kt q)
    intro p e s m args below meth c H locs cells slots mc ms ls Y
    exact lv_icmp_lt Y.1 Y.2.1 hd ht (fun _ => h p e s m args below meth c H locs cells slots mc ms ls Y) (fun z => absurd q z)
  · refine am_lift rfl (fun k n rv RS h => ?_) (kf q)
    intro p e s m args below meth c H locs cells slots mc ms ls Y
    exact lv_icmp_lt Y.1 Y.2.1 hd ht (fun z => absurd z q) (fun _ => h p e s m args below meth c H locs cells slots mc ms ls Y)
theorem am_if_ge {x : Int32} {off : Int} {tgt : Nat} (hd : am_D y.2.2.1 pc (.ifCond .ge off) 3 pc1) (ht : (pc : Int) + off = (tgt : Int)) (kt : 0 ≤ x → am_W g y d lo post tgt L st S) (kf : ¬ 0 ≤ x → am_W g y d lo post pc1 L st S) : am_W g y d lo post pc L (.int x :: st) S := by
  obtain ⟨hd, rfl⟩ := hd
  by_cases q : 0 ≤ x
  · refine am_lift rfl (fun k n rv RS h => ?_) (kt q)
    intro p e s m args below meth c H locs cells slots mc ms ls Y
    exact lv_if_ge Y.1 Y.2.1 hd ht (fun _ => h p e s m args below meth c H locs cells slots mc ms ls Y) (fun z => absurd q z)
  · refine am_lift rfl (fun k n rv RS h => ?_) (kf q)
    intro p e s m args below meth c H locs cells slots mc ms ls Y
    exact lv_if_ge Y.1 Y.2.1 hd ht (fun z => absurd z q) (fun _ => h p e s m args below meth c H locs cells slots mc ms ls Y)
theorem am_icmp_ge {x z : Int32} {off : Int} {tgt : Nat} (hd : am_D y.2.2.1 pc (.if_icmp .ge off) 3 pc1) (ht : (pc : Int) + off = (tgt : Int)) (kt : z ≤ x → am_W g y d lo post tgt L st S) (kf : ¬ z ≤ x → am_W g y d lo post pc1 L st S) : am_W g y d lo post pc L (.int z :: .int x :: st) S := by
  obtain ⟨hd, rfl⟩ := hd
  by_cases q : z ≤ x
  · refine am_lift rfl (fun k n rv RS h => ?_) (kt q)
    intro p e s m args below meth c H locs cells slots mc ms ls Y
    exact lv_icmp_ge Y.1 Y.2.1 hd ht (fun _ => h p e s m args below meth c H locs cells slots mc ms ls Y) (fun z => absurd q z)
  · refine am_lift rfl (fun k n rv RS h => ?_) (kf q)
    intro p e s m args below meth c H locs cells slots mc ms ls Y
    exact lv_icmp_ge Y.1 Y.2.1 hd ht (fun z => absurd z q) (fun _ => h p e s m args below meth c H locs cells slots mc ms ls Y)
theorem am_if_gt {x : Int32} {off : Int} {tgt : Nat} (hd : am_D y.2.2.1 pc (.ifCond .gt off) 3 pc1) (ht : (pc : Int) + off = (tgt : Int)) (kt : 0 < x → am_W g y d lo post tgt L st S) (kf : ¬ 0 < x → am_W g y d lo post pc1 L st S) : am_W g y d lo post pc L (.int x :: st) S := by
  obtain ⟨hd, rfl⟩ := hd
  by_cases q : 0 < x
  · refine am_lift rfl (fun k n rv RS h => ?_) (kt q)
    intro p e s m args below meth c H locs cells slots mc ms ls Y
    exact lv_if_gt Y.1 Y.2.1 hd ht (fun _ => h p e s m args below meth c H locs cells slots mc ms ls Y) (fun z => absurd q z)
  · refine am_lift rfl (fun k n rv RS h => ?_) (kf q)
    intro p e s m args below meth c H locs cells slots mc ms ls Y
    exact lv_if_gt Y.1 Y.2.1 hd ht (fun z => absurd z q) (fun _ => h p e s m args below meth c H locs cells slots mc ms ls Y)
theorem am_icmp_gt {x z : Int32} {off : Int} {tgt : Nat} (hd : am_D y.2.2.1 pc (.if_icmp .gt off) 3 pc1) (ht : (pc : Int) + off = (tgt : Int)) (kt : z < x → am_W g y d lo post tgt L st S) (kf : ¬ z < x → am_W g y d lo post pc1 L st S) : am_W g y d lo post pc L (.int z :: .int x :: st) S := by
  obtain ⟨hd, rfl⟩ := hd
  by_cases q : z < x
  · refine am_lift rfl (fun k n rv RS h => ?_) (kt q)
    intro p e s m args below meth c H locs cells slots mc ms ls Y
    exact lv_icmp_gt Y.1 Y.2.1 hd ht (fun _ => h p e s m args below meth c H locs cells slots mc ms ls Y) (fun z => absurd q z)
  · refine am_lift rfl (fun k n rv RS h => ?_) (kf q)
    intro p e s m args below meth c H locs cells slots mc ms ls Y
    exact lv_icmp_gt Y.1 Y.2.1 hd ht (fun z => absurd z q) (fun _ => h p e s m args below meth c H locs cells slots mc ms ls Y)
theorem am_if_le {x : Int32} {off : Int} {tgt : Nat} (hd : am_D y.2.2.1 pc (.ifCond .le off) 3 pc1) (ht : (pc : Int) + off = (tgt : Int)) (kt : x ≤ 0 → am_W g y d lo post tgt L st S) (kf : ¬ x ≤ 0 → am_W g y d lo post pc1 L st S) : am_W g y d lo post pc L (.int x :: st) S := by
  obtain ⟨hd, rfl⟩ := hd
  by_cases q : x ≤ 0
  · refine am_lift rfl (fun k n rv RS h => ?_) (kt q)
    intro p e s m args below meth c H locs cells slots mc ms ls Y
    exact lv_if_le Y.1 Y.2.1 hd ht (fun _ => h p e s m args below meth c H locs cells slots mc ms ls Y) (fun z => absurd q z)
  · refine am_lift rfl (fun k n rv RS h => ?_) (kf q)
    intro p e s m args below meth c H locs cells slots mc ms ls Y
    exact lv_if_le Y.1 Y.2.1 hd ht (fun z => absurd z q) (fun _ => h p e s m args below meth c H locs cells slots mc ms ls Y)
theorem am_icmp_le {x z : Int32} {off : Int} {tgt : Nat} (hd : am_D y.2.2.1 pc (.if_icmp .le off) 3 pc1) (ht : (pc : Int) + off = (tgt : Int)) (kt : x ≤ z → am_W g y d lo post tgt L st S) (kf : ¬ x ≤ z → am_W g y d lo post pc1 L st S) : am_W g y d lo post pc L (.int z :: .int x :: st) S := by
  obtain ⟨hd, rfl⟩ := hd
  by_cases q : x ≤ z
  · refine am_lift rfl (fun k n rv RS h => ?_) (kt q)
    intro p e s m args below meth c H locs cells slots mc ms ls Y
    exact lv_icmp_le Y.1 Y.2.1 hd ht (fun _ => h p e s m args below meth c H locs cells slots mc ms ls Y) (fun z => absurd q z)
  · refine am_lift rfl (fun k n rv RS h => ?_) (kf q)
    intro p e s m args below meth c H locs cells slots mc ms ls Y
    exact lv_icmp_le Y.1 Y.2.1 hd ht (fun z => absurd z q) (fun _ => h p e s m args below meth c H locs cells slots mc ms ls Y)
theorem am_acmp_eq {rx ry : Option Nat} {off : Int} {tgt : Nat} (hd : am_D y.2.2.1 pc (.if_acmp .eq off) 3 pc1) (ht : (pc : Int) + off = (tgt : Int)) (kt : rx = ry → am_W g y d lo post tgt L st S) (kf : ¬ rx = ry → am_W g y d lo post pc1 L st S) : am_W g y d lo post pc L (va_rf ry :: va_rf rx :: st) S := by
  obtain ⟨hd, rfl⟩ := hd
  by_cases q : rx = ry
  · refine am_lift rfl (fun k n rv RS h => ?_) (kt q)
    intro p e s m args below meth c H locs cells slots mc ms ls Y
    exact lv_acmp_eq Y.1 Y.2.1 hd ht (fun _ => h p e s m args below meth c H locs cells slots mc ms ls Y) (fun z => absurd q z)
  · refine am_lift rfl (fun k n rv RS h => ?_) (kf q)
    intro p e s m args below meth c H locs cells slots mc ms ls Y
    exact lv_acmp_eq Y.1 Y.2.1 hd ht (fun z => absurd z q) (fun _ => h p e s m args below meth c H locs cells slots mc ms ls Y)
theorem am_acmp_ne {rx ry : Option Nat} {off : Int} {tgt : Nat} (hd : am_D y.2.2.1 pc (.if_acmp .ne off) 3 pc1) (ht : (pc : Int) + off = (tgt : Int)) (kt : ¬ rx = ry → am_W g y d lo post tgt L st S) (kf : rx = ry → am_W g y d lo post pc1 L st S) : am_W g y d lo post pc L (va_rf ry :: va_rf rx :: st) S := by
  obtain ⟨hd, rfl⟩ := hd
  by_cases q : ¬ rx = ry
  · refine am_lift rfl (fun k n rv RS h => ?_) (kt q)
    intro p e s m args below meth c H locs cells slots mc ms ls Y
    exact lv_acmp_ne Y.1 Y.2.1 hd ht (fun _ => h p e s m args below meth c H locs cells slots mc ms ls Y) (fun z => absurd z q)
  · refine am_lift rfl (fun k n rv RS h => ?_) (kf (Classical.not_not.mp q))
    intro p e s m args below meth c H locs cells slots mc ms ls Y
    exact lv_acmp_ne Y.1 Y.2.1 hd ht (fun z => absurd z q) (fun _ => h p e s m args below meth c H locs cells slots mc ms ls Y)
theorem am_ifnonnull {a : Nat} {off : Int} {tgt : Nat} (hd : am_D y.2.2.1 pc (.ifnonnull off) 3 pc1) (ht : (pc : Int) + off = (tgt : Int)) (h : am_W g y d lo post tgt L st S) : am_W g y d lo post pc L (.ref a :: st) S := by
  obtain ⟨hd, rfl⟩ := hd
  refine am_lift rfl (fun k n rv RS h => ?_) h
  intro p e s m args below meth c H locs cells slots mc ms ls Y
  exact lv_ifnonnull Y.1 Y.2.1 hd ht (h p e s m args below meth c H locs cells slots mc ms ls Y)
theorem am_ifnonnullN {off : Int} (hd : am_D y.2.2.1 pc (.ifnonnull off) 3 pc1) (h : am_W g y d lo post pc1 L st S) : am_W g y d lo post pc L (.null :: st) S := by
  obtain ⟨hd, rfl⟩ := hd
  refine am_lift rfl (fun k n rv RS h => ?_) h
  intro p e s m args below meth c H locs cells slots mc ms ls Y
  exact lv_ifnonnullN Y.1 Y.2.1 hd (h p e s m args below meth c H locs cells slots mc ms ls Y)
theorem am_ifnull {a : Nat} {off : Int} (hd : am_D y.2.2.1 pc (.ifnull off) 3 pc1) (h : am_W g y d lo post pc1 L st S) : am_W g y d lo post pc L (.ref a :: st) S := by
  obtain ⟨hd, rfl⟩ := hd
  refine am_lift rfl (fun k n rv RS h => ?_) h
  intro p e s m args below meth c H locs cells slots mc ms ls Y
  exact lv_ifnull Y.1 Y.2.1 hd (h p e s m args below meth c H locs cells slots mc ms ls Y)
theorem am_ifnullN {off : Int} {tgt : Nat} (hd : am_D y.2.2.1 pc (.ifnull off) 3 pc1) (ht : (pc : Int) + off = (tgt : Int)) (h : am_W g y d lo post tgt L st S) : am_W g y d lo post pc L (.null :: st) S := by
  obtain ⟨hd, rfl⟩ := hd
  refine am_lift rfl (fun k n rv RS h => ?_) h
  intro p e s m args below meth c H locs cells slots mc ms ls Y
  exact lv_ifnullN Y.1 Y.2.1 hd ht (h p e s m args below meth c H locs cells slots mc ms ls Y)
theorem am_goto {off : Int} {tgt : Nat} (hd : am_D y.2.2.1 pc (.goto off) 3 pc1) (ht : (pc : Int) + off = (tgt : Int)) (h : am_W g y d lo post tgt L st S) : am_W g y d lo post pc L (st) S := by
  obtain ⟨hd, rfl⟩ := hd
  refine am_lift rfl (fun k n rv RS h => ?_) h
  intro p e s m args below meth c H locs cells slots mc ms ls Y
  exact lv_goto Y.1 Y.2.1 hd ht (h p e s m args below meth c H locs cells slots mc ms ls Y)
theorem am_lookup {dflt : Int} {ps : Array (Int × Int)} {len : Nat} {x : Int32} {off : Int} {tgt : Nat} (hd : am_D y.2.2.1 pc (.lookupswitch dflt ps) len pc1) (hp : (ps.toList.zip (ps.toList.drop 1)).all (fun (a, next) => a.1 < next.1) = true) (ho : Op.lookupswitch.offset ps.toList dflt x.toInt = off) (ht : (pc : Int) + off = (tgt : Int)) (h : am_W g y d lo post tgt L st S) : am_W g y d lo post pc L (.int x :: st) S := by
  obtain ⟨hd, rfl⟩ := hd
  refine am_lift rfl (fun k n rv RS h => ?_) h
  intro p e s m args below meth c H locs cells slots mc ms ls Y
  exact lv_lookup Y.1 Y.2.1 hd hp ho ht (h p e s m args below meth c H locs cells slots mc ms ls Y)
theorem am_tableOut {dflt tl th : Int} {offs : Array Int} {len : Nat} {x : Int32} {tgt : Nat} (hd : am_D y.2.2.1 pc (.tableswitch dflt tl th offs) len pc1) (hx : x.toInt < tl ∨ th < x.toInt) (ht : (pc : Int) + dflt = (tgt : Int)) (h : am_W g y d lo post tgt L st S) : am_W g y d lo post pc L (.int x :: st) S := by
  obtain ⟨hd, rfl⟩ := hd
  refine am_lift rfl (fun k n rv RS h => ?_) h
  intro p e s m args below meth c H locs cells slots mc ms ls Y
  exact lv_tableOut Y.1 Y.2.1 hd hx ht (h p e s m args below meth c H locs cells slots mc ms ls Y)
theorem am_tableIn {dflt tl th : Int} {offs : Array Int} {len : Nat} {x : Int32} {off : Int} {tgt : Nat} (hd : am_D y.2.2.1 pc (.tableswitch dflt tl th offs) len pc1) (h1 : ¬ x.toInt < tl) (h2 : ¬ th < x.toInt) (ho : offs[(x.toInt - tl).toNat]? = some off) (ht : (pc : Int) + off = (tgt : Int)) (h : am_W g y d lo post tgt L st S) : am_W g y d lo post pc L (.int x :: st) S := by
  obtain ⟨hd, rfl⟩ := hd
  refine am_lift rfl (fun k n rv RS h => ?_) h
  intro p e s m args below meth c H locs cells slots mc ms ls Y
  exact lv_tableIn Y.1 Y.2.1 hd h1 h2 ho ht (h p e s m args below meth c H locs cells slots mc ms ls Y)
theorem am_iaddN {a b : Nat} (hd : am_D y.2.2.1 pc (.iadd) 1 pc1) (h : am_W g y d lo post pc1 L (.int (nI (a + b)) :: st) S) : am_W g y d lo post pc L (.int (nI b) :: .int (nI a) :: st) S := am_iadd hd (by rw [nI_add]; exact h)
theorem am_imulN {a b : Nat} (hd : am_D y.2.2.1 pc (.imul) 1 pc1) (h : am_W g y d lo post pc1 L (.int (nI (a * b)) :: st) S) : am_W g y d lo post pc L (.int (nI b) :: .int (nI a) :: st) S := am_imul hd (by rw [pk_mul]; exact h)
theorem am_isubN {a b : Nat} (hd : am_D y.2.2.1 pc (.isub) 1 pc1) (hb : b ≤ a) (h : am_W g y d lo post pc1 L (.int (nI (a - b)) :: st) S) : am_W g y d lo post pc L (.int (nI b) :: .int (nI a) :: st) S := am_isub hd (by rw [pk_sub hb]; exact h)
theorem am_idivN {a b : Nat} (hd : am_D y.2.2.1 pc (.idiv) 1 pc1) (ha : a < 2 ^ 31) (h0 : 0 < b) (hb : b < 2 ^ 31) (h : am_W g y d lo post pc1 L (.int (nI (a / b)) :: st) S) : am_W g y d lo post pc L (.int (nI b) :: .int (nI a) :: st) S := am_idiv hd (nI_ne0 h0 hb) (by rw [pk_div ha h0 hb]; exact h)
theorem am_iremN {a b : Nat} (hd : am_D y.2.2.1 pc (.irem) 1 pc1) (ha : a < 2 ^ 31) (h0 : 0 < b) (hb : b < 2 ^ 31) (h : am_W g y d lo post pc1 L (.int (nI (a % b)) :: st) S) : am_W g y d lo post pc L (.int (nI b) :: .int (nI a) :: st) S := am_irem hd (nI_ne0 h0 hb) (by rw [pk_rem ha h0 hb]; exact h)
theorem am_iincN {j a b : Nat} {z : Int} (hd : am_D y.2.2.1 pc (.iinc j z) 3 pc1) (hl : L[j]? = some (some (.int (nI a)))) (hz : Int32.ofInt z = nI b) (hj : j < y.2.2.2.1) (hL : L.set j (some (.int (nI (a + b)))) = L1) (h : am_W g y d lo post pc1 L1 st S) : am_W g y d lo post pc L st S := am_iinc hd hl (by rw [hz, nI_add]) hj hL h
theorem am_icmp_eqN {a b : Nat} {off : Int} {tgt : Nat} (hd : am_D y.2.2.1 pc (.if_icmp .eq off) 3 pc1) (ht : (pc : Int) + off = (tgt : Int)) (ha : a < 2 ^ 31) (hb : b < 2 ^ 31) (kt : a = b → am_W g y d lo post tgt L st S) (kf : a ≠ b → am_W g y d lo post pc1 L st S) : am_W g y d lo post pc L (.int (nI b) :: .int (nI a) :: st) S := by
  have e := nI_eq ha hb
  refine am_icmp_eq hd ht (fun q => kt ?_) (fun q => kf ?_)
  · rw [e] at q; omega
  · rw [e] at q; omega
theorem am_if_eqN {a : Nat} {off : Int} {tgt : Nat} (hd : am_D y.2.2.1 pc (.ifCond .eq off) 3 pc1) (ht : (pc : Int) + off = (tgt : Int)) (ha : a < 2 ^ 31) (kt : a = 0 → am_W g y d lo post tgt L st S) (kf : a ≠ 0 → am_W g y d lo post pc1 L st S) : am_W g y d lo post pc L (.int (nI a) :: st) S := by
  have e := nI_eq ha (by decide : 0 < 2 ^ 31)
  rw [nI_0] at e
  refine am_if_eq hd ht (fun q => kt ?_) (fun q => kf ?_)
  · rw [e] at q; omega
  · rw [e] at q; omega
theorem am_icmp_neN {a b : Nat} {off : Int} {tgt : Nat} (hd : am_D y.2.2.1 pc (.if_icmp .ne off) 3 pc1) (ht : (pc : Int) + off = (tgt : Int)) (ha : a < 2 ^ 31) (hb : b < 2 ^ 31) (kt : a ≠ b → am_W g y d lo post tgt L st S) (kf : a = b → am_W g y d lo post pc1 L st S) : am_W g y d lo post pc L (.int (nI b) :: .int (nI a) :: st) S := by
  have e := nI_eq ha hb
  refine am_icmp_ne hd ht (fun q => kt ?_) (fun q => kf ?_)
  · rw [e] at q; omega
  · rw [e] at q; omega
theorem am_if_neN {a : Nat} {off : Int} {tgt : Nat} (hd : am_D y.2.2.1 pc (.ifCond .ne off) 3 pc1) (ht : (pc : Int) + off = (tgt : Int)) (ha : a < 2 ^ 31) (kt : a ≠ 0 → am_W g y d lo post tgt L st S) (kf : a = 0 → am_W g y d lo post pc1 L st S) : am_W g y d lo post pc L (.int (nI a) :: st) S := by
  have e := nI_eq ha (by decide : 0 < 2 ^ 31)
  rw [nI_0] at e
  refine am_if_ne hd ht (fun q => kt ?_) (fun q => kf ?_)
  · rw [e] at q; omega
  · rw [e] at q; omega
theorem am_icmp_ltN {a b : Nat} {off : Int} {tgt : Nat} (hd : am_D y.2.2.1 pc (.if_icmp .lt off) 3 pc1) (ht : (pc : Int) + off = (tgt : Int)) (ha : a < 2 ^ 31) (hb : b < 2 ^ 31) (kt : a < b → am_W g y d lo post tgt L st S) (kf : b ≤ a → am_W g y d lo post pc1 L st S) : am_W g y d lo post pc L (.int (nI b) :: .int (nI a) :: st) S := by
  have e := nI_ltI ha hb
  refine am_icmp_lt hd ht (fun q => kt ?_) (fun q => kf ?_)
  · rw [e] at q; omega
  · rw [e] at q; omega
theorem am_if_ltN {a : Nat} {off : Int} {tgt : Nat} (hd : am_D y.2.2.1 pc (.ifCond .lt off) 3 pc1) (ht : (pc : Int) + off = (tgt : Int)) (ha : a < 2 ^ 31) (kt : a < 0 → am_W g y d lo post tgt L st S) (kf : 0 ≤ a → am_W g y d lo post pc1 L st S) : am_W g y d lo post pc L (.int (nI a) :: st) S := by
  have e := nI_ltI ha (by decide : 0 < 2 ^ 31)
  rw [nI_0] at e
  refine am_if_lt hd ht (fun q => kt ?_) (fun q => kf ?_)
  · rw [e] at q; omega
  · rw [e] at q; omega
theorem am_icmp_geN {a b : Nat} {off : Int} {tgt : Nat} (hd : am_D y.2.2.1 pc (.if_icmp .ge off) 3 pc1) (ht : (pc : Int) + off = (tgt : Int)) (ha : a < 2 ^ 31) (hb : b < 2 ^ 31) (kt : b ≤ a → am_W g y d lo post tgt L st S) (kf : a < b → am_W g y d lo post pc1 L st S) : am_W g y d lo post pc L (.int (nI b) :: .int (nI a) :: st) S := by
  have e := nI_leI hb ha
  refine am_icmp_ge hd ht (fun q => kt ?_) (fun q => kf ?_)
  · rw [e] at q; omega
  · rw [e] at q; omega
theorem am_if_geN {a : Nat} {off : Int} {tgt : Nat} (hd : am_D y.2.2.1 pc (.ifCond .ge off) 3 pc1) (ht : (pc : Int) + off = (tgt : Int)) (ha : a < 2 ^ 31) (kt : 0 ≤ a → am_W g y d lo post tgt L st S) (kf : a < 0 → am_W g y d lo post pc1 L st S) : am_W g y d lo post pc L (.int (nI a) :: st) S := by
  have e := nI_leI (by decide : 0 < 2 ^ 31) ha
  rw [nI_0] at e
  refine am_if_ge hd ht (fun q => kt ?_) (fun q => kf ?_)
  · rw [e] at q; omega
  · rw [e] at q; omega
theorem am_icmp_gtN {a b : Nat} {off : Int} {tgt : Nat} (hd : am_D y.2.2.1 pc (.if_icmp .gt off) 3 pc1) (ht : (pc : Int) + off = (tgt : Int)) (ha : a < 2 ^ 31) (hb : b < 2 ^ 31) (kt : b < a → am_W g y d lo post tgt L st S) (kf : a ≤ b → am_W g y d lo post pc1 L st S) : am_W g y d lo post pc L (.int (nI b) :: .int (nI a) :: st) S := by
  have e := nI_ltI hb ha
  refine am_icmp_gt hd ht (fun q => kt ?_) (fun q => kf ?_)
  · rw [e] at q; omega
  · rw [e] at q; omega
theorem am_if_gtN {a : Nat} {off : Int} {tgt : Nat} (hd : am_D y.2.2.1 pc (.ifCond .gt off) 3 pc1) (ht : (pc : Int) + off = (tgt : Int)) (ha : a < 2 ^ 31) (kt : 0 < a → am_W g y d lo post tgt L st S) (kf : a ≤ 0 → am_W g y d lo post pc1 L st S) : am_W g y d lo post pc L (.int (nI a) :: st) S := by
  have e := nI_ltI (by decide : 0 < 2 ^ 31) ha
  rw [nI_0] at e
  refine am_if_gt hd ht (fun q => kt ?_) (fun q => kf ?_)
  · rw [e] at q; omega
  · rw [e] at q; omega
theorem am_icmp_leN {a b : Nat} {off : Int} {tgt : Nat} (hd : am_D y.2.2.1 pc (.if_icmp .le off) 3 pc1) (ht : (pc : Int) + off = (tgt : Int)) (ha : a < 2 ^ 31) (hb : b < 2 ^ 31) (kt : a ≤ b → am_W g y d lo post tgt L st S) (kf : b < a → am_W g y d lo post pc1 L st S) : am_W g y d lo post pc L (.int (nI b) :: .int (nI a) :: st) S := by
  have e := nI_leI ha hb
  refine am_icmp_le hd ht (fun q => kt ?_) (fun q => kf ?_)
  · rw [e] at q; omega
  · rw [e] at q; omega
theorem am_if_leN {a : Nat} {off : Int} {tgt : Nat} (hd : am_D y.2.2.1 pc (.ifCond .le off) 3 pc1) (ht : (pc : Int) + off = (tgt : Int)) (ha : a < 2 ^ 31) (kt : a ≤ 0 → am_W g y d lo post tgt L st S) (kf : 0 < a → am_W g y d lo post pc1 L st S) : am_W g y d lo post pc L (.int (nI a) :: st) S := by
  have e := nI_leI ha (by decide : 0 < 2 ^ 31)
  rw [nI_0] at e
  refine am_if_le hd ht (fun q => kt ?_) (fun q => kf ?_)
  · rw [e] at q; omega
  · rw [e] at q; omega
/-- a truth value as a number -/
def am_b (c : Bool) : Int32 := if c = true then 1 else 0
theorem am_b_t : am_b true = 1 := rfl
theorem am_b_f : am_b false = 0 := rfl
theorem am_b_nar (c : Bool) : narrow .boolean (.int (am_b c)) = .int (am_b c) := by cases c <;> rfl
theorem am_b_fit (c : Bool) : fits .boolean (.int (am_b c)) = true := by cases c <;> rfl
theorem am_if_eqB {c : Bool} {off : Int} {tgt : Nat} (hd : am_D y.2.2.1 pc (.ifCond .eq off) 3 pc1) (ht : (pc : Int) + off = (tgt : Int)) (kt : c = false → am_W g y d lo post tgt L st S) (kf : c = true → am_W g y d lo post pc1 L st S) : am_W g y d lo post pc L (.int (am_b c) :: st) S := by
  cases c
  · exact am_if_eq hd ht (fun _ => kt rfl) (fun q => absurd rfl q)
  · exact am_if_eq hd ht (fun q => absurd q (by decide)) (fun _ => kf rfl)
theorem am_if_neB {c : Bool} {off : Int} {tgt : Nat} (hd : am_D y.2.2.1 pc (.ifCond .ne off) 3 pc1) (ht : (pc : Int) + off = (tgt : Int)) (kt : c = true → am_W g y d lo post tgt L st S) (kf : c = false → am_W g y d lo post pc1 L st S) : am_W g y d lo post pc L (.int (am_b c) :: st) S := by
  cases c
  · exact am_if_ne hd ht (fun q => absurd rfl q) (fun _ => kf rfl)
  · exact am_if_ne hd ht (fun _ => kt rfl) (fun q => absurd q (by decide))
end AMR
/-! the store: what stays -/
def am_ok (S : am_S) : Prop := ∀ (a : Nat) (c : Nat × am_K), S.1 a = some c → a < S.2.1
/-- but for cells whose tag is in X, what lies there stays -/
def am_fr (X : Nat → Prop) (S S' : am_S) : Prop := (∀ (a t : Nat) (x : am_K), S.1 a = some (t, x) → ¬ X t → S'.1 a = some (t, x)) ∧ S.2.1 ≤ S'.2.1 ∧ S.2.2 ≤ S'.2.2 ∧ (am_ok S → am_ok S')
/-- at most c cells and n slots are new -/
def am_co (c n : Nat) (S S' : am_S) : Prop := S'.2.1 ≤ S.2.1 + c ∧ S'.2.2 ≤ S.2.2 + n
theorem am_fr.refl (X : Nat → Prop) (S : am_S) : am_fr X S S := ⟨fun _ _ _ h _ => h, Nat.le_refl _, Nat.le_refl _, fun h => h⟩
theorem am_fr.trans {X : Nat → Prop} {S S1 S2 : am_S} (h : am_fr X S S1) (h' : am_fr X S1 S2) : am_fr X S S2 :=
  ⟨fun a t x hx ht => h'.1 a t x (h.1 a t x hx ht) ht, Nat.le_trans h.2.1 h'.2.1, Nat.le_trans h.2.2.1 h'.2.2.1, fun o => h'.2.2.2 (h.2.2.2 o)⟩
theorem am_fr.mono {X Y : Nat → Prop} {S S1 : am_S} (h : am_fr X S S1) (hX : ∀ t, X t → Y t) : am_fr Y S S1 :=
  ⟨fun a t x hx ht => h.1 a t x hx (fun q => ht (hX t q)), h.2⟩
theorem am_fr.keep {X : Nat → Prop} {S S1 : am_S} (h : am_fr X S S1) {a t : Nat} {x : am_K} (hx : S.1 a = some (t, x)) (ht : ¬ X t) : S1.1 a = some (t, x) := h.1 a t x hx ht
theorem am_ok.up {S : am_S} {a t t' : Nat} {x x' : am_K} (h : am_ok S) (ha : S.1 a = some (t, x)) : am_ok (am_up S a t' x') := by
  intro q c hq
  by_cases e : q = a
  · subst e; exact h q _ ha
  · rw [am_up_ne S t' x' e] at hq
    exact h q c hq
theorem am_ok.mk {S : am_S} (t z : Nat) (x : am_K) (h : am_ok S) : am_ok (am_mk S t z x) := by
  intro q c hq
  show q < S.2.1 + 1
  by_cases e : q = S.2.1
  · omega
  · rw [am_mk_ne S t z x e] at hq
    have := h q c hq
    omega
theorem am_fr.up {X : Nat → Prop} {S : am_S} {a t t' : Nat} {x x' : am_K} (ha : S.1 a = some (t, x)) (hX : X t) : am_fr X S (am_up S a t' x') :=
  ⟨fun q u z hq hu => by
    by_cases e : q = a
    · subst e
      rw [ha] at hq
      cases hq
      exact absurd hX hu
    · rw [am_up_ne S t' x' e]; exact hq, Nat.le_refl _, Nat.le_refl _, fun o => o.up ha⟩
theorem am_fr.mk (X : Nat → Prop) {S : am_S} (t z : Nat) (x : am_K) (o : am_ok S) : am_fr X S (am_mk S t z x) :=
  ⟨fun q u w hq _ => by rw [am_mk_ne S t z x (Nat.ne_of_lt (o q _ hq))]; exact hq, Nat.le_succ _, Nat.le_add_right _ _, fun o => o.mk t z x⟩
theorem am_co.refl (S : am_S) : am_co 0 0 S S := ⟨Nat.le_refl _, Nat.le_refl _⟩
theorem am_co.trans {c n c' n' : Nat} {S S1 S2 : am_S} (h : am_co c n S S1) (h' : am_co c' n' S1 S2) : am_co (c + c') (n + n') S S2 := by
  obtain ⟨h1, h2⟩ := h
  obtain ⟨h3, h4⟩ := h'
  exact ⟨by omega, by omega⟩
theorem am_co.mono {c n c' n' : Nat} {S S1 : am_S} (h : am_co c n S S1) (hc : c ≤ c') (hn : n ≤ n') : am_co c' n' S S1 := by
  obtain ⟨h1, h2⟩ := h
  exact ⟨by omega, by omega⟩
theorem am_co.up (S : am_S) (a t : Nat) (x : am_K) : am_co 0 0 S (am_up S a t x) := ⟨Nat.le_refl _, Nat.le_refl _⟩
theorem am_co.mk (S : am_S) (t z : Nat) (x : am_K) : am_co 1 z S (am_mk S t z x) := ⟨Nat.le_refl _, Nat.le_refl _⟩
/-- cells of different tags lie apart -/
theorem am_ne {S : am_S} {a b t u : Nat} {x z : am_K} (ha : S.1 a = some (t, x)) (hb : S.1 b = some (u, z)) (h : t ≠ u) : b ≠ a := by
  intro e
  subst e
  rw [ha] at hb
  cases hb
  exact h rfl
theorem am_up_tag {S : am_S} {a b t t' u : Nat} {x x' z : am_K} (hb : S.1 b = some (u, z)) (ha : S.1 a = some (t, x)) (h : t ≠ u) : (am_up S a t' x').1 b = some (u, z) := by
  rw [am_up_ne S t' x' (am_ne ha hb h)]
  exact hb
theorem am_mk_old {S : am_S} {b u t n : Nat} {x z : am_K} (hb : S.1 b = some (u, z)) (o : am_ok S) : (am_mk S t n x).1 b = some (u, z) := by
  rw [am_mk_ne S t n x (Nat.ne_of_lt (o b _ hb))]
  exact hb
theorem am_up_up (S : am_S) (a t t' : Nat) (x x' : am_K) : am_up (am_up S a t x) a t' x' = am_up S a t' x' := by
  unfold am_up
  congr 1
  funext q
  by_cases e : q = a <;> simp [e]
theorem am_up_mk (S : am_S) (t t' n : Nat) (x x' : am_K) : am_up (am_mk S t n x) S.2.1 t' x' = am_mk S t' n x' := by
  unfold am_up am_mk
  congr 1
  funext q
  by_cases e : q = S.2.1 <;> simp [e]
end
section
/-! rows of the logic that read or write cells -/
/-- the field that an instruction names: class number, place -/
def am_F (own : String) (idx ci j : Nat) : Prop := ∃ (q : vw_C) (ref : String), am_cl[ci]? = some q ∧ j < q.2.2 ∧ ((Cond.fieldLink own idx ref (q.2.1 j).2.1 (q.2.1 j).2.2.1 ∈ am_wz) ∨ ∃ host, (own, idx, ref, (q.2.1 j).2.1, (q.2.1 j).2.2.1, host) ∈ am_nF) ∧ (ref = (q.2.1 j).1 ∨ Cond.sameField ref (q.2.1 j).1 (q.2.1 j).2.1 (q.2.1 j).2.2.1 ∈ am_wz)
theorem am_same {g : am_G} {s : State} (hT : am_T g s) {q : vw_C} {j : Nat} {ref : String} (h : ref = (q.2.1 j).1 ∨ Cond.sameField ref (q.2.1 j).1 (q.2.1 j).2.1 (q.2.1 j).2.2.1 ∈ am_wz) (x : ClassId × Class × Nat × Field) (hx : s.fieldFound? (q.2.1 j).1 (q.2.1 j).2.1 (q.2.1 j).2.2.1 = some x) : s.fieldFound? ref (q.2.1 j).2.1 (q.2.1 j).2.2.1 = some x := by
  rcases h with rfl | h
  · exact hx
  · exact u_same (hT.word #[] h) x hx
theorem am_apart {g : am_G} {s : State} (hT : am_T g s) {ci : Nat} {q : vw_C} (hc : am_cl[ci]? = some q) (hq : am_clOK q) : ∀ x z, x < q.2.2 → z < q.2.2 → x ≠ z → (g.lay.2 ci) x ≠ (g.lay.2 ci) z := by
  intro x z hx hz hne
  obtain ⟨hS, -⟩ := hT.2.2.2.2.2.1 ci q hc
  obtain ⟨_, _, _, fa, hia, ea⟩ := hS x hx
  obtain ⟨_, _, _, fb, hib, eb⟩ := hS z hz
  have hts : ∀ w ∈ am_wz, w.before #[] s = true := fun w hw => hT.word #[] hw
  rw [← ea, ← eb]
  refine u_apart (u_lays hts hq.1 hx) (u_lays hts hq.1 hz) hia hib ?_
  obtain ⟨tx, htx⟩ := Option.isSome_iff_exists.mp (hq.2.1 x hx)
  obtain ⟨tz, htz⟩ := Option.isSome_iff_exists.mp (hq.2.1 z hz)
  rw [(State.fieldFound?_type hia htx).1, (State.fieldFound?_type hib htz).1]
  exact hq.2.2 x hx z hz hne
/-- what a write of a field must know: its type; it is not final, or this is the constructor of its class -/
def am_P (own nm : String) (ci j : Nat) (ty : FieldType) : Prop := ∃ q : vw_C, am_cl[ci]? = some q ∧ parseFieldDescriptor (q.2.1 j).2.2.1 = some ty ∧ ((q.2.1 j).2.2.2 = false ∨ ((q.2.1 j).2.2.2 = true ∧ (q.2.1 j).1 = own ∧ nm = "<init>"))
section AMH
variable {g : am_G} {y : am_N} {d lo : Nat} {post : Option Value → am_S → Prop} {pc pc1 : Nat} {L : List (Option Value)} {st : List Value} {S : am_S}
theorem am_get {idx ci j a t : Nat} {fs : List Value} {v : Value} (hd : am_D y.2.2.1 pc (.getfield idx) 3 pc1) (hF : am_F y.1 idx ci j) (ha : S.1 a = some (t, .inr (ci, fs))) (hv : fs[j]? = some v) (h : am_W g y d lo post pc1 L (v :: st) S) : am_W g y d lo post pc L (.ref a :: st) S := by
  obtain ⟨hd, rfl⟩ := hd
  refine am_lift (by rfl) (fun k n rv RS h => ?_) h
  intro p e s m args below meth c H locs cells slots mc ms ls Y
  have W1 := h p e s m args below meth c H locs cells slots mc ms ls Y
  obtain ⟨y1, y2, -, -, -, y6, -, hT, -, -, -, hR, -⟩ := Y
  obtain ⟨q, ref, hc, hj, hlink, hsame⟩ := hF
  have hq := am_cl_ok ci q hc
  obtain ⟨q', h1, hlen, cell, q1, q2, q3, q4⟩ := hR.2.2.2.1 a _ _ ha
  cases h1.symm.trans hc
  obtain ⟨hS, hfc, kC, hkC, hkind⟩ := hT.2.2.2.2.2.1 ci q hc
  obtain ⟨cf, kf, fi, f, hi, hsl⟩ := hS j hj
  have hts : ∀ w ∈ am_wz, w.before args s = true := fun w hw => hT.word args hw
  have hst := (u_facts hfc hkC (u_lays hts hq.1 hj) hi).1
  have hval : cell.slots[f.slot]? = some v := by
    rw [hsl, q4 j hj]
    simp [vp_V, hv]
  rcases hlink with hl | ⟨host, hl⟩
  · exact W.getf y1 y2 y6 (hts _ hl) (am_same hT hsame _ hi) hst q1 (by rw [q3]; exact fun z => by cases z) hval rfl rfl hd W1
  · exact va_Wgetf y1 y2 y6 (va_Nw.use rfl (hT.2.1 _ hl)) (am_same hT hsame _ hi) hst q1 (by rw [q3]; exact fun z => by cases z) hval rfl rfl hd W1
/-- the field is written: it isn't final, or it is and this is its class's constructor -/
theorem am_put {idx ci j a t : Nat} {fs : List Value} {v : Value} (ty : FieldType) (hd : am_D y.2.2.1 pc (.putfield idx) 3 pc1) (hF : am_F y.1 idx ci j) (hP : am_P y.1 y.2.1 ci j ty) (ha : S.1 a = some (t, .inr (ci, fs))) (ht0 : t ≠ 0) (hn : narrow ty v = v) (hfit : fits ty v = true) (h : am_W g y d lo post pc1 L st (am_up S a t (.inr (ci, fs.set j v)))) : am_W g y d lo post pc L (v :: .ref a :: st) S := by
  obtain ⟨hd, rfl⟩ := hd
  refine am_lift (by rfl) (fun k n rv RS h => ?_) h
  intro p e s m args below meth c H locs cells slots mc ms ls Y
  obtain ⟨y1, y2, y3, y4, y5, y6, y7, hT, y9, y10, y11, hR, hL⟩ := Y
  obtain ⟨q, ref, hc, hj, hlink, hsame⟩ := hF
  obtain ⟨q2', hc2, hty, hfin⟩ := hP
  have ho := hR.2.2.2.2 a _ _ ha ht0
  cases hc2.symm.trans hc
  have hq := am_cl_ok ci q hc
  have hap := am_apart hT hc hq
  obtain ⟨q', h1, hlen, cell, q1, q2, q3, q4⟩ := hR.2.2.2.1 a _ _ ha
  cases h1.symm.trans hc
  obtain ⟨hS, hfc, kC, hkC, hkind⟩ := hT.2.2.2.2.2.1 ci q hc
  obtain ⟨cf, kf, fi, f, hi, hsl⟩ := hS j hj
  have hts : ∀ w ∈ am_wz, w.before args s = true := fun w hw => hT.word args hw
  have hst := (u_facts hfc hkC (u_lays hts hq.1 hj) hi).1
  have hft := u_fits hfc hkC hkind (u_lays hts hq.1 hj) hi hty hn hfit
  have hlay := hts _ (hq.1 _ (u_in_lay hj))
  have hf2 : hasFlag f.accessFlags Acc.final = false ∨ (m.cls = cf ∧ meth.name = "<init>") := by
    unfold u_lay at hlay
    rcases hfin with hf | ⟨hf, hown, hin⟩
    · rw [if_neg (by rw [hf]; decide)] at hlay
      exact Or.inl (u_store hfc hkC hkind hlay hi hty hn hfit).1
    · rw [if_pos hf] at hlay
      refine Or.inr ⟨?_, by rw [y7]; exact hin⟩
      obtain ⟨_, _, c', _, _, _, -, -, hf', -, -, -, hown2, -⟩ := Cond.laysFinal_spec hlay
      have e1 : c' = cf := by have := hi.symm.trans hf'; simp at this; exact this.1.symm
      rw [hown] at hown2
      rw [← e1]; exact Option.some.inj (y6.symm.trans hown2)
  have hlt : f.slot < cell.slots.size := by rw [hsl]; exact k2_hasslot (q4 j hj)
  have hA : a < H.size := (Array.getElem?_eq_some_iff.mp q1).1
  have key : W p g.1 e { frames := d, cells := mc, slots := ms, locals := lo } s m args below meth c (H.setIfInBounds a (cell.setSlot f.slot v)) (locs ++ [⟨a, f.slot⟩]) cells slots (MQ below (am_Q g rv RS) args s mc ms (fun q => g.old.size ≤ q)) (F0 m (pc + 3) ls st) := by
    refine h p e s m args below meth c _ _ cells slots mc ms ls ⟨y1, y2, y3, y4, y5, y6, y7, hT, y9, y10, ?_, ?_, hL⟩
    · intro x hx
      rcases List.mem_append.mp hx with hx | hx
      · exact y11 x hx
      · rw [List.mem_singleton.mp hx]; exact ho
    · refine hR.put t ho (by simp) (fun q hq => by simp [Array.getElem?_setIfInBounds, Ne.symm hq]) ?_
      refine ⟨q, hc, by rw [List.length_set]; exact hlen, t_OB.to (V := updV (vp_V fs) j v) ⟨cell.setSlot f.slot v, by simp [Array.getElem?_setIfInBounds, hA], q2, q3, ?_⟩ (fun i _ => vp_updV_set (by rw [hlen]; exact hj) v i)⟩
      rw [hsl]
      exact t_set q4 hap hj v
  rcases hlink with hl | ⟨host, hl⟩
  · exact W.putf y1 y2 y6 (hts _ hl) (am_same hT hsame _ hi) hst hf2 q1 (by rw [q3]; exact fun z => by cases z) hlt hft.1 (by rw [q2, q3]; exact hft.2) rfl rfl hd key
  · exact va_Wputf y1 y2 y6 (va_Nw.use rfl (hT.2.1 _ hl)) (am_same hT hsame _ hi) hst hf2 q1 (by rw [q3]; exact fun z => by cases z) hlt hft.1 (by rw [q2, q3]; exact hft.2) rfl rfl hd key
/-- a static field that nobody writes -/
theorem am_gets {idx : Nat} {C nm ds ref : String} {v : Value} (hd : am_D y.2.2.1 pc (.getstatic idx) 3 pc1) (hl : Cond.fieldLink y.1 idx ref nm ds ∈ am_wz) (hs : ref = C ∨ Cond.sameField ref C nm ds ∈ am_wz) (hz : (C, nm, ds, v) ∈ g.sta) (h : am_W g y d lo post pc1 L (v :: st) S) : am_W g y d lo post pc L st S := by
  obtain ⟨hd, rfl⟩ := hd
  refine am_lift (by rfl) (fun k n rv RS h => ?_) h
  intro p e s m args below meth c H locs cells slots mc ms ls Y
  have W1 := h p e s m args below meth c H locs cells slots mc ms ls Y
  obtain ⟨y1, y2, -, -, -, y6, -, hT, -, -, -, hR, -⟩ := Y
  obtain ⟨cf, kf, fi, f, a, cell, h1, h2, h3, h4, h5, h6, h7, h8⟩ := hT.2.2.2.2.2.2.2.1 _ hz
  have hsame : s.fieldFound? ref nm ds = some (cf, kf, fi, f) := by
    rcases hs with rfl | hs
    · exact h1
    · exact u_same (hT.word #[] hs) _ h1
  exact W.gets y1 y2 y6 (hT.word args hl) hsame h2 h3 h4 (by rw [hR.2.2.1 a (Nat.not_le.mp h8)]; exact h5) (fun z => by rw [z] at h6; cases h6) h7 rfl hd W1
/-- a new object -/
theorem am_new {idx ci : Nat} (t : Nat) {q : vw_C} {fs : List Value} (hd : am_D y.2.2.1 pc (.new idx) 3 pc1) (hc : am_cl[ci]? = some q) (hl : Cond.classLink y.1 idx q.1 ∈ am_wz) (hi : Cond.instantiable q.1 q.2.2 ∈ am_wz) (hini : Cond.initialized q.1 ∈ am_wz) (hlen : fs.length = q.2.2) (hfs : ∀ j, j < q.2.2 → ∃ ty, parseFieldDescriptor (q.2.1 j).2.2.1 = some ty ∧ defaultValue ty = vp_V fs j)
    (h : am_W g y d lo post pc1 L (.ref S.2.1 :: st) (am_mk S t q.2.2 (.inr (ci, fs)))) : am_W g y d lo post pc L st S := by
  obtain ⟨hd, rfl⟩ := hd
  refine am_liftN (by rfl) (by rfl) (fun k n rv RS h => ?_) h
  intro p e s m args below meth c H locs cells slots mc ms ls Y
  obtain ⟨y1, y2, y3, y4, y5, y6, y7, hT, y9, y10, y11, hR, hL⟩ := Y
  have hts : ∀ w ∈ am_wz, w.before args s = true := fun w hw => hT.word args hw
  have hq := am_cl_ok ci q hc
  have hKn := hT.2.2.2.2.2.1 ci q hc
  refine W.newcK y1 y2 y6 (hts _ hl) (hts _ hi) (hts _ hini) rfl hd (by show cells + 1 ≤ mc; omega) (by show slots + q.2.2 ≤ ms; omega) hKn.2.1 (h := S.2.1) hR.1 fun H1 kC hkC e1 z1 o1 => ?_
  refine h p e s m args below meth c H1 locs (cells + 1) (slots + q.2.2) mc ms ls ⟨y1, y2, y3, y4, y5, y6, y7, hT, by omega, by omega, y11, ?_, hL⟩
  refine hR.push _ _ (by rw [hR.1]; exact z1) (fun x hx => o1 x (by rw [← hR.1]; exact hx)) ⟨q, hc, hlen, ?_⟩
  have hty : ∀ j, j < q.2.2 → parseFieldDescriptor (q.2.1 j).2.2.1 = some ((parseFieldDescriptor (q.2.1 j).2.2.1).getD .int) := fun j hj => by
    obtain ⟨ty, h1, -⟩ := hfs j hj
    rw [h1]; rfl
  refine (u_born (fun j => (parseFieldDescriptor (q.2.1 j).2.2.1).getD .int) hts hq.1 hKn hkC e1 hty).to (fun j hj => ?_)
  obtain ⟨ty, h1, h2⟩ := hfs j hj
  rw [h1]; exact h2
theorem am_newcell (cA : ClassId) (N : Nat) (v : Value) : arrV cA N (fun _ => v) = am_cell cA (List.replicate N v) := by
  rw [← arrV_new]
  unfold am_cell
  rw [List.toArray_replicate]
/-- a new array of numbers -/
theorem am_newa {t : Nat} (tg : Nat) {atype : ArrayType} {x : Int32} {N : Nat} {v : Value} (hd : am_D y.2.2.1 pc (.newarray atype) 2 pc1) (ht : am_ak[t]? = some (newarray.typeOf atype)) (hw : Cond.arrayClass (newarray.typeOf atype) ∈ am_wz) (hx : ¬ x < 0) (hN : x.toNatClampNeg = N) (hbytes : N * componentBytes (newarray.typeOf atype) ≤ 536870912) (hv : defaultValue (newarray.typeOf atype) = v)
    (h : am_W g y d lo post pc1 L (.ref S.2.1 :: st) (am_mk S tg N (.inl (t, List.replicate N v)))) : am_W g y d lo post pc L (.int x :: st) S := by
  obtain ⟨hd, rfl⟩ := hd
  refine am_liftN (by rfl) (by rfl) (fun k n rv RS h => ?_) h
  intro p e s m args below meth c H locs cells slots mc ms ls Y
  obtain ⟨y1, y2, y3, y4, y5, y6, y7, hT, y9, y10, y11, hR, hL⟩ := Y
  subst hv
  refine va_newaK y1 y2 (hT.word args hw) rfl hd rfl hx hN hbytes (by show cells + 1 ≤ mc; omega) (by show slots + N ≤ ms; omega) (h := S.2.1) hR.1 fun H1 cA e1 z1 o1 hAr hNm => ?_
  have hcA : cA = g.arr t := by
    have h1 := (hT.2.2.2.2.2.2.1 t _ ht).2
    have h2 : s.vm.findClass ("[" ++ (newarray.typeOf atype).toString) = some (g.arr t) := by cases atype <;> exact h1
    exact Option.some.inj (hNm.symm.trans h2)
  refine h p e s m args below meth c H1 locs (cells + 1) (slots + N) mc ms ls ⟨y1, y2, y3, y4, y5, y6, y7, hT, by omega, by omega, y11, ?_, hL⟩
  refine hR.push _ _ (by rw [hR.1]; exact z1) (fun x hx => o1 x (by rw [← hR.1]; exact hx)) ?_
  show H1[S.2.1]? = some (am_cell (g.arr t) (List.replicate N _))
  rw [← hcA, ← am_newcell]
  exact e1
/-- a new array of references -/
theorem am_newq {idx t : Nat} (tg : Nat) {C : String} {x : Int32} {N : Nat} (hd : am_D y.2.2.1 pc (.anewarray idx) 3 pc1) (ht : am_ak[t]? = some (.object C)) (hl : Cond.classLink y.1 idx C ∈ am_wz) (hO : C ∈ am_nO) (hx : ¬ x < 0) (hN : x.toNatClampNeg = N) (hbytes : N * 4 ≤ 536870912)
    (h : am_W g y d lo post pc1 L (.ref S.2.1 :: st) (am_mk S tg N (.inl (t, List.replicate N .null)))) : am_W g y d lo post pc L (.int x :: st) S := by
  obtain ⟨hd, rfl⟩ := hd
  refine am_liftN (by rfl) (by rfl) (fun k n rv RS h => ?_) h
  intro p e s m args below meth c H locs cells slots mc ms ls Y
  obtain ⟨y1, y2, y3, y4, y5, y6, y7, hT, y9, y10, y11, hR, hL⟩ := Y
  subst hN
  refine W.anew y1 y2 y6 (hT.word args hl) (va_AO.use (hT.2.2.2.2.1 _ hO)) rfl hd rfl hx hbytes (by show cells + 1 ≤ mc; omega) (by show slots + _ ≤ ms; omega) fun cA kA comp f1 f2 f3 f4 => ?_
  have hcA : cA = g.arr t := by
    obtain ⟨kA', comp', k1, k2, k3, k4⟩ := (hT.2.2.2.2.2.2.1 t _ ht).2
    exact Option.some.inj (f1.symm.trans k4)
  subst hcA
  have e2 : (.ref H.size : Value) = .ref S.2.1 := by rw [hR.1]
  rw [e2]
  refine h p e s m args below meth c _ locs (cells + 1) _ mc ms ls ⟨y1, y2, y3, y4, y5, y6, y7, hT, by omega, by omega, y11, ?_, hL⟩
  refine hR.push _ _ (Array.size_push _) (fun x hx => by rw [Array.getElem?_push, if_neg (Nat.ne_of_lt hx)]) ?_
  show (H.push _)[S.2.1]? = some (am_cell (g.arr t) (List.replicate _ _))
  rw [← hR.1, Array.getElem?_push_size]
  unfold am_cell
  rw [List.toArray_replicate]
theorem am_isArr {s : State} {cA : ClassId} {ty : FieldType} (h : ArrOfT s cA ty) (vs : List Value) : s.isArrayOf (am_cell cA vs) ty := by
  have e : am_cell cA vs = arrV cA vs.length (fun j => vs.getD j .null) := by
    unfold am_cell arrV
    congr 1
    apply Array.ext
    · simp
    · intro i h1 h2
      simp at h1
      simp [h1]
  rw [e]
  exact h _ _
theorem am_alen {tg t a : Nat} {vs : List Value} {v : Int32} {ty : FieldType} (hd : am_D y.2.2.1 pc (.arraylength) 1 pc1) (ht : am_ak[t]? = some ty) (ha : S.1 a = some (tg, .inl (t, vs))) (hv : Int32.ofNat vs.length = v) (h : am_W g y d lo post pc1 L (.int v :: st) S) : am_W g y d lo post pc L (.ref a :: st) S := by
  obtain ⟨hd, rfl⟩ := hd
  refine am_lift (by rfl) (fun k n rv RS h => ?_) h
  intro p e s m args below meth c H locs cells slots mc ms ls Y
  have W1 := h p e s m args below meth c H locs cells slots mc ms ls Y
  obtain ⟨y1, y2, -, -, -, y6, -, hT, -, -, -, hR, -⟩ := Y
  exact W.alen (n := v) y1 y2 (hR.2.2.2.1 a _ _ ha) (am_isArr (hT.2.2.2.2.2.2.1 t _ ht).1 vs) (by rw [← hv]; simp [am_cell]) rfl rfl hd W1
/-- reading: int, boolean, reference -/
theorem am_inb {cA : ClassId} {vs : List Value} {x : Int32} {j : Nat} (hx : x = nI j) (hj : j < vs.length) (hl : vs.length < 2 ^ 31) : ¬ (x < 0 ∨ (am_cell cA vs).slots.size ≤ x.toNatClampNeg) ∧ x.toNatClampNeg = j := by
  subst hx
  have e := nI_clamp (n := j) (by omega)
  refine ⟨fun h => ?_, e⟩
  rcases h with h | h
  · exact nI_pos (by omega) h
  · rw [e] at h
    simp [am_cell] at h
    omega
theorem am_iald {tg t a j : Nat} {vs : List Value} {x : Int32} {v : Value} (hd : am_D y.2.2.1 pc (.iaload) 1 pc1) (ht : am_ak[t]? = some .int) (ha : S.1 a = some (tg, .inl (t, vs))) (hx : x = nI j) (hv : vs[j]? = some v) (hl : vs.length < 2 ^ 31) (h : am_W g y d lo post pc1 L (v :: st) S) : am_W g y d lo post pc L (.int x :: .ref a :: st) S := by
  obtain ⟨hd, rfl⟩ := hd
  refine am_lift (by rfl) (fun k n rv RS h => ?_) h
  intro p e s m args below meth c H locs cells slots mc ms ls Y
  have W1 := h p e s m args below meth c H locs cells slots mc ms ls Y
  obtain ⟨y1, y2, -, -, -, y6, -, hT, -, -, -, hR, -⟩ := Y
  obtain ⟨hin, hc⟩ := am_inb (cA := g.arr t) hx (List.getElem?_eq_some_iff.mp hv).1 hl
  exact W.iald (v := v) y1 y2 (hR.2.2.2.1 a _ _ ha) (am_isArr (hT.2.2.2.2.2.2.1 t _ ht).1 vs) (fun z => by cases z) hin (by rw [hc]; simpa [am_cell] using hv) rfl rfl hd W1
theorem am_zald {tg t a j : Nat} {vs : List Value} {x : Int32} {v : Value} (hd : am_D y.2.2.1 pc (.baload) 1 pc1) (ht : am_ak[t]? = some .boolean) (ha : S.1 a = some (tg, .inl (t, vs))) (hx : x = nI j) (hv : vs[j]? = some v) (hl : vs.length < 2 ^ 31) (h : am_W g y d lo post pc1 L (v :: st) S) : am_W g y d lo post pc L (.int x :: .ref a :: st) S := by
  obtain ⟨hd, rfl⟩ := hd
  refine am_lift (by rfl) (fun k n rv RS h => ?_) h
  intro p e s m args below meth c H locs cells slots mc ms ls Y
  have W1 := h p e s m args below meth c H locs cells slots mc ms ls Y
  obtain ⟨y1, y2, -, -, -, y6, -, hT, -, -, -, hR, -⟩ := Y
  obtain ⟨hin, hc⟩ := am_inb (cA := g.arr t) hx (List.getElem?_eq_some_iff.mp hv).1 hl
  exact W.zald (v := v) y1 y2 (hR.2.2.2.1 a _ _ ha) (am_isArr (hT.2.2.2.2.2.2.1 t _ ht).1 vs) (fun z => by cases z) hin (by rw [hc]; simpa [am_cell] using hv) rfl rfl hd W1
theorem am_aald {tg t a j : Nat} {vs : List Value} {x : Int32} {v : Value} {ty : FieldType} (hd : am_D y.2.2.1 pc (.aaload) 1 pc1) (ht : am_ak[t]? = some ty) (hr : ty.isReference = true) (ha : S.1 a = some (tg, .inl (t, vs))) (hx : x = nI j) (hv : vs[j]? = some v) (hl : vs.length < 2 ^ 31) (h : am_W g y d lo post pc1 L (v :: st) S) : am_W g y d lo post pc L (.int x :: .ref a :: st) S := by
  obtain ⟨hd, rfl⟩ := hd
  refine am_lift (by rfl) (fun k n rv RS h => ?_) h
  intro p e s m args below meth c H locs cells slots mc ms ls Y
  have W1 := h p e s m args below meth c H locs cells slots mc ms ls Y
  obtain ⟨y1, y2, -, -, -, y6, -, hT, -, -, -, hR, -⟩ := Y
  obtain ⟨hin, hc⟩ := am_inb (cA := g.arr t) hx (List.getElem?_eq_some_iff.mp hv).1 hl
  exact W.aald (v := v) y1 y2 (hR.2.2.2.1 a _ _ ha) (am_isArr (hT.2.2.2.2.2.2.1 t _ ht).1 vs) hr (fun z => by cases z) hin (by rw [hc]; simpa [am_cell] using hv) rfl rfl hd W1
theorem am_cellset (cA : ClassId) (vs : List Value) (j : Nat) (v : Value) : (am_cell cA vs).setSlot j v = am_cell cA (vs.set j v) := by
  simp [am_cell, Cell.setSlot]
/-- what is common to writes into an array -/
theorem am_wrote {k n : Nat} {rv : Option Value} {RS : am_S} {tg t a j : Nat} {vs : List Value} {v : Value} {p : Program} {e : Env} {s : State} {m : MethodId} {args : Array Value} {below : List Frame} {meth : Method} {c : Code} {H H1 : Heap} {locs : List Loc} {cells slots mc ms : Nat} {ls : Array Slot} (Y : am_Y g y k n L S p s m meth c H locs cells slots mc ms ls) (ho : g.old.size ≤ a) (h : am_V g y d lo k n rv RS pc L st (am_up S a tg (.inl (t, vs.set j v))))
    (e1 : H1[a]? = some ((am_cell (g.arr t) vs).setSlot j v)) (z : H1.size = H.size) (oq : ∀ q : Nat, q ≠ a → H1[q]? = H[q]?) :
    W p g.1 e { frames := d, cells := mc, slots := ms, locals := lo } s m args below meth c H1 (locs ++ [⟨a, j⟩]) cells slots (MQ below (am_Q g rv RS) args s mc ms (fun q => g.old.size ≤ q)) (F0 m pc ls st) := by
  obtain ⟨y1, y2, y3, y4, y5, y6, y7, hT, y9, y10, y11, hR, hL⟩ := Y
  refine h p e s m args below meth c H1 _ cells slots mc ms ls ⟨y1, y2, y3, y4, y5, y6, y7, hT, y9, y10, ?_, hR.put tg ho z oq ?_, hL⟩
  · intro x hx
    rcases List.mem_append.mp hx with hx | hx
    · exact y11 x hx
    · rw [List.mem_singleton.mp hx]; exact ho
  · show H1[a]? = some (am_cell (g.arr t) (vs.set j v))
    rw [e1, am_cellset]
theorem am_iast {tg t a j : Nat} {vs : List Value} {x v : Int32} (hd : am_D y.2.2.1 pc (.iastore) 1 pc1) (ht : am_ak[t]? = some .int) (ha : S.1 a = some (tg, .inl (t, vs))) (ht0 : tg ≠ 0) (hx : x = nI j) (hj : j < vs.length) (hl : vs.length < 2 ^ 31) (h : am_W g y d lo post pc1 L st (am_up S a tg (.inl (t, vs.set j (.int v))))) : am_W g y d lo post pc L (.int v :: .int x :: .ref a :: st) S := by
  obtain ⟨hd, rfl⟩ := hd
  refine am_lift (by rfl) (fun k n rv RS h => ?_) h
  intro p e s m args below meth c H locs cells slots mc ms ls Y
  obtain ⟨hin, hc⟩ := am_inb (cA := g.arr t) hx hj hl
  refine W.iast Y.1 Y.2.1 (Y.2.2.2.2.2.2.2.2.2.2.2.1.2.2.2.1 a _ _ ha) (am_isArr (Y.2.2.2.2.2.2.2.1.2.2.2.2.2.2.1 t _ ht).1 vs) (fun z => by cases z) hin rfl rfl hd fun H1 e1 z oq => ?_
  rw [hc] at e1 ⊢
  exact am_wrote Y (Y.2.2.2.2.2.2.2.2.2.2.2.1.2.2.2.2 a _ _ ha ht0) h e1 z oq
theorem am_aastN {tg t a j : Nat} {vs : List Value} {x : Int32} {C : String} (hd : am_D y.2.2.1 pc (.aastore) 1 pc1) (ht : am_ak[t]? = some (.object C)) (ha : S.1 a = some (tg, .inl (t, vs))) (ht0 : tg ≠ 0) (hx : x = nI j) (hj : j < vs.length) (hl : vs.length < 2 ^ 31) (h : am_W g y d lo post pc1 L st (am_up S a tg (.inl (t, vs.set j .null)))) : am_W g y d lo post pc L (.null :: .int x :: .ref a :: st) S := by
  obtain ⟨hd, rfl⟩ := hd
  refine am_lift (by rfl) (fun k n rv RS h => ?_) h
  intro p e s m args below meth c H locs cells slots mc ms ls Y
  obtain ⟨hin, hc⟩ := am_inb (cA := g.arr t) hx hj hl
  refine va_WaastN (C := C) Y.1 Y.2.1 (Y.2.2.2.2.2.2.2.2.2.2.2.1.2.2.2.1 a _ _ ha) (am_isArr (Y.2.2.2.2.2.2.2.1.2.2.2.2.2.2.1 t _ ht).1 vs) (fun z => by cases z) hin rfl rfl hd fun H1 e1 z oq => ?_
  rw [hc] at e1 ⊢
  exact am_wrote Y (Y.2.2.2.2.2.2.2.2.2.2.2.1.2.2.2.2 a _ _ ha ht0) h e1 z oq
end AMH
/-! rows of the logic: ends of methods, calls -/
section AME
variable {g : am_G} {y : am_N} {d lo : Nat} {post : Option Value → am_S → Prop} {pc pc1 : Nat} {L : List (Option Value)} {st : List Value} {S : am_S}
theorem am_iret {x : Int32} {ty : FieldType} (hd : am_D y.2.2.1 pc (.ireturn) 1 pc1) (hr : y.2.2.2.2 = some ty) (hn : narrow ty (.int x) = .int x) (hp : post (some (.int x)) S) : am_W g y d lo post pc L [.int x] S := by
  obtain ⟨hd, rfl⟩ := hd
  refine am_end ?_ hp
  intro p e s m args below meth c H locs cells slots mc ms ls Y
  obtain ⟨y1, y2, y3, y4, y5, y6, y7, hT, y9, y10, y11, hR, hL⟩ := Y
  refine W.widen (k := mc) (n := ms) (by omega) (by omega) ?_
  exact W.zret y1 y2 (y4.trans hr) hn (fun t ht _ => ⟨rfl, by rw [ht]; exact hR⟩) y11 hd y5
theorem am_vret (hd : am_D y.2.2.1 pc (.return_) 1 pc1) (hr : y.2.2.2.2 = none) (hp : post none S) : am_W g y d lo post pc L [] S := by
  obtain ⟨hd, rfl⟩ := hd
  refine am_end ?_ hp
  intro p e s m args below meth c H locs cells slots mc ms ls Y
  obtain ⟨y1, y2, y3, y4, y5, y6, y7, hT, y9, y10, y11, hR, hL⟩ := Y
  refine W.widen (k := mc) (n := ms) (by omega) (by omega) ?_
  exact W.vret y1 y2 (y4.trans hr) (fun t ht _ => ⟨rfl, by rw [ht]; exact hR⟩) y11 hd y5
theorem am_aret {v : Value} {ty : FieldType} (hd : am_D y.2.2.1 pc (.areturn) 1 pc1) (hr : y.2.2.2.2 = some ty) (hrt : (∃ nm, ty = .object nm) ∨ ∃ t, ty = .array t) (hv : am_rv v) (hp : post (some v) S) : am_W g y d lo post pc L [v] S := by
  obtain ⟨hd, rfl⟩ := hd
  refine am_end ?_ hp
  intro p e s m args below meth c H locs cells slots mc ms ls Y
  obtain ⟨y1, y2, y3, y4, y5, y6, y7, hT, y9, y10, y11, hR, hL⟩ := Y
  refine W.widen (k := mc) (n := ms) (by omega) (by omega) ?_
  exact W.aret y1 y2 (y4.trans hr) hrt hv (fun t ht _ => ⟨rfl, by rw [ht]; exact hR⟩) y11 hd y5
/-- the link of a call, plain or across the nest -/
def am_ML (own : String) (idx : Nat) (x : MethodName) : Prop := Cond.methodLink own idx x ∈ am_wz ∨ ∃ host, (own, idx, x, host) ∈ am_nM
/-- what every call asks of the callee's name: its code's word, its class, the number of its parameters -/
def am_CY (yc : am_N) (desc : String) (np : Nat) : Prop := Cond.code ⟨yc.1, yc.2.1, desc⟩ yc.2.2.1 yc.2.2.2.1 yc.2.2.2.2 ∈ am_wz ∧ Cond.initialized yc.1 ∈ am_wz ∧ yc.1 ≠ "java/lang/invoke/MethodHandle" ∧ yc.1 ≠ "java/lang/invoke/VarHandle" ∧ (parseMethodDescriptor desc).map (fun x => x.parameters.length) = some np
theorem am_blind (g : am_G) (vs : List Value) (S : am_S) : FrameBlind (va_Pc vs (fun U => am_T g U ∧ am_R g S U.heap)) := fun a _ f mk q => ⟨q.1, q.2.1.calling f mk a, q.2.2⟩
theorem am_preS {s : State} {H : Heap} (hT : am_T g s) (hR : am_R g S H) (vs : List Value) : PreS s H (va_Pc vs (fun U => am_T g U ∧ am_R g S U.heap)) vs :=
  ⟨am_blind g vs S, fun U hU hW => ⟨rfl, hT.warm hW, by rw [hU]; exact hR⟩⟩
/-- behind a call -/
theorem am_after {p : Program} {e : Env} {R : Room} {s : State} {m : MethodId} {args A : Array Value} {below : List Frame} {meth : Method} {c : Code} {H : Heap} {locs : List Loc} {cells slots kc nc : Nat} {ls : Array Slot} {st0 rest : List Value} {Q : State → Prop} {v : Option Value} {S1 : am_S} (y11 : ∀ q ∈ locs, g.old.size ≤ q.base)
    (hr : va_Run p g.1 e R s m args below meth c H locs cells slots kc nc (F0 m pc ls st0) rest (am_Q g v S1 A) (fun q => g.old.size ≤ q))
    (kk : ∀ (H1 : Heap) (locs1 : List Loc), am_R g S1 H1 → (∀ q ∈ locs1, g.old.size ≤ q.base) → W p g.1 e R s m args below meth c H1 locs1 (cells + kc) (slots + nc) Q (F0 m (pc + 3) ls (v.toList ++ rest))) : W p g.1 e R s m args below meth c H locs cells slots Q (F0 m pc ls st0) := by
  intro T hT X
  obtain ⟨v', st₀, t, T', L', h0, X', hL, e1, e2, ⟨hv, hR⟩, stp⟩ := hr T hT X
  cases hv
  obtain ⟨t2, a1, b1⟩ := kk T'.heap (locs ++ L') (by rw [e1]; exact hR) (fun q hq => by
    rcases List.mem_append.mp hq with h | h
    · exact y11 q h
    · exact hL q h) T' rfl X'
  exact ⟨t2, stp t2 a1, b1⟩
/-- a call, as the judgement sees it -/
theorem am_liftC {dc lc : Nat} {yc : am_N} {desc : String} {vs stk : List Value} {postc : Option Value → am_S → Prop} (hc : am_M g yc desc dc lc vs S postc)
    (f : ∀ k n kc nc v S1 rv RS, am_N0 g yc desc dc lc kc nc vs S v S1 → am_V g y d lo k n rv RS (pc + 3) L (v.toList ++ st) S1 → am_V g y d lo (k + kc) (n + nc) rv RS pc L stk S)
    (h : ∀ v S', postc v S' → am_W g y d lo post (pc + 3) L (v.toList ++ st) S') : am_W g y d lo post pc L stk S := by
  obtain ⟨v, S1, m1, m2, hN, hp⟩ := hc
  obtain ⟨rv, RS, w1, w2, w3, w4⟩ := h v S1 hp
  have h5 := f _ _ _ _ _ _ _ _ hN w3
  have a1 : RS.2.1 - S1.2.1 + (S1.2.1 - S.2.1) = RS.2.1 - S.2.1 := by omega
  have a2 : RS.2.2 - S1.2.2 + (S1.2.2 - S.2.2) = RS.2.2 - S.2.2 := by omega
  rw [a1, a2] at h5
  exact ⟨rv, RS, by omega, by omega, h5, w4⟩
theorem am_rest {m : MethodId} {ls : Array Slot} {st0 rest : List Value} (h : (rest.map fun v => v.category).sum ≤ 8) : 2 * (F0 m pc ls st0).monitorRoom + (rest.map fun v => v.category).sum ≤ 8 := by
  show 2 * 0 + _ ≤ 8
  omega
section
variable {idx np dc lc : Nat} {yc : am_N} {desc : String} {vs stk : List Value} {postc : Option Value → am_S → Prop}
theorem am_warmC {s : State} {np : Nat} {yc : am_N} {desc : String} (hT : am_T g s) (hC : am_CY yc desc np) : ∀ w ∈ [Cond.code ⟨yc.1, yc.2.1, desc⟩ yc.2.2.1 yc.2.2.2.1 yc.2.2.2.2], ∀ (a' : Array Value) (U : State), s.WarmedH U.vm → w.before a' U = true := fun w hw a' U hW => by
  rw [List.mem_singleton.mp hw]
  exact (hT.warm hW).word a' hC.1
theorem am_np (hC : am_CY yc desc np) : ∀ sig, parseMethodDescriptor desc = some sig → np = sig.parameters.length := fun sig h => by
  have h2 := hC.2.2.2.2
  rw [h] at h2
  exact (Option.some.inj h2).symm
/-- a call of a static method -/
theorem am_callS (hd : am_D y.2.2.1 pc (.invokestatic idx) 3 pc1) (hC : am_CY yc desc np) (hM : am_ML y.1 idx ⟨yc.1, yc.2.1, desc⟩) (hs : Cond.static ⟨yc.1, yc.2.1, desc⟩ ∈ am_wz) (hst : stk = vs.reverse ++ st) (hn : vs.length = np) (hc : am_M g yc desc dc lc vs S postc) (hr : dc + 1 ≤ d ∧ 8 + (yc.2.2.2.1 + 11) + lc ≤ lo) (h8 : (st.map fun v => v.category).sum ≤ 8)
    (h : ∀ v S', postc v S' → am_W g y d lo post pc1 L (v.toList ++ st) S') : am_W g y d lo post pc L stk S := by
  obtain ⟨hd, rfl⟩ := hd
  refine am_liftC hc (fun k n kc nc v S1 rv RS hc h => ?_) h
  intro p e s m args below meth c H locs cells slots mc ms ls Y
  obtain ⟨y1, y2, y3, y4, y5, y6, y7, hT, y9, y10, y11, hR, hL⟩ := Y
  refine am_after (A := vs.toArray) (rest := st) (kc := kc) (nc := nc) y11 ?_ (fun H1 locs1 hR' hl' => h p e s m args below meth c H1 locs1 (cells + kc) (slots + nc) mc ms ls ⟨y1, y2, y3, y4, y5, y6, y7, hT, by omega, by omega, hl', hR', hL⟩)
  have hfix : CallFix p m c y.2.2.1 y.2.2.2.1 s args am_wz y.1 := ⟨y1, y2, y3, y6, fun w hw => hT.word args hw⟩
  rcases hM with hl | ⟨host, hl⟩
  · exact va_runS (n := np) hfix hc ⟨⟨rfl, rfl, hr.1, hr.2, am_warmC hT hC, List.mem_singleton_self _, hT.word args hC.1, hT.word args hC.2.1, ⟨hC.2.2.1, hC.2.2.2.1⟩, am_np hC, hT.word args hl⟩, hT.word args hs⟩ (am_preS hT hR vs) rfl hn hL.1 hst (am_rest h8) hd ⟨by show cells + kc ≤ mc; omega, by show slots + nc ≤ ms; omega⟩
  · exact va_runSN (n := np) hfix hc ⟨⟨⟨rfl, rfl, hr.1, hr.2, am_warmC hT hC, List.mem_singleton_self _⟩, hT.word args hC.1, hT.word args hC.2.1, ⟨hC.2.2.1, hC.2.2.2.1⟩, am_np hC, va_Nw.use rfl (hT.2.2.1 _ hl)⟩, hT.word args hs, trivial⟩ (am_preS hT hR vs) rfl hn hL.1 hst (am_rest h8) hd ⟨by show cells + kc ≤ mc; omega, by show slots + nc ≤ ms; omega⟩
/-- a call of a constructor -/
theorem am_callI {b : Nat} (hd : am_D y.2.2.1 pc (.invokespecial idx) 3 pc1) (hC : am_CY yc desc np) (hin : yc.2.1 = "<init>") (hre : yc.2.2.2.2 = none) (hM : am_ML y.1 idx ⟨yc.1, yc.2.1, desc⟩) (hs : Cond.instanceMethod ⟨yc.1, yc.2.1, desc⟩ ∈ am_wz) (hst : stk = vs.reverse ++ .ref b :: st) (hn : vs.length = np) (hc : am_M g yc desc dc lc (.ref b :: vs) S postc) (hr : dc + 1 ≤ d ∧ 8 + (yc.2.2.2.1 + 11) + lc ≤ lo) (h8 : (st.map fun v => v.category).sum ≤ 8)
    (h : ∀ v S', postc v S' → am_W g y d lo post pc1 L (v.toList ++ st) S') : am_W g y d lo post pc L stk S := by
  obtain ⟨hd, rfl⟩ := hd
  refine am_liftC hc (fun k n kc nc v S1 rv RS hc h => ?_) h
  intro p e s m args below meth c H locs cells slots mc ms ls Y
  obtain ⟨y1, y2, y3, y4, y5, y6, y7, hT, y9, y10, y11, hR, hL⟩ := Y
  obtain ⟨ycl, ynm, ybt, yml, yrt⟩ := yc
  simp only at hre hin
  subst hre
  refine am_after (A := (Value.ref b :: vs).toArray) (rest := st) (kc := kc) (nc := nc) y11 ?_ (fun H1 locs1 hR' hl' => h p e s m args below meth c H1 locs1 (cells + kc) (slots + nc) mc ms ls ⟨y1, y2, y3, y4, y5, y6, y7, hT, by omega, by omega, hl', hR', hL⟩)
  have hfix : CallFix p m c y.2.2.1 y.2.2.2.1 s args am_wz y.1 := ⟨y1, y2, y3, y6, fun w hw => hT.word args hw⟩
  rcases hM with hl | ⟨host, hl⟩
  · exact va_runI (n := np) hfix hc ⟨⟨rfl, rfl, hr.1, hr.2, am_warmC hT hC, List.mem_singleton_self _, hT.word args hC.1, hT.word args hC.2.1, ⟨hC.2.2.1, hC.2.2.2.1⟩, am_np hC, hT.word args hl⟩, hin, hT.word args hs⟩ (am_preS hT hR (.ref b :: vs)) rfl hn hL.1 hst (am_rest h8) hd ⟨by show cells + kc ≤ mc; omega, by show slots + nc ≤ ms; omega⟩
  · exact va_runIN (n := np) hfix hc ⟨⟨⟨rfl, rfl, hr.1, hr.2, am_warmC hT hC, List.mem_singleton_self _⟩, hT.word args hC.1, hT.word args hC.2.1, ⟨hC.2.2.1, hC.2.2.2.1⟩, am_np hC, va_Nw.use rfl (hT.2.2.1 _ hl)⟩, hin, hT.word args hs⟩ (am_preS hT hR (.ref b :: vs)) rfl hn hL.1 hst (am_rest h8) hd ⟨by show cells + kc ≤ mc; omega, by show slots + nc ≤ ms; omega⟩
/-- the object at an address, as calls and casts ask for it -/
theorem am_recv {s : State} {H : Heap} {b ci tb : Nat} {q : vw_C} {fs : List Value} (hT : am_T g s) (hR : am_R g S H) (hb : S.1 b = some (tb, .inr (ci, fs))) (hq : am_cl[ci]? = some q) : ∃ cell : Cell, H[b]? = some cell ∧ cell.vm.isStatics = false ∧ s.vm.findClass q.1 = some cell.cls := by
  obtain ⟨q', h1, -, cell, q1, q2, q3, -⟩ := hR.2.2.2.1 b _ _ hb
  cases h1.symm.trans hq
  exact ⟨cell, q1, by rw [q3]; rfl, by rw [q2]; exact (hT.2.2.2.2.2.1 ci q hq).2.1⟩
/-- a call of an object's method -/
theorem am_callV {b ci tb : Nat} {q : vw_C} {fs : List Value} (hd : am_D y.2.2.1 pc (.invokevirtual idx) 3 pc1) (hC : am_CY yc desc np) (hM : am_ML y.1 idx ⟨yc.1, yc.2.1, desc⟩) (hs : Cond.instanceMethod ⟨yc.1, yc.2.1, desc⟩ ∈ am_wz) (hq : am_cl[ci]? = some q) (hsel : Cond.selects q.1 ⟨yc.1, yc.2.1, desc⟩ ⟨yc.1, yc.2.1, desc⟩ ∈ am_wz) (hb : S.1 b = some (tb, .inr (ci, fs))) (hst : stk = vs.reverse ++ .ref b :: st) (hn : vs.length = np) (hc : am_M g yc desc dc lc (.ref b :: vs) S postc) (hr : dc + 1 ≤ d ∧ 8 + (yc.2.2.2.1 + 11) + lc ≤ lo) (h8 : (st.map fun v => v.category).sum ≤ 8)
    (h : ∀ v S', postc v S' → am_W g y d lo post pc1 L (v.toList ++ st) S') : am_W g y d lo post pc L stk S := by
  obtain ⟨hd, rfl⟩ := hd
  refine am_liftC hc (fun k n kc nc v S1 rv RS hc h => ?_) h
  intro p e s m args below meth c H locs cells slots mc ms ls Y
  obtain ⟨y1, y2, y3, y4, y5, y6, y7, hT, y9, y10, y11, hR, hL⟩ := Y
  refine am_after (A := (Value.ref b :: vs).toArray) (rest := st) (kc := kc) (nc := nc) y11 ?_ (fun H1 locs1 hR' hl' => h p e s m args below meth c H1 locs1 (cells + kc) (slots + nc) mc ms ls ⟨y1, y2, y3, y4, y5, y6, y7, hT, by omega, by omega, hl', hR', hL⟩)
  have hfix : CallFix p m c y.2.2.1 y.2.2.2.1 s args am_wz y.1 := ⟨y1, y2, y3, y6, fun w hw => hT.word args hw⟩
  have hpre : PreV s H q.1 b (va_Pc (.ref b :: vs) (fun U => am_T g U ∧ am_R g S U.heap)) vs := ⟨am_blind g _ S, am_recv hT hR hb hq, (am_preS hT hR (.ref b :: vs)).2⟩
  rcases hM with hl | ⟨host, hl⟩
  · exact va_runV (C := q.1) (n := np) hfix hc ⟨⟨rfl, rfl, hr.1, hr.2, am_warmC hT hC, List.mem_singleton_self _, hT.word args hC.1, hT.word args hC.2.1, ⟨hC.2.2.1, hC.2.2.2.1⟩, am_np hC, hT.word args hl⟩, hT.word args hs, hT.word args hsel⟩ hpre rfl hn hL.1 hst (am_rest h8) hd ⟨by show cells + kc ≤ mc; omega, by show slots + nc ≤ ms; omega⟩
  · exact va_runVN (C := q.1) (n := np) hfix hc ⟨⟨⟨rfl, rfl, hr.1, hr.2, am_warmC hT hC, List.mem_singleton_self _⟩, hT.word args hC.1, hT.word args hC.2.1, ⟨hC.2.2.1, hC.2.2.2.1⟩, am_np hC, va_Nw.use rfl (hT.2.2.1 _ hl)⟩, hT.word args hs, hT.word args hsel⟩ hpre rfl hn hL.1 hst (am_rest h8) hd ⟨by show cells + kc ≤ mc; omega, by show slots + nc ≤ ms; omega⟩
end
/-- Object's constructor -/
theorem am_objInit {idx b : Nat} (hd : am_D y.2.2.1 pc (.invokespecial idx) 3 pc1) (hl : Cond.methodLink y.1 idx Lib.objectInit ∈ am_wz) (hi : Cond.instanceMethod Lib.objectInit ∈ am_wz) (hc : Cond.code Lib.objectInit ⟨#[0xb1]⟩ 1 none ∈ am_wz) (h1 : 1 ≤ d) (h8 : (st.map fun v => v.category).sum + 12 ≤ lo) (h : am_W g y d lo post pc1 L st S) : am_W g y d lo post pc L (.ref b :: st) S := by
  obtain ⟨hd, rfl⟩ := hd
  refine am_lift (by rfl) (fun k n rv RS h => ?_) h
  intro p e s m args below meth c H locs cells slots mc ms ls Y
  have W1 := h p e s m args below meth c H locs cells slots mc ms ls Y
  obtain ⟨y1, y2, y3, y4, y5, y6, y7, hT, y9, y10, y11, hR, hL⟩ := Y
  refine W.objInit y1 y2 y6 (hT.word args hl) (hT.word args hi) (hT.word args hc) rfl (by rw [y3]; exact hL.1) rfl hd h1 ?_ W1
  show 2 * 0 + _ + 12 ≤ lo
  omega
/-- casts -/
theorem am_castN {idx : Nat} (hd : am_D y.2.2.1 pc (.checkcast idx) 3 pc1) (h : am_W g y d lo post pc1 L (.null :: st) S) : am_W g y d lo post pc L (.null :: st) S := by
  obtain ⟨hd, rfl⟩ := hd
  refine am_lift (by rfl) (fun k n rv RS h => ?_) h
  intro p e s m args below meth c H locs cells slots mc ms ls Y
  exact lv_castN Y.1 Y.2.1 hd (h p e s m args below meth c H locs cells slots mc ms ls Y)
theorem am_cast {idx b ci tb : Nat} {q : vw_C} {fs : List Value} {nm : String} (hd : am_D y.2.2.1 pc (.checkcast idx) 3 pc1) (hl : Cond.classLink y.1 idx nm ∈ am_wz) (hq : am_cl[ci]? = some q) (hn : q.1 = nm ∨ (q.1, nm) ∈ am_nC) (hb : S.1 b = some (tb, .inr (ci, fs))) (h : am_W g y d lo post pc1 L (.ref b :: st) S) : am_W g y d lo post pc L (.ref b :: st) S := by
  obtain ⟨hd, rfl⟩ := hd
  refine am_lift (by rfl) (fun k n rv RS h => ?_) h
  intro p e s m args below meth c H locs cells slots mc ms ls Y
  have W1 := h p e s m args below meth c H locs cells slots mc ms ls Y
  obtain ⟨y1, y2, y3, y4, y5, y6, y7, hT, y9, y10, y11, hR, hL⟩ := Y
  have hr := am_recv hT hR hb hq
  rcases hn with rfl | hn
  · exact va_castS y1 y2 y6 (hT.word args hl) (hT.2.2.2.2.2.1 ci q hq).2 hr hd W1
  · exact va_castY y1 y2 y6 (hT.word args hl) (hT.2.2.2.1 _ hn) hr hd W1
/-- a reference is written into an array: the object's class is the array's, or may stand for it -/
theorem am_aast {tg t a j b ci tb : Nat} {vs : List Value} {x : Int32} {C : String} {q : vw_C} {fs : List Value} (hd : am_D y.2.2.1 pc (.aastore) 1 pc1) (ht : am_ak[t]? = some (.object C)) (ha : S.1 a = some (tg, .inl (t, vs))) (ht0 : tg ≠ 0) (hb : S.1 b = some (tb, .inr (ci, fs))) (hq : am_cl[ci]? = some q) (hn : q.1 = C ∨ (q.1, C) ∈ am_nC) (hx : x = nI j) (hj : j < vs.length) (hl : vs.length < 2 ^ 31) (h : am_W g y d lo post pc1 L st (am_up S a tg (.inl (t, vs.set j (.ref b))))) : am_W g y d lo post pc L (.ref b :: .int x :: .ref a :: st) S := by
  obtain ⟨hd, rfl⟩ := hd
  refine am_lift (by rfl) (fun k n rv RS h => ?_) h
  intro p e s m args below meth c H locs cells slots mc ms ls Y
  have hT := Y.2.2.2.2.2.2.2.1
  have hR := Y.2.2.2.2.2.2.2.2.2.2.2.1
  obtain ⟨cellV, g1, g3, g2⟩ := am_recv hT hR hb hq
  obtain ⟨kA, comp, k1, k2, k3, -⟩ := (hT.2.2.2.2.2.2.1 t _ ht).2
  obtain ⟨kE, hkE, -⟩ := Vm.findClass_spec k3
  obtain ⟨kC, hkC, -⟩ := Vm.findClass_spec g2
  have hasg : s.vm.assignable cellV.cls comp = true := by
    rcases hn with hn | hn
    · exact vb_asgS comp cellV.cls k3 (by rw [← hn]; exact g2)
    · exact vb_asgC (hT.2.2.2.1 _ hn) comp cellV.cls k3 g2
  obtain ⟨hin, hc⟩ := am_inb (cA := g.arr t) hx hj hl
  refine W.aast Y.1 Y.2.1 (hR.2.2.2.1 a _ _ ha) (fun q h => by cases h) (fun h => by cases h) k1 k2 rfl hkE ⟨fun z => hin (Or.inl z), Nat.not_le.mp fun z => hin (Or.inr z)⟩ g1 (fun q h => by rw [h] at g3; cases g3) hkC hasg rfl rfl hd fun H1 e1 z oq => ?_
  rw [hc] at e1 ⊢
  exact am_wrote Y (hR.2.2.2.2 a _ _ ha ht0) h e1 z oq
end AME
/-! more rows: a boolean's write, copies, class objects, constants -/
section AMM
variable {g : am_G} {y : am_N} {d lo : Nat} {post : Option Value → am_S → Prop} {pc pc1 : Nat} {L : List (Option Value)} {st : List Value} {S : am_S}
theorem am_zast {tg t a j : Nat} {vs : List Value} {x v : Int32} (hd : am_D y.2.2.1 pc (.bastore) 1 pc1) (ht : am_ak[t]? = some .boolean) (ha : S.1 a = some (tg, .inl (t, vs))) (ht0 : tg ≠ 0) (hx : x = nI j) (hj : j < vs.length) (hl : vs.length < 2 ^ 31) (hv : narrow .boolean (.int v) = .int v) (h : am_W g y d lo post pc1 L st (am_up S a tg (.inl (t, vs.set j (.int v))))) : am_W g y d lo post pc L (.int v :: .int x :: .ref a :: st) S := by
  obtain ⟨hd, rfl⟩ := hd
  refine am_lift (by rfl) (fun k n rv RS h => ?_) h
  intro p e s m args below meth c H locs cells slots mc ms ls Y
  obtain ⟨hin, hc⟩ := am_inb (cA := g.arr t) hx hj hl
  refine W.zast Y.1 Y.2.1 (Y.2.2.2.2.2.2.2.2.2.2.2.1.2.2.2.1 a _ _ ha) (am_isArr (Y.2.2.2.2.2.2.2.1.2.2.2.2.2.2.1 t _ ht).1 vs) (fun z => by cases z) hin rfl rfl hd fun H1 e1 z oq => ?_
  rw [hc, hv] at e1
  rw [hc]
  exact am_wrote Y (Y.2.2.2.2.2.2.2.2.2.2.2.1.2.2.2.2 a _ _ ha ht0) h e1 z oq
theorem am_ldc {idx : Nat} {v : Int32} (hd : am_D y.2.2.1 pc (.ldc idx) 2 pc1) (hl : Cond.constant y.1 idx v ∈ am_wz) (h : am_W g y d lo post pc1 L (.int v :: st) S) : am_W g y d lo post pc L st S := by
  obtain ⟨hd, rfl⟩ := hd
  refine am_lift (by rfl) (fun k n rv RS h => ?_) h
  intro p e s m args below meth c H locs cells slots mc ms ls Y
  exact lv_ldc Y.1 Y.2.1 Y.2.2.2.2.2.1 (Y.2.2.2.2.2.2.2.1.word args hl) hd (h p e s m args below meth c H locs cells slots mc ms ls Y)
theorem am_ldcM {idx : Nat} (hd : am_D y.2.2.1 pc (.ldc idx) 2 pc1) (hl : Cond.classLink y.1 idx "[Ljava/lang/Object;" ∈ am_wz) (h : am_W g y d lo post pc1 L (.ref g.mir :: st) S) : am_W g y d lo post pc L st S := by
  obtain ⟨hd, rfl⟩ := hd
  refine am_lift (by rfl) (fun k n rv RS h => ?_) h
  intro p e s m args below meth c H locs cells slots mc ms ls Y
  exact va_ldcM Y.1 Y.2.1 Y.2.2.2.2.2.1 (Y.2.2.2.2.2.2.2.1.word args hl) Y.2.2.2.2.2.2.2.1.2.2.2.2.2.2.2.2.1 hd (h p e s m args below meth c H locs cells slots mc ms ls Y)
/-- the class of an array of objects -/
theorem am_getC {idx a tg t : Nat} {vs : List Value} (hd : am_D y.2.2.1 pc (.invokevirtual idx) 3 pc1) (hl : Cond.methodLink y.1 idx ⟨"java/lang/Object", "getClass", "()Ljava/lang/Class;"⟩ ∈ am_wz)
    (hsel : Cond.selects "[Ljava/lang/Object;" ⟨"java/lang/Object", "getClass", "()Ljava/lang/Class;"⟩ ⟨"java/lang/Object", "getClass", "()Ljava/lang/Class;"⟩ ∈ am_wz) (hinst : Cond.instanceMethod ⟨"java/lang/Object", "getClass", "()Ljava/lang/Class;"⟩ ∈ am_wz) (hnat : Cond.native ⟨"java/lang/Object", "getClass", "()Ljava/lang/Class;"⟩ ∈ am_wz)
    (ht : am_ak[t]? = some (.object "java/lang/Object")) (ha : S.1 a = some (tg, .inl (t, vs))) (h1 : 1 ≤ d) (h8 : (st.map fun v => v.category).sum + 14 ≤ lo) (h : am_W g y d lo post pc1 L (.ref g.mir :: st) S) : am_W g y d lo post pc L (.ref a :: st) S := by
  obtain ⟨hd, rfl⟩ := hd
  refine am_lift (by rfl) (fun k n rv RS h => ?_) h
  intro p e s m args below meth c H locs cells slots mc ms ls Y
  have W1 := h p e s m args below meth c H locs cells slots mc ms ls Y
  obtain ⟨y1, y2, y3, y4, y5, y6, y7, hT, y9, y10, y11, hR, hL⟩ := Y
  refine va_getC (C := "[Ljava/lang/Object;") y1 y2 (y3.trans hL.1.symm) y6 (hT.word args hl) hT.2.2.2.2.2.2.2.2.2.use (hT.word args hsel) (hT.word args hinst) (hT.word args hnat) hT.2.2.2.2.2.2.2.2.1 ⟨_, hR.2.2.2.1 a _ _ ha, rfl, ?_⟩ h1 h8 hd W1
  exact va_nmO (hT.2.2.2.2.2.2.1 t _ ht).2 rfl
/-- n places of xs from sp on, laid into ys from dp on -/
def am_cpy (xs ys : List Value) (sp dp n : Nat) : List Value := (List.range ys.length).map (fun k => if dp ≤ k ∧ k < dp + n then xs.getD (sp + (k - dp)) .null else ys.getD k .null)
theorem am_cpy_len (xs ys : List Value) (sp dp n : Nat) : (am_cpy xs ys sp dp n).length = ys.length := by simp [am_cpy]
theorem am_cellV (cA : ClassId) (vs : List Value) : am_cell cA vs = arrV cA vs.length (fun j => vs.getD j .null) := by
  unfold am_cell arrV
  congr 1
  apply Array.ext
  · simp
  · intro i h1 h2
    simp at h1
    simp [h1]
/-- null, or an object that may stand in an array of objects -/
def am_obj (S : am_S) (v : Value) : Prop := v = .null ∨ ∃ (b tb ci : Nat) (q : vw_C) (fs : List Value), v = .ref b ∧ S.1 b = some (tb, .inr (ci, fs)) ∧ am_cl[ci]? = some q ∧ (q.1, "java/lang/Object") ∈ am_nC
theorem am_copy {idx a0 a1 t tg0 tg1 sp dp N : Nat} {xs ys : List Value} (hd : am_D y.2.2.1 pc (.invokestatic idx) 3 pc1)
    (hl : Cond.methodLink y.1 idx arraycopyName ∈ am_wz) (hnat : Cond.native arraycopyName ∈ am_wz) (hstat : Cond.static arraycopyName ∈ am_wz) (hini : Cond.initialized "java/lang/System" ∈ am_wz)
    (ht : am_ak[t]? = some (.object "java/lang/Object")) (h0 : S.1 a0 = some (tg0, .inl (t, xs))) (h1 : S.1 a1 = some (tg1, .inl (t, ys))) (ht1 : tg1 ≠ 0) (hs : sp + N ≤ xs.length) (hdd : dp + N ≤ ys.length) (hxs : xs.length < 2 ^ 31) (hys : ys.length < 2 ^ 31)
    (hel : ∀ i, i < N → am_obj S (xs.getD (sp + i) .null)) (hfr : 1 ≤ d) (h8 : (st.map fun v => v.category).sum + 18 ≤ lo)
    (h : am_W g y d lo post pc1 L st (am_up S a1 tg1 (.inl (t, am_cpy xs ys sp dp N)))) : am_W g y d lo post pc L (.int (nI N) :: .int (nI dp) :: .ref a1 :: .int (nI sp) :: .ref a0 :: st) S := by
  obtain ⟨hd, rfl⟩ := hd
  refine am_lift (by rfl) (fun k n rv RS h => ?_) h
  intro p e s m args below meth c H locs cells slots mc ms ls Y
  obtain ⟨y1, y2, y3, y4, y5, y6, y7, hT, y9, y10, y11, hR, hL⟩ := Y
  have hc0 : H[a0]? = some (am_cell (g.arr t) xs) := hR.2.2.2.1 a0 _ _ h0
  have hc1 : H[a1]? = some (am_cell (g.arr t) ys) := hR.2.2.2.1 a1 _ _ h1
  obtain ⟨-, k0, hk0, cm0, hkk0⟩ := am_isArr (hT.2.2.2.2.2.2.1 t _ ht).1 xs
  have e1 : copied (am_cell (g.arr t) xs) (am_cell (g.arr t) ys) (nI sp) (nI dp) (nI N) = am_cell (g.arr t) (am_cpy xs ys sp dp N) := by
    have h2 := va_copied (fun z : Value => z) (g.arr t) (g.arr t) (n0 := xs.length) (n1 := ys.length) (sp := sp) (dp := dp) (n := N) (fun j => xs.getD j .null) (fun j => ys.getD j .null) hs
    unfold copied
    rw [nI_clamp (by omega : sp < 2 ^ 31), nI_clamp (by omega : dp < 2 ^ 31), nI_clamp (by omega : N < 2 ^ 31), am_cellV, am_cellV, am_cellV, am_cpy_len]
    refine h2.trans ?_
    unfold arrV
    congr 1
    apply Array.ext
    · simp
    · intro i i1 i2
      simp at i1
      simp [am_cpy, va_cpy, i1]
  have hl1 : a1 < H.size := (Array.getElem?_eq_some_iff.mp hc1).1
  intro T hTh X
  obtain ⟨vm', X', step⟩ := X.arraycopy y1 y6 (hT.word args hl) (hT.word args hnat) (hT.word args hstat) (hT.word args hini) (src := a0) (dst := a1) (cs := am_cell (g.arr t) xs) (cd := am_cell (g.arr t) ys) (srcPos := nI sp) (destPos := nI dp) (n := nI N) (by rw [hTh]; exact hc0) (by rw [hTh]; exact hc1)
    (fun _ h => by cases h) (fun _ h => by cases h) (fun h => by cases h) (fun h => by cases h) hk0 hk0 hkk0 hkk0 rfl (nI_pos (by omega)) (nI_pos (by omega)) (nI_pos (by omega))
    (by rw [nI_toInt (by omega), nI_toInt (by omega)]; simp [am_cell]; omega)
    (by rw [nI_toInt (by omega), nI_toInt (by omega)]; simp [am_cell]; omega)
    (fun vm₁ hal i hi => by
      rw [nI_clamp (by omega : N < 2 ^ 31)] at hi
      have e : (am_cell (g.arr t) xs).slots.getD ((nI sp).toNatClampNeg + i) .null = xs.getD (sp + i) .null := by
        rw [nI_clamp (by omega : sp < 2 ^ 31)]
        simp [am_cell]
      rw [e]
      rcases hel i hi with hn | ⟨b, tb, ci, q, fs, hb, hb2, hq, hca⟩
      · rw [hn]; exact ⟨rfl, trivial⟩
      · rw [hb]
        obtain ⟨cellV, g1, g2, g3⟩ := am_recv hT hR hb2 hq
        obtain ⟨kC, hkC, -⟩ := Vm.findClass_spec g3
        obtain ⟨kA, comp, r1, r2, r3, -⟩ := (hT.2.2.2.2.2.2.1 t _ ht).2
        cases hk0.symm.trans r1
        cases hkk0.symm.trans r2
        obtain ⟨kE, hkE, -⟩ := Vm.findClass_spec r3
        obtain ⟨kC', hkC', -⟩ := hal.2.2 _ _ hkC
        obtain ⟨kE', hkE', -⟩ := hal.2.2 _ _ hkE
        refine ⟨rfl, cellV, (show T.heap[b]? = some cellV by rw [hTh]; exact g1), (fun q h => by rw [h] at g2; cases g2), ⟨kC', hkC'⟩, ?_, ?_⟩
        · exact ⟨kE', hkE'⟩
        · show vm₁.assignable _ _ = true
          rw [hal.assignable]
          exact vb_asgC (hT.2.2.2.1 _ hca) _ _ r3 g3)
    (g := F0 m pc ls (.int (nI N) :: .int (nI dp) :: .ref a1 :: .int (nI sp) :: .ref a0 :: st)) rfl (by rw [y3]; exact hL.1) (rest := st) rfl (by rw [y2]; exact hd) hfr (by
      have hw : nativeFrameWords "java/lang/System" "arraycopy" 5 = 7 := by decide
      show 2 * 0 + _ + _ ≤ lo
      omega)
  rw [e1] at X' step
  have hheap : ((T.setVm vm').setCell a1 (am_cell (g.arr t) (am_cpy xs ys sp dp N))).heap = H.setIfInBounds a1 (am_cell (g.arr t) (am_cpy xs ys sp dp N)) := by rw [← hTh]; rfl
  obtain ⟨t', a1', b1⟩ := h p e s m args below meth c (H.setIfInBounds a1 (am_cell (g.arr t) (am_cpy xs ys sp dp N))) _ cells slots mc ms ls ⟨y1, y2, y3, y4, y5, y6, y7, hT, y9, y10, (fun q hq => by
      rcases List.mem_append.mp hq with h | h
      · exact y11 q h
      · obtain ⟨z, -, hz⟩ := List.mem_map.mp h
        rw [← hz]
        exact hR.2.2.2.2 a1 _ _ h1 ht1), hR.put tg1 (hR.2.2.2.2 a1 _ _ h1 ht1) (by simp) (fun q hq => by simp [Array.getElem?_setIfInBounds, Ne.symm hq]) (show (H.setIfInBounds a1 _)[a1]? = some _ by simp [Array.getElem?_setIfInBounds, hl1]), hL⟩ _ hheap X'
  exact ⟨t', step t' a1', b1⟩
end AMM
end
section
/-! the judgement over an abstract state: P says how a store holds it, X which tags may change -/
def gm_W {σ : Type} (P : σ → am_S → Prop) (X : Nat → Prop) (g : am_G) (y : am_N) (d lo : Nat) (post : Option Value → σ → Prop) (pc : Nat) (L : List (Option Value)) (st : List Value) (s : σ) : Prop :=
  ∀ S : am_S, P s S → am_W g y d lo (fun v S' => ∃ s', P s' S' ∧ am_fr X S S' ∧ post v s') pc L st S
def gm_M {σ : Type} (P : σ → am_S → Prop) (X : Nat → Prop) (g : am_G) (y : am_N) (desc : String) (d lo : Nat) (vs : List Value) (post : Option Value → σ → Prop) (s : σ) : Prop :=
  ∀ S : am_S, P s S → am_M g y desc d lo vs S (fun v S' => ∃ s', P s' S' ∧ am_fr X S S' ∧ post v s')
section GMR
variable {σ : Type} {P : σ → am_S → Prop} {X : Nat → Prop} {g : am_G} {y : am_N} {d lo : Nat} {post post' : Option Value → σ → Prop} {pc pc1 : Nat} {L L1 : List (Option Value)} {st st1 : List Value} {s : σ}
theorem gm_post (hp : ∀ v s', post v s' → post' v s') (h : gm_W P X g y d lo post pc L st s) : gm_W P X g y d lo post' pc L st s := fun S hS => am_post (fun v S' ⟨s', h1, h2, h3⟩ => ⟨s', h1, h2, hp v s' h3⟩) (h S hS)
theorem gm_Mpost {desc : String} {vs : List Value} (hp : ∀ v s', post v s' → post' v s') (h : gm_M P X g y desc d lo vs post s) : gm_M P X g y desc d lo vs post' s := fun S hS => (h S hS).post (fun v S' ⟨s', h1, h2, h3⟩ => ⟨s', h1, h2, hp v s' h3⟩)
theorem gm_M.of {desc : String} {vs : List Value} {L0 : List (Option Value)} (hy : plainName y.1 = true) (hc : ∀ v ∈ vs, v.category = 1) (hl : vs.length ≤ y.2.2.2.1) (hL : am_L0 vs y.2.2.2.1 = L0) (h : gm_W P X g y d lo post 0 L0 [] s) : gm_M P X g y desc d lo vs post s := fun S hS => am_M.of hy hc hl (by rw [hL]; exact h S hS)
theorem gm_drop (hl : L1.length = L.length) (hL : ∀ (i : Nat) (v : Value), L1[i]? = some (some v) → L[i]? = some (some v)) (h : gm_W P X g y d lo post pc L1 st s) : gm_W P X g y d lo post pc L st s := fun S hS => am_drop hl hL (h S hS)
theorem gm_iconst {z : Int} {v : Int32} (hd : am_D y.2.2.1 pc (.iconst z) 1 pc1) (hv : Int32.ofInt z = v) (h : gm_W P X g y d lo post pc1 L (.int v :: st) s) : gm_W P X g y d lo post pc L (st) s := fun S hS => am_iconst hd hv (h S hS)
theorem gm_bipush {z : Int} {v : Int32} (hd : am_D y.2.2.1 pc (.bipush z) 2 pc1) (hv : (Int8.ofInt z).toInt32 = v) (h : gm_W P X g y d lo post pc1 L (.int v :: st) s) : gm_W P X g y d lo post pc L (st) s := fun S hS => am_bipush hd hv (h S hS)
theorem gm_sipush {z : Int} {v : Int32} (hd : am_D y.2.2.1 pc (.sipush z) 3 pc1) (hv : (Int16.ofInt z).toInt32 = v) (h : gm_W P X g y d lo post pc1 L (.int v :: st) s) : gm_W P X g y d lo post pc L (st) s := fun S hS => am_sipush hd hv (h S hS)
theorem gm_null (hd : am_D y.2.2.1 pc (.aconst_null) 1 pc1) (h : gm_W P X g y d lo post pc1 L (.null :: st) s) : gm_W P X g y d lo post pc L (st) s := fun S hS => am_null hd (h S hS)
theorem gm_iload_n {j : Fin 4} {x : Int32} (hd : am_D y.2.2.1 pc (.iload_n j) 1 pc1) (hl : L[(j : Nat)]? = some (some (.int x))) (h : gm_W P X g y d lo post pc1 L (.int x :: st) s) : gm_W P X g y d lo post pc L st s := fun S hS => am_iload_n hd hl (h S hS)
theorem gm_iload {j : Nat} {x : Int32} (hd : am_D y.2.2.1 pc (.iload j) 2 pc1) (hl : L[j]? = some (some (.int x))) (h : gm_W P X g y d lo post pc1 L (.int x :: st) s) : gm_W P X g y d lo post pc L st s := fun S hS => am_iload hd hl (h S hS)
theorem gm_aload_n {j : Fin 4} {v : Value} (hd : am_D y.2.2.1 pc (.aload_n j) 1 pc1) (hl : L[(j : Nat)]? = some (some v)) (hv : am_rv v) (h : gm_W P X g y d lo post pc1 L (v :: st) s) : gm_W P X g y d lo post pc L st s := fun S hS => am_aload_n hd hl hv (h S hS)
theorem gm_aload {j : Nat} {v : Value} (hd : am_D y.2.2.1 pc (.aload j) 2 pc1) (hl : L[j]? = some (some v)) (hv : am_rv v) (h : gm_W P X g y d lo post pc1 L (v :: st) s) : gm_W P X g y d lo post pc L st s := fun S hS => am_aload hd hl hv (h S hS)
theorem gm_istore_n {j : Fin 4} {x : Int32} (hd : am_D y.2.2.1 pc (.istore_n j) 1 pc1) (hj : (j : Nat) < y.2.2.2.1) (hL : L.set (j : Nat) (some (.int x)) = L1) (h : gm_W P X g y d lo post pc1 L1 st s) : gm_W P X g y d lo post pc L (.int x :: st) s := fun S hS => am_istore_n hd hj hL (h S hS)
theorem gm_istore {j : Nat} {x : Int32} (hd : am_D y.2.2.1 pc (.istore j) 2 pc1) (hj : j < y.2.2.2.1) (hL : L.set j (some (.int x)) = L1) (h : gm_W P X g y d lo post pc1 L1 st s) : gm_W P X g y d lo post pc L (.int x :: st) s := fun S hS => am_istore hd hj hL (h S hS)
theorem gm_astore_n {j : Fin 4} {v : Value} (hd : am_D y.2.2.1 pc (.astore_n j) 1 pc1) (hj : (j : Nat) < y.2.2.2.1) (hv : am_rv v) (hL : L.set (j : Nat) (some v) = L1) (h : gm_W P X g y d lo post pc1 L1 st s) : gm_W P X g y d lo post pc L (v :: st) s := fun S hS => am_astore_n hd hj hv hL (h S hS)
theorem gm_astore {j : Nat} {v : Value} (hd : am_D y.2.2.1 pc (.astore j) 2 pc1) (hj : j < y.2.2.2.1) (hv : am_rv v) (hL : L.set j (some v) = L1) (h : gm_W P X g y d lo post pc1 L1 st s) : gm_W P X g y d lo post pc L (v :: st) s := fun S hS => am_astore hd hj hv hL (h S hS)
theorem gm_iinc {j : Nat} {z : Int} {x v : Int32} (hd : am_D y.2.2.1 pc (.iinc j z) 3 pc1) (hl : L[j]? = some (some (.int x))) (hv : x + Int32.ofInt z = v) (hj : j < y.2.2.2.1) (hL : L.set j (some (.int v)) = L1) (h : gm_W P X g y d lo post pc1 L1 st s) : gm_W P X g y d lo post pc L st s := fun S hS => am_iinc hd hl hv hj hL (h S hS)
theorem gm_iadd {x z : Int32} (hd : am_D y.2.2.1 pc (.iadd) 1 pc1) (h : gm_W P X g y d lo post pc1 L (.int (x + z) :: st) s) : gm_W P X g y d lo post pc L (.int z :: .int x :: st) s := fun S hS => am_iadd hd (h S hS)
theorem gm_isub {x z : Int32} (hd : am_D y.2.2.1 pc (.isub) 1 pc1) (h : gm_W P X g y d lo post pc1 L (.int (x - z) :: st) s) : gm_W P X g y d lo post pc L (.int z :: .int x :: st) s := fun S hS => am_isub hd (h S hS)
theorem gm_imul {x z : Int32} (hd : am_D y.2.2.1 pc (.imul) 1 pc1) (h : gm_W P X g y d lo post pc1 L (.int (x * z) :: st) s) : gm_W P X g y d lo post pc L (.int z :: .int x :: st) s := fun S hS => am_imul hd (h S hS)
theorem gm_iand {x z : Int32} (hd : am_D y.2.2.1 pc (.iand) 1 pc1) (h : gm_W P X g y d lo post pc1 L (.int (x &&& z) :: st) s) : gm_W P X g y d lo post pc L (.int z :: .int x :: st) s := fun S hS => am_iand hd (h S hS)
theorem gm_ior {x z : Int32} (hd : am_D y.2.2.1 pc (.ior) 1 pc1) (h : gm_W P X g y d lo post pc1 L (.int (x ||| z) :: st) s) : gm_W P X g y d lo post pc L (.int z :: .int x :: st) s := fun S hS => am_ior hd (h S hS)
theorem gm_ixor {x z : Int32} (hd : am_D y.2.2.1 pc (.ixor) 1 pc1) (h : gm_W P X g y d lo post pc1 L (.int (x ^^^ z) :: st) s) : gm_W P X g y d lo post pc L (.int z :: .int x :: st) s := fun S hS => am_ixor hd (h S hS)
theorem gm_ishl {x z : Int32} (hd : am_D y.2.2.1 pc (.ishl) 1 pc1) (h : gm_W P X g y d lo post pc1 L (.int (x <<< (z &&& 31)) :: st) s) : gm_W P X g y d lo post pc L (.int z :: .int x :: st) s := fun S hS => am_ishl hd (h S hS)
theorem gm_ishr {x z : Int32} (hd : am_D y.2.2.1 pc (.ishr) 1 pc1) (h : gm_W P X g y d lo post pc1 L (.int (x >>> (z &&& 31)) :: st) s) : gm_W P X g y d lo post pc L (.int z :: .int x :: st) s := fun S hS => am_ishr hd (h S hS)
theorem gm_idiv {x z : Int32} (hd : am_D y.2.2.1 pc (.idiv) 1 pc1) (hz : ¬ z = 0) (h : gm_W P X g y d lo post pc1 L (.int (x / z) :: st) s) : gm_W P X g y d lo post pc L (.int z :: .int x :: st) s := fun S hS => am_idiv hd hz (h S hS)
theorem gm_irem {x z : Int32} (hd : am_D y.2.2.1 pc (.irem) 1 pc1) (hz : ¬ z = 0) (h : gm_W P X g y d lo post pc1 L (.int (x - x / z * z) :: st) s) : gm_W P X g y d lo post pc L (.int z :: .int x :: st) s := fun S hS => am_irem hd hz (h S hS)
theorem gm_iushr {x z v : Int32} (hd : am_D y.2.2.1 pc (.iushr) 1 pc1) (hv : (x.toUInt32 >>> (z.toUInt32 &&& Int32.toUInt32 31)).toInt32 = v) (h : gm_W P X g y d lo post pc1 L (.int v :: st) s) : gm_W P X g y d lo post pc L (.int z :: .int x :: st) s := fun S hS => am_iushr hd hv (h S hS)
theorem gm_ineg {x : Int32} (hd : am_D y.2.2.1 pc (.ineg) 1 pc1) (h : gm_W P X g y d lo post pc1 L (.int (-x) :: st) s) : gm_W P X g y d lo post pc L (.int x :: st) s := fun S hS => am_ineg hd (h S hS)
theorem gm_dup {v : Value} (hd : am_D y.2.2.1 pc (.dup) 1 pc1) (hv : v.category = 1) (h : gm_W P X g y d lo post pc1 L (v :: v :: st) s) : gm_W P X g y d lo post pc L (v :: st) s := fun S hS => am_dup hd hv (h S hS)
theorem gm_pop {v : Value} (hd : am_D y.2.2.1 pc (.pop) 1 pc1) (hv : v.category = 1) (h : gm_W P X g y d lo post pc1 L (st) s) : gm_W P X g y d lo post pc L (v :: st) s := fun S hS => am_pop hd hv (h S hS)
theorem gm_dup_x1 {v u : Value} (hd : am_D y.2.2.1 pc (.dup_x1) 1 pc1) (hv : v.category = 1) (hu : u.category = 1) (h : gm_W P X g y d lo post pc1 L (v :: u :: v :: st) s) : gm_W P X g y d lo post pc L (v :: u :: st) s := fun S hS => am_dup_x1 hd hv hu (h S hS)
theorem gm_dup_x2 {v u t : Value} (hd : am_D y.2.2.1 pc (.dup_x2) 1 pc1) (hv : v.category = 1) (hu : u.category = 1) (ht : t.category = 1) (h : gm_W P X g y d lo post pc1 L (v :: u :: t :: v :: st) s) : gm_W P X g y d lo post pc L (v :: u :: t :: st) s := fun S hS => am_dup_x2 hd hv hu ht (h S hS)
theorem gm_dup2 {v u : Value} (hd : am_D y.2.2.1 pc (.dup2) 1 pc1) (hv : v.category = 1) (hu : u.category = 1) (h : gm_W P X g y d lo post pc1 L (v :: u :: v :: u :: st) s) : gm_W P X g y d lo post pc L (v :: u :: st) s := fun S hS => am_dup2 hd hv hu (h S hS)
theorem gm_if_eq {x : Int32} {off : Int} {tgt : Nat} (hd : am_D y.2.2.1 pc (.ifCond .eq off) 3 pc1) (ht : (pc : Int) + off = (tgt : Int)) (kt : x = 0 → gm_W P X g y d lo post tgt L st s) (kf : ¬ x = 0 → gm_W P X g y d lo post pc1 L st s) : gm_W P X g y d lo post pc L (.int x :: st) s := fun S hS => am_if_eq hd ht (fun q => kt q S hS) (fun q => kf q S hS)
theorem gm_icmp_eq {x z : Int32} {off : Int} {tgt : Nat} (hd : am_D y.2.2.1 pc (.if_icmp .eq off) 3 pc1) (ht : (pc : Int) + off = (tgt : Int)) (kt : x = z → gm_W P X g y d lo post tgt L st s) (kf : ¬ x = z → gm_W P X g y d lo post pc1 L st s) : gm_W P X g y d lo post pc L (.int z :: .int x :: st) s := fun S hS => am_icmp_eq hd ht (fun q => kt q S hS) (fun q => kf q S hS)
theorem gm_if_ne {x : Int32} {off : Int} {tgt : Nat} (hd : am_D y.2.2.1 pc (.ifCond .ne off) 3 pc1) (ht : (pc : Int) + off = (tgt : Int)) (kt : ¬ x = 0 → gm_W P X g y d lo post tgt L st s) (kf : x = 0 → gm_W P X g y d lo post pc1 L st s) : gm_W P X g y d lo post pc L (.int x :: st) s := fun S hS => am_if_ne hd ht (fun q => kt q S hS) (fun q => kf q S hS)
theorem gm_icmp_ne {x z : Int32} {off : Int} {tgt : Nat} (hd : am_D y.2.2.1 pc (.if_icmp .ne off) 3 pc1) (ht : (pc : Int) + off = (tgt : Int)) (kt : ¬ x = z → gm_W P X g y d lo post tgt L st s) (kf : x = z → gm_W P X g y d lo post pc1 L st s) : gm_W P X g y d lo post pc L (.int z :: .int x :: st) s := fun S hS => am_icmp_ne hd ht (fun q => kt q S hS) (fun q => kf q S hS)
theorem gm_if_lt {x : Int32} {off : Int} {tgt : Nat} (hd : am_D y.2.2.1 pc (.ifCond .lt off) 3 pc1) (ht : (pc : Int) + off = (tgt : Int)) (kt : x < 0 → gm_W P X g y d lo post tgt L st s) (kf : ¬ x < 0 → gm_W P X g y d lo post pc1 L st s) : gm_W P X g y d lo post pc L (.int x :: st) s := fun S hS => am_if_lt hd ht (fun q => kt q S hS) (fun q => kf q S hS)
theorem gm_icmp_lt {x z : Int32} {off : Int} {tgt : Nat} (hd : am_D y.2.2.1 pc (.if_icmp .lt off) 3 pc1) (ht : (pc : Int) + off = (tgt : Int)) (kt : x < z → gm_W P X g y d lo post tgt L st s) (kf : ¬ x < z → gm_W P X g y d lo post pc1 L st s) : gm_W P X g y d lo post pc L (.int z :: .int x :: st) s := fun S hS => am_icmp_lt hd ht (fun q => kt q S hS) (fun q => kf q S hS)
theorem gm_if_ge {x : Int32} {off : Int} {tgt : Nat} (hd : am_D y.2.2.1 pc (.ifCond .ge off) 3 pc1) (ht : (pc : Int) + off = (tgt : Int)) (kt : 0 ≤ x → gm_W P X g y d lo post tgt L st s) (kf : ¬ 0 ≤ x → gm_W P X g y d lo post pc1 L st s) : gm_W P X g y d lo post pc L (.int x :: st) s := fun S hS => am_if_ge hd ht (fun q => kt q S hS) (fun q => kf q S hS)
theorem gm_icmp_ge {x z : Int32} {off : Int} {tgt : Nat} (hd : am_D y.2.2.1 pc (.if_icmp .ge off) 3 pc1) (ht : (pc : Int) + off = (tgt : Int)) (kt : z ≤ x → gm_W P X g y d lo post tgt L st s) (kf : ¬ z ≤ x → gm_W P X g y d lo post pc1 L st s) : gm_W P X g y d lo post pc L (.int z :: .int x :: st) s := fun S hS => am_icmp_ge hd ht (fun q => kt q S hS) (fun q => kf q S hS)
theorem gm_if_gt {x : Int32} {off : Int} {tgt : Nat} (hd : am_D y.2.2.1 pc (.ifCond .gt off) 3 pc1) (ht : (pc : Int) + off = (tgt : Int)) (kt : 0 < x → gm_W P X g y d lo post tgt L st s) (kf : ¬ 0 < x → gm_W P X g y d lo post pc1 L st s) : gm_W P X g y d lo post pc L (.int x :: st) s := fun S hS => am_if_gt hd ht (fun q => kt q S hS) (fun q => kf q S hS)
theorem gm_icmp_gt {x z : Int32} {off : Int} {tgt : Nat} (hd : am_D y.2.2.1 pc (.if_icmp .gt off) 3 pc1) (ht : (pc : Int) + off = (tgt : Int)) (kt : z < x → gm_W P X g y d lo post tgt L st s) (kf : ¬ z < x → gm_W P X g y d lo post pc1 L st s) : gm_W P X g y d lo post pc L (.int z :: .int x :: st) s := fun S hS => am_icmp_gt hd ht (fun q => kt q S hS) (fun q => kf q S hS)
theorem gm_if_le {x : Int32} {off : Int} {tgt : Nat} (hd : am_D y.2.2.1 pc (.ifCond .le off) 3 pc1) (ht : (pc : Int) + off = (tgt : Int)) (kt : x ≤ 0 → gm_W P X g y d lo post tgt L st s) (kf : ¬ x ≤ 0 → gm_W P X g y d lo post pc1 L st s) : gm_W P X g y d lo post pc L (.int x :: st) s := fun S hS => am_if_le hd ht (fun q => kt q S hS) (fun q => kf q S hS)
theorem gm_icmp_le {x z : Int32} {off : Int} {tgt : Nat} (hd : am_D y.2.2.1 pc (.if_icmp .le off) 3 pc1) (ht : (pc : Int) + off = (tgt : Int)) (kt : x ≤ z → gm_W P X g y d lo post tgt L st s) (kf : ¬ x ≤ z → gm_W P X g y d lo post pc1 L st s) : gm_W P X g y d lo post pc L (.int z :: .int x :: st) s := fun S hS => am_icmp_le hd ht (fun q => kt q S hS) (fun q => kf q S hS)
theorem gm_acmp_eq {rx ry : Option Nat} {off : Int} {tgt : Nat} (hd : am_D y.2.2.1 pc (.if_acmp .eq off) 3 pc1) (ht : (pc : Int) + off = (tgt : Int)) (kt : rx = ry → gm_W P X g y d lo post tgt L st s) (kf : ¬ rx = ry → gm_W P X g y d lo post pc1 L st s) : gm_W P X g y d lo post pc L (va_rf ry :: va_rf rx :: st) s := fun S hS => am_acmp_eq hd ht (fun q => kt q S hS) (fun q => kf q S hS)
theorem gm_acmp_ne {rx ry : Option Nat} {off : Int} {tgt : Nat} (hd : am_D y.2.2.1 pc (.if_acmp .ne off) 3 pc1) (ht : (pc : Int) + off = (tgt : Int)) (kt : ¬ rx = ry → gm_W P X g y d lo post tgt L st s) (kf : rx = ry → gm_W P X g y d lo post pc1 L st s) : gm_W P X g y d lo post pc L (va_rf ry :: va_rf rx :: st) s := fun S hS => am_acmp_ne hd ht (fun q => kt q S hS) (fun q => kf q S hS)
theorem gm_ifnonnull {a : Nat} {off : Int} {tgt : Nat} (hd : am_D y.2.2.1 pc (.ifnonnull off) 3 pc1) (ht : (pc : Int) + off = (tgt : Int)) (h : gm_W P X g y d lo post tgt L st s) : gm_W P X g y d lo post pc L (.ref a :: st) s := fun S hS => am_ifnonnull hd ht (h S hS)
theorem gm_ifnonnullN {off : Int} (hd : am_D y.2.2.1 pc (.ifnonnull off) 3 pc1) (h : gm_W P X g y d lo post pc1 L st s) : gm_W P X g y d lo post pc L (.null :: st) s := fun S hS => am_ifnonnullN hd (h S hS)
theorem gm_ifnull {a : Nat} {off : Int} (hd : am_D y.2.2.1 pc (.ifnull off) 3 pc1) (h : gm_W P X g y d lo post pc1 L st s) : gm_W P X g y d lo post pc L (.ref a :: st) s := fun S hS => am_ifnull hd (h S hS)
theorem gm_ifnullN {off : Int} {tgt : Nat} (hd : am_D y.2.2.1 pc (.ifnull off) 3 pc1) (ht : (pc : Int) + off = (tgt : Int)) (h : gm_W P X g y d lo post tgt L st s) : gm_W P X g y d lo post pc L (.null :: st) s := fun S hS => am_ifnullN hd ht (h S hS)
theorem gm_goto {off : Int} {tgt : Nat} (hd : am_D y.2.2.1 pc (.goto off) 3 pc1) (ht : (pc : Int) + off = (tgt : Int)) (h : gm_W P X g y d lo post tgt L st s) : gm_W P X g y d lo post pc L (st) s := fun S hS => am_goto hd ht (h S hS)
theorem gm_lookup {dflt : Int} {ps : Array (Int × Int)} {len : Nat} {x : Int32} {off : Int} {tgt : Nat} (hd : am_D y.2.2.1 pc (.lookupswitch dflt ps) len pc1) (hp : (ps.toList.zip (ps.toList.drop 1)).all (fun (a, next) => a.1 < next.1) = true) (ho : Op.lookupswitch.offset ps.toList dflt x.toInt = off) (ht : (pc : Int) + off = (tgt : Int)) (h : gm_W P X g y d lo post tgt L st s) : gm_W P X g y d lo post pc L (.int x :: st) s := fun S hS => am_lookup hd hp ho ht (h S hS)
theorem gm_tableOut {dflt tl th : Int} {offs : Array Int} {len : Nat} {x : Int32} {tgt : Nat} (hd : am_D y.2.2.1 pc (.tableswitch dflt tl th offs) len pc1) (hx : x.toInt < tl ∨ th < x.toInt) (ht : (pc : Int) + dflt = (tgt : Int)) (h : gm_W P X g y d lo post tgt L st s) : gm_W P X g y d lo post pc L (.int x :: st) s := fun S hS => am_tableOut hd hx ht (h S hS)
theorem gm_tableIn {dflt tl th : Int} {offs : Array Int} {len : Nat} {x : Int32} {off : Int} {tgt : Nat} (hd : am_D y.2.2.1 pc (.tableswitch dflt tl th offs) len pc1) (h1 : ¬ x.toInt < tl) (h2 : ¬ th < x.toInt) (ho : offs[(x.toInt - tl).toNat]? = some off) (ht : (pc : Int) + off = (tgt : Int)) (h : gm_W P X g y d lo post tgt L st s) : gm_W P X g y d lo post pc L (.int x :: st) s := fun S hS => am_tableIn hd h1 h2 ho ht (h S hS)
theorem gm_iaddN {a b : Nat} (hd : am_D y.2.2.1 pc (.iadd) 1 pc1) (h : gm_W P X g y d lo post pc1 L (.int (nI (a + b)) :: st) s) : gm_W P X g y d lo post pc L (.int (nI b) :: .int (nI a) :: st) s := fun S hS => am_iaddN hd (h S hS)
theorem gm_imulN {a b : Nat} (hd : am_D y.2.2.1 pc (.imul) 1 pc1) (h : gm_W P X g y d lo post pc1 L (.int (nI (a * b)) :: st) s) : gm_W P X g y d lo post pc L (.int (nI b) :: .int (nI a) :: st) s := fun S hS => am_imulN hd (h S hS)
theorem gm_isubN {a b : Nat} (hd : am_D y.2.2.1 pc (.isub) 1 pc1) (hb : b ≤ a) (h : gm_W P X g y d lo post pc1 L (.int (nI (a - b)) :: st) s) : gm_W P X g y d lo post pc L (.int (nI b) :: .int (nI a) :: st) s := fun S hS => am_isubN hd hb (h S hS)
theorem gm_idivN {a b : Nat} (hd : am_D y.2.2.1 pc (.idiv) 1 pc1) (ha : a < 2 ^ 31) (h0 : 0 < b) (hb : b < 2 ^ 31) (h : gm_W P X g y d lo post pc1 L (.int (nI (a / b)) :: st) s) : gm_W P X g y d lo post pc L (.int (nI b) :: .int (nI a) :: st) s := fun S hS => am_idivN hd ha h0 hb (h S hS)
theorem gm_iremN {a b : Nat} (hd : am_D y.2.2.1 pc (.irem) 1 pc1) (ha : a < 2 ^ 31) (h0 : 0 < b) (hb : b < 2 ^ 31) (h : gm_W P X g y d lo post pc1 L (.int (nI (a % b)) :: st) s) : gm_W P X g y d lo post pc L (.int (nI b) :: .int (nI a) :: st) s := fun S hS => am_iremN hd ha h0 hb (h S hS)
theorem gm_iincN {j a b : Nat} {z : Int} (hd : am_D y.2.2.1 pc (.iinc j z) 3 pc1) (hl : L[j]? = some (some (.int (nI a)))) (hz : Int32.ofInt z = nI b) (hj : j < y.2.2.2.1) (hL : L.set j (some (.int (nI (a + b)))) = L1) (h : gm_W P X g y d lo post pc1 L1 st s) : gm_W P X g y d lo post pc L st s := fun S hS => am_iincN hd hl hz hj hL (h S hS)
theorem gm_icmp_eqN {a b : Nat} {off : Int} {tgt : Nat} (hd : am_D y.2.2.1 pc (.if_icmp .eq off) 3 pc1) (ht : (pc : Int) + off = (tgt : Int)) (ha : a < 2 ^ 31) (hb : b < 2 ^ 31) (kt : a = b → gm_W P X g y d lo post tgt L st s) (kf : a ≠ b → gm_W P X g y d lo post pc1 L st s) : gm_W P X g y d lo post pc L (.int (nI b) :: .int (nI a) :: st) s := fun S hS => am_icmp_eqN hd ht ha hb (fun q => kt q S hS) (fun q => kf q S hS)
theorem gm_if_eqN {a : Nat} {off : Int} {tgt : Nat} (hd : am_D y.2.2.1 pc (.ifCond .eq off) 3 pc1) (ht : (pc : Int) + off = (tgt : Int)) (ha : a < 2 ^ 31) (kt : a = 0 → gm_W P X g y d lo post tgt L st s) (kf : a ≠ 0 → gm_W P X g y d lo post pc1 L st s) : gm_W P X g y d lo post pc L (.int (nI a) :: st) s := fun S hS => am_if_eqN hd ht ha (fun q => kt q S hS) (fun q => kf q S hS)
theorem gm_icmp_neN {a b : Nat} {off : Int} {tgt : Nat} (hd : am_D y.2.2.1 pc (.if_icmp .ne off) 3 pc1) (ht : (pc : Int) + off = (tgt : Int)) (ha : a < 2 ^ 31) (hb : b < 2 ^ 31) (kt : a ≠ b → gm_W P X g y d lo post tgt L st s) (kf : a = b → gm_W P X g y d lo post pc1 L st s) : gm_W P X g y d lo post pc L (.int (nI b) :: .int (nI a) :: st) s := fun S hS => am_icmp_neN hd ht ha hb (fun q => kt q S hS) (fun q => kf q S hS)
theorem gm_if_neN {a : Nat} {off : Int} {tgt : Nat} (hd : am_D y.2.2.1 pc (.ifCond .ne off) 3 pc1) (ht : (pc : Int) + off = (tgt : Int)) (ha : a < 2 ^ 31) (kt : a ≠ 0 → gm_W P X g y d lo post tgt L st s) (kf : a = 0 → gm_W P X g y d lo post pc1 L st s) : gm_W P X g y d lo post pc L (.int (nI a) :: st) s := fun S hS => am_if_neN hd ht ha (fun q => kt q S hS) (fun q => kf q S hS)
theorem gm_icmp_ltN {a b : Nat} {off : Int} {tgt : Nat} (hd : am_D y.2.2.1 pc (.if_icmp .lt off) 3 pc1) (ht : (pc : Int) + off = (tgt : Int)) (ha : a < 2 ^ 31) (hb : b < 2 ^ 31) (kt : a < b → gm_W P X g y d lo post tgt L st s) (kf : b ≤ a → gm_W P X g y d lo post pc1 L st s) : gm_W P X g y d lo post pc L (.int (nI b) :: .int (nI a) :: st) s := fun S hS => am_icmp_ltN hd ht ha hb (fun q => kt q S hS) (fun q => kf q S hS)
theorem gm_if_ltN {a : Nat} {off : Int} {tgt : Nat} (hd : am_D y.2.2.1 pc (.ifCond .lt off) 3 pc1) (ht : (pc : Int) + off = (tgt : Int)) (ha : a < 2 ^ 31) (kt : a < 0 → gm_W P X g y d lo post tgt L st s) (kf : 0 ≤ a → gm_W P X g y d lo post pc1 L st s) : gm_W P X g y d lo post pc L (.int (nI a) :: st) s := fun S hS => am_if_ltN hd ht ha (fun q => kt q S hS) (fun q => kf q S hS)
theorem gm_icmp_geN {a b : Nat} {off : Int} {tgt : Nat} (hd : am_D y.2.2.1 pc (.if_icmp .ge off) 3 pc1) (ht : (pc : Int) + off = (tgt : Int)) (ha : a < 2 ^ 31) (hb : b < 2 ^ 31) (kt : b ≤ a → gm_W P X g y d lo post tgt L st s) (kf : a < b → gm_W P X g y d lo post pc1 L st s) : gm_W P X g y d lo post pc L (.int (nI b) :: .int (nI a) :: st) s := fun S hS => am_icmp_geN hd ht ha hb (fun q => kt q S hS) (fun q => kf q S hS)
theorem gm_if_geN {a : Nat} {off : Int} {tgt : Nat} (hd : am_D y.2.2.1 pc (.ifCond .ge off) 3 pc1) (ht : (pc : Int) + off = (tgt : Int)) (ha : a < 2 ^ 31) (kt : 0 ≤ a → gm_W P X g y d lo post tgt L st s) (kf : a < 0 → gm_W P X g y d lo post pc1 L st s) : gm_W P X g y d lo post pc L (.int (nI a) :: st) s := fun S hS => am_if_geN hd ht ha (fun q => kt q S hS) (fun q => kf q S hS)
theorem gm_icmp_gtN {a b : Nat} {off : Int} {tgt : Nat} (hd : am_D y.2.2.1 pc (.if_icmp .gt off) 3 pc1) (ht : (pc : Int) + off = (tgt : Int)) (ha : a < 2 ^ 31) (hb : b < 2 ^ 31) (kt : b < a → gm_W P X g y d lo post tgt L st s) (kf : a ≤ b → gm_W P X g y d lo post pc1 L st s) : gm_W P X g y d lo post pc L (.int (nI b) :: .int (nI a) :: st) s := fun S hS => am_icmp_gtN hd ht ha hb (fun q => kt q S hS) (fun q => kf q S hS)
theorem gm_if_gtN {a : Nat} {off : Int} {tgt : Nat} (hd : am_D y.2.2.1 pc (.ifCond .gt off) 3 pc1) (ht : (pc : Int) + off = (tgt : Int)) (ha : a < 2 ^ 31) (kt : 0 < a → gm_W P X g y d lo post tgt L st s) (kf : a ≤ 0 → gm_W P X g y d lo post pc1 L st s) : gm_W P X g y d lo post pc L (.int (nI a) :: st) s := fun S hS => am_if_gtN hd ht ha (fun q => kt q S hS) (fun q => kf q S hS)
theorem gm_icmp_leN {a b : Nat} {off : Int} {tgt : Nat} (hd : am_D y.2.2.1 pc (.if_icmp .le off) 3 pc1) (ht : (pc : Int) + off = (tgt : Int)) (ha : a < 2 ^ 31) (hb : b < 2 ^ 31) (kt : a ≤ b → gm_W P X g y d lo post tgt L st s) (kf : b < a → gm_W P X g y d lo post pc1 L st s) : gm_W P X g y d lo post pc L (.int (nI b) :: .int (nI a) :: st) s := fun S hS => am_icmp_leN hd ht ha hb (fun q => kt q S hS) (fun q => kf q S hS)
theorem gm_if_leN {a : Nat} {off : Int} {tgt : Nat} (hd : am_D y.2.2.1 pc (.ifCond .le off) 3 pc1) (ht : (pc : Int) + off = (tgt : Int)) (ha : a < 2 ^ 31) (kt : a ≤ 0 → gm_W P X g y d lo post tgt L st s) (kf : 0 < a → gm_W P X g y d lo post pc1 L st s) : gm_W P X g y d lo post pc L (.int (nI a) :: st) s := fun S hS => am_if_leN hd ht ha (fun q => kt q S hS) (fun q => kf q S hS)
theorem gm_if_eqB {c : Bool} {off : Int} {tgt : Nat} (hd : am_D y.2.2.1 pc (.ifCond .eq off) 3 pc1) (ht : (pc : Int) + off = (tgt : Int)) (kt : c = false → gm_W P X g y d lo post tgt L st s) (kf : c = true → gm_W P X g y d lo post pc1 L st s) : gm_W P X g y d lo post pc L (.int (am_b c) :: st) s := fun S hS => am_if_eqB hd ht (fun q => kt q S hS) (fun q => kf q S hS)
theorem gm_if_neB {c : Bool} {off : Int} {tgt : Nat} (hd : am_D y.2.2.1 pc (.ifCond .ne off) 3 pc1) (ht : (pc : Int) + off = (tgt : Int)) (kt : c = true → gm_W P X g y d lo post tgt L st s) (kf : c = false → gm_W P X g y d lo post pc1 L st s) : gm_W P X g y d lo post pc L (.int (am_b c) :: st) s := fun S hS => am_if_neB hd ht (fun q => kt q S hS) (fun q => kf q S hS)
end GMR
/-! calls in bundles; ends and calls over an abstract state -/
/-- a static call at a place of the constants -/
def am_CS (own : String) (idx : Nat) (yc : am_N) (desc : String) (np : Nat) : Prop := am_CY yc desc np ∧ am_ML own idx ⟨yc.1, yc.2.1, desc⟩ ∧ Cond.static ⟨yc.1, yc.2.1, desc⟩ ∈ am_wz
def am_CI (own : String) (idx : Nat) (yc : am_N) (desc : String) (np : Nat) : Prop := am_CY yc desc np ∧ yc.2.1 = "<init>" ∧ yc.2.2.2.2 = none ∧ am_ML own idx ⟨yc.1, yc.2.1, desc⟩ ∧ Cond.instanceMethod ⟨yc.1, yc.2.1, desc⟩ ∈ am_wz
def am_CV (own : String) (idx : Nat) (yc : am_N) (desc : String) (np ci : Nat) : Prop := am_CY yc desc np ∧ am_ML own idx ⟨yc.1, yc.2.1, desc⟩ ∧ Cond.instanceMethod ⟨yc.1, yc.2.1, desc⟩ ∈ am_wz ∧ ∃ q : vw_C, am_cl[ci]? = some q ∧ Cond.selects q.1 ⟨yc.1, yc.2.1, desc⟩ ⟨yc.1, yc.2.1, desc⟩ ∈ am_wz
section GMC
variable {g : am_G} {y : am_N} {d lo : Nat} {pc pc1 : Nat} {L : List (Option Value)} {st : List Value} {S : am_S} {idx np dc lc : Nat} {yc : am_N} {desc : String} {vs stk : List Value}
section
variable {post postc : Option Value → am_S → Prop}
theorem am_cS (hd : am_D y.2.2.1 pc (.invokestatic idx) 3 pc1) (hC : am_CS y.1 idx yc desc np) (hst : stk = vs.reverse ++ st) (hn : vs.length = np) (hr : dc + 1 ≤ d ∧ 8 + (yc.2.2.2.1 + 11) + lc ≤ lo) (h8 : (st.map fun v => v.category).sum ≤ 8) (hc : am_M g yc desc dc lc vs S postc)
    (h : ∀ v S', postc v S' → am_W g y d lo post pc1 L (v.toList ++ st) S') : am_W g y d lo post pc L stk S := am_callS hd hC.1 hC.2.1 hC.2.2 hst hn hc hr h8 h
theorem am_cI {b : Nat} (hd : am_D y.2.2.1 pc (.invokespecial idx) 3 pc1) (hC : am_CI y.1 idx yc desc np) (hst : stk = vs.reverse ++ .ref b :: st) (hn : vs.length = np) (hr : dc + 1 ≤ d ∧ 8 + (yc.2.2.2.1 + 11) + lc ≤ lo) (h8 : (st.map fun v => v.category).sum ≤ 8) (hc : am_M g yc desc dc lc (.ref b :: vs) S postc)
    (h : ∀ v S', postc v S' → am_W g y d lo post pc1 L (v.toList ++ st) S') : am_W g y d lo post pc L stk S := am_callI hd hC.1 hC.2.1 hC.2.2.1 hC.2.2.2.1 hC.2.2.2.2 hst hn hc hr h8 h
theorem am_cV {b ci tb : Nat} {fs : List Value} (hd : am_D y.2.2.1 pc (.invokevirtual idx) 3 pc1) (hC : am_CV y.1 idx yc desc np ci) (hst : stk = vs.reverse ++ .ref b :: st) (hn : vs.length = np) (hr : dc + 1 ≤ d ∧ 8 + (yc.2.2.2.1 + 11) + lc ≤ lo) (h8 : (st.map fun v => v.category).sum ≤ 8) (hb : S.1 b = some (tb, .inr (ci, fs))) (hc : am_M g yc desc dc lc (.ref b :: vs) S postc)
    (h : ∀ v S', postc v S' → am_W g y d lo post pc1 L (v.toList ++ st) S') : am_W g y d lo post pc L stk S := by
  obtain ⟨h1, h2, h3, q, h4, h5⟩ := hC
  exact am_callV hd h1 h2 h3 h4 h5 hb hst hn hc hr h8 h
end
section
variable {σ : Type} {P : σ → am_S → Prop} {X : Nat → Prop} {post postc : Option Value → σ → Prop} {s : σ}
theorem gm_iret {x : Int32} {ty : FieldType} (hd : am_D y.2.2.1 pc .ireturn 1 pc1) (hr : y.2.2.2.2 = some ty) (hn : narrow ty (.int x) = .int x) (hp : post (some (.int x)) s) : gm_W P X g y d lo post pc L [.int x] s := fun S hS => am_iret hd hr hn ⟨s, hS, am_fr.refl X S, hp⟩
theorem gm_vret (hd : am_D y.2.2.1 pc .return_ 1 pc1) (hr : y.2.2.2.2 = none) (hp : post none s) : gm_W P X g y d lo post pc L [] s := fun S hS => am_vret hd hr ⟨s, hS, am_fr.refl X S, hp⟩
theorem gm_aret {v : Value} {ty : FieldType} (hd : am_D y.2.2.1 pc .areturn 1 pc1) (hr : y.2.2.2.2 = some ty) (hrt : (∃ nm, ty = .object nm) ∨ ∃ t, ty = .array t) (hv : am_rv v) (hp : post (some v) s) : gm_W P X g y d lo post pc L [v] s := fun S hS => am_aret hd hr hrt hv ⟨s, hS, am_fr.refl X S, hp⟩
theorem gm_cont {S S' : am_S} {s' : σ} {L : List (Option Value)} {st : List Value} {pc : Nat} (hf : am_fr X S S') (h1 : P s' S') (h : gm_W P X g y d lo post pc L st s') : am_W g y d lo (fun v S'' => ∃ s', P s' S'' ∧ am_fr X S S'' ∧ post v s') pc L st S' :=
  am_post (fun _ _ ⟨s'', k1, k2, k3⟩ => ⟨s'', k1, hf.trans k2, k3⟩) (h S' h1)
theorem gm_cS (hd : am_D y.2.2.1 pc (.invokestatic idx) 3 pc1) (hC : am_CS y.1 idx yc desc np) (hst : stk = vs.reverse ++ st) (hn : vs.length = np) (hr : dc + 1 ≤ d ∧ 8 + (yc.2.2.2.1 + 11) + lc ≤ lo) (h8 : (st.map fun v => v.category).sum ≤ 8) (hc : gm_M P X g yc desc dc lc vs postc s)
    (h : ∀ v s', postc v s' → gm_W P X g y d lo post pc1 L (v.toList ++ st) s') : gm_W P X g y d lo post pc L stk s := fun S hS => am_cS hd hC hst hn hr h8 (hc S hS) (fun v _ ⟨s', h1, h2, h3⟩ => gm_cont h2 h1 (h v s' h3))
theorem gm_cV {b ci : Nat} (hd : am_D y.2.2.1 pc (.invokevirtual idx) 3 pc1) (hC : am_CV y.1 idx yc desc np ci) (hst : stk = vs.reverse ++ .ref b :: st) (hn : vs.length = np) (hr : dc + 1 ≤ d ∧ 8 + (yc.2.2.2.1 + 11) + lc ≤ lo) (h8 : (st.map fun v => v.category).sum ≤ 8) (hb : ∀ S, P s S → ∃ tb fs, S.1 b = some (tb, .inr (ci, fs))) (hc : gm_M P X g yc desc dc lc (.ref b :: vs) postc s)
    (h : ∀ v s', postc v s' → gm_W P X g y d lo post pc1 L (v.toList ++ st) s') : gm_W P X g y d lo post pc L stk s := fun S hS => by
  obtain ⟨tb, fs, hb⟩ := hb S hS
  exact am_cV hd hC hst hn hr h8 hb (hc S hS) (fun v _ ⟨s', h1, h2, h3⟩ => gm_cont h2 h1 (h v s' h3))
end
end GMC
end
section
/-! walks in a small graph: the shortest way that is first in the order of numbers, and the way that a count of steps gives -/
/-- a walk of k steps from u to v over switches below n -/
def pw_wk (n : Nat) (E : Nat → Nat → Bool) : Nat → Nat → Nat → Bool
  | 0, u, v => decide (u = v)
  | k + 1, u, v => (List.range n).any (fun w => E u w && pw_wk n E k w v)
theorem pw_wk_succ {n : Nat} {E : Nat → Nat → Bool} {k u v : Nat} : pw_wk n E (k + 1) u v = true ↔ ∃ w, w < n ∧ E u w = true ∧ pw_wk n E k w v = true := by
  simp [pw_wk]
theorem pw_wk_zero {n : Nat} {E : Nat → Nat → Bool} {u v : Nat} : pw_wk n E 0 u v = true ↔ u = v := by
  simp [pw_wk]
/-- the least w below n with P w, or n -/
def pw_least (P : Nat → Bool) : Nat → Nat
  | 0 => 0
  | n + 1 => let r := pw_least P n; if r < n then r else if P n = true then n else n + 1
theorem pw_least_le (P : Nat → Bool) (n : Nat) : pw_least P n ≤ n := by
  induction n with
  | zero => exact Nat.le_refl _
  | succ n ih =>
    show (if pw_least P n < n then pw_least P n else if P n = true then n else n + 1) ≤ n + 1
    split
    · omega
    · split <;> omega
theorem pw_least_spec (P : Nat → Bool) (n : Nat) : (pw_least P n < n → P (pw_least P n) = true) ∧ ∀ w, w < pw_least P n → P w = false := by
  induction n with
  | zero => exact ⟨fun h => absurd h (Nat.not_lt_zero _), fun w h => absurd h (Nat.not_lt_zero _)⟩
  | succ n ih =>
    have hle := pw_least_le P n
    have e : pw_least P (n + 1) = (if pw_least P n < n then pw_least P n else if P n = true then n else n + 1) := rfl
    rw [e]
    split
    · next h => exact ⟨fun _ => ih.1 h, ih.2⟩
    · next h =>
      have e2 : pw_least P n = n := by omega
      rw [e2] at ih
      split
      · next h2 => exact ⟨fun _ => h2, ih.2⟩
      · next h2 =>
        refine ⟨fun h => absurd h (Nat.lt_irrefl _), fun w hw => ?_⟩
        by_cases e3 : w = n
        · subst e3; simpa using h2
        · exact ih.2 w (by omega)
theorem pw_least_lt {P : Nat → Bool} {n w : Nat} (hw : w < n) (h : P w = true) : pw_least P n ≤ w := by
  apply Nat.le_of_not_lt
  intro q
  have := (pw_least_spec P n).2 w q
  rw [h] at this
  cases this
/-- the next switch of the way: the least that a way of k steps leads on from -/
def pw_nx (n : Nat) (E : Nat → Nat → Bool) (k u v : Nat) : Nat := pw_least (fun w => E u w && pw_wk n E k w v) n
theorem pw_nx_ok {n : Nat} {E : Nat → Nat → Bool} {k u v : Nat} (h : pw_wk n E (k + 1) u v = true) : pw_nx n E k u v < n ∧ E u (pw_nx n E k u v) = true ∧ pw_wk n E k (pw_nx n E k u v) v = true := by
  obtain ⟨w, hw, h1, h2⟩ := pw_wk_succ.mp h
  have hl : pw_nx n E k u v ≤ w := pw_least_lt hw (by simp [h1, h2])
  have hs := (pw_least_spec (fun w => E u w && pw_wk n E k w v) n).1 (show pw_nx n E k u v < n by omega)
  simp only [Bool.and_eq_true] at hs
  exact ⟨by omega, hs.1, hs.2⟩
theorem pw_nx_least {n : Nat} {E : Nat → Nat → Bool} {k u v w : Nat} (hw : w < n) (h1 : E u w = true) (h2 : pw_wk n E k w v = true) : pw_nx n E k u v ≤ w := pw_least_lt hw (by simp [h1, h2])
/-- the i-th switch of the way of k steps from u to v -/
def pw_at (n : Nat) (E : Nat → Nat → Bool) (v : Nat) : Nat → Nat → Nat → Nat
  | _, u, 0 => u
  | 0, u, _ + 1 => u
  | k + 1, u, i + 1 => pw_at n E v k (pw_nx n E k u v) i
theorem pw_at_last {n : Nat} {E : Nat → Nat → Bool} {v : Nat} : ∀ {k u : Nat}, pw_wk n E k u v = true → pw_at n E v k u k = v
  | 0, u, h => by rw [pw_wk_zero] at h; rw [← h]; rfl
  | k + 1, u, h => by
    show pw_at n E v k (pw_nx n E k u v) k = v
    exact pw_at_last (pw_nx_ok h).2.2
theorem pw_at_edge {n : Nat} {E : Nat → Nat → Bool} {v : Nat} : ∀ {k u i : Nat}, pw_wk n E k u v = true → i < k → E (pw_at n E v k u i) (pw_at n E v k u (i + 1)) = true
  | 0, _, _, _, hi => absurd hi (Nat.not_lt_zero _)
  | k + 1, u, 0, h, _ => by
    have h1 := (pw_nx_ok h).2.1
    cases k <;> exact h1
  | k + 1, u, i + 1, h, hi => by
    show E (pw_at n E v k (pw_nx n E k u v) i) (pw_at n E v k (pw_nx n E k u v) (i + 1)) = true
    exact pw_at_edge (pw_nx_ok h).2.2 (by omega)
theorem pw_at_lt {n : Nat} {E : Nat → Nat → Bool} {v : Nat} : ∀ {k u i : Nat}, u < n → pw_wk n E k u v = true → i ≤ k → pw_at n E v k u i < n
  | _, u, 0, hu, _, _ => by
    show pw_at n E v _ u 0 < n
    unfold pw_at
    exact hu
  | 0, _, _ + 1, _, _, hi => absurd hi (by omega)
  | k + 1, u, i + 1, hu, h, hi => by
    show pw_at n E v k (pw_nx n E k u v) i < n
    exact pw_at_lt (pw_nx_ok h).1 (pw_nx_ok h).2.2 (by omega)
/-- the digits of x, m of them, the first the greatest: is that a way from u to v? -/
def pw_ch (n : Nat) (E : Nat → Nat → Bool) (v : Nat) : Nat → Nat → Nat → Bool
  | 0, u, _ => E u v
  | m + 1, u, x => E u (x / n ^ m % n) && pw_ch n E v m (x / n ^ m % n) (x % n ^ m)
/-- the number of the way -/
def pw_num (n : Nat) (E : Nat → Nat → Bool) (v : Nat) : Nat → Nat → Nat
  | 0, _ => 0
  | m + 1, u => pw_nx n E (m + 1) u v * n ^ m + pw_num n E v m (pw_nx n E (m + 1) u v)
theorem pw_num_lt {n : Nat} {E : Nat → Nat → Bool} {v : Nat} : ∀ {m u : Nat}, pw_wk n E (m + 1) u v = true → pw_num n E v m u < n ^ m
  | 0, _, _ => by show 0 < n ^ 0; simp
  | m + 1, u, h => by
    have h1 := pw_nx_ok h
    have h2 := pw_num_lt (m := m) h1.2.2
    show pw_nx n E (m + 1) u v * n ^ m + pw_num n E v m (pw_nx n E (m + 1) u v) < n ^ (m + 1)
    have h3 : (pw_nx n E (m + 1) u v + 1) * n ^ m ≤ n * n ^ m := Nat.mul_le_mul_right _ h1.1
    rw [Nat.pow_succ, Nat.mul_comm (n ^ m) n]
    rw [Nat.add_mul, Nat.one_mul] at h3
    omega
theorem pw_dig {n m w r : Nat} (hw : w < n) (hr : r < n ^ m) : (w * n ^ m + r) / n ^ m % n = w ∧ (w * n ^ m + r) % n ^ m = r := by
  have hp : 0 < n ^ m := by omega
  constructor
  · rw [Nat.mul_comm, Nat.mul_add_div hp, Nat.div_eq_of_lt hr, Nat.add_zero, Nat.mod_eq_of_lt hw]
  · rw [Nat.mul_comm, Nat.mul_add_mod, Nat.mod_eq_of_lt hr]
theorem pw_ch_num {n : Nat} {E : Nat → Nat → Bool} {v : Nat} (hv : v < n) : ∀ {m u : Nat}, pw_wk n E (m + 1) u v = true → pw_ch n E v m u (pw_num n E v m u) = true
  | 0, u, h => by
    obtain ⟨w, _, h1, h2⟩ := pw_wk_succ.mp h
    rw [pw_wk_zero] at h2
    subst h2
    exact h1
  | m + 1, u, h => by
    have h1 := pw_nx_ok h
    have h2 := pw_num_lt (m := m) h1.2.2
    obtain ⟨e1, e2⟩ := pw_dig h1.1 h2
    show (E u ((pw_nx n E (m + 1) u v * n ^ m + pw_num n E v m (pw_nx n E (m + 1) u v)) / n ^ m % n) && pw_ch n E v m ((pw_nx n E (m + 1) u v * n ^ m + pw_num n E v m (pw_nx n E (m + 1) u v)) / n ^ m % n) ((pw_nx n E (m + 1) u v * n ^ m + pw_num n E v m (pw_nx n E (m + 1) u v)) % n ^ m)) = true
    rw [e1, e2, h1.2.1, pw_ch_num hv h1.2.2]
    rfl
theorem pw_ch_wk {n : Nat} {E : Nat → Nat → Bool} {v : Nat} (hv : v < n) : ∀ {m u x : Nat}, pw_ch n E v m u x = true → pw_wk n E (m + 1) u v = true
  | 0, u, _, h => pw_wk_succ.mpr ⟨v, hv, h, pw_wk_zero.mpr rfl⟩
  | m + 1, u, x, h => by
    have h' : (E u (x / n ^ m % n) && pw_ch n E v m (x / n ^ m % n) (x % n ^ m)) = true := h
    rw [Bool.and_eq_true] at h'
    exact pw_wk_succ.mpr ⟨x / n ^ m % n, Nat.mod_lt _ (by omega), h'.1, pw_ch_wk hv h'.2⟩
/-- it is the first number that is a way -/
theorem pw_ch_least {n : Nat} {E : Nat → Nat → Bool} {v : Nat} (hv : v < n) : ∀ {m u x : Nat}, x < n ^ m → pw_ch n E v m u x = true → pw_num n E v m u ≤ x
  | 0, _, _, _, _ => Nat.zero_le _
  | m + 1, u, x, hx, h => by
    have h' : (E u (x / n ^ m % n) && pw_ch n E v m (x / n ^ m % n) (x % n ^ m)) = true := h
    rw [Bool.and_eq_true] at h'
    have hp : 0 < n ^ m := Nat.pow_pos (by omega)
    have hd : x / n ^ m < n := by
      rw [Nat.div_lt_iff_lt_mul hp]
      rw [Nat.pow_succ, Nat.mul_comm] at hx
      exact hx
    have hmod : x / n ^ m % n = x / n ^ m := Nat.mod_eq_of_lt hd
    rw [hmod] at h'
    have hle : pw_nx n E (m + 1) u v ≤ x / n ^ m := pw_nx_least hd h'.1 (pw_ch_wk hv h'.2)
    have hx2 : x = n ^ m * (x / n ^ m) + x % n ^ m := (Nat.div_add_mod x (n ^ m)).symm
    have hwk : pw_wk n E (m + 2) u v = true := pw_wk_succ.mpr ⟨x / n ^ m, hd, h'.1, pw_ch_wk hv h'.2⟩
    show pw_nx n E (m + 1) u v * n ^ m + pw_num n E v m (pw_nx n E (m + 1) u v) ≤ x
    by_cases e : pw_nx n E (m + 1) u v = x / n ^ m
    · rw [e]
      have := pw_ch_least hv (Nat.mod_lt x hp) h'.2
      rw [Nat.mul_comm]
      omega
    · have h2 := pw_num_lt (m := m) (pw_nx_ok hwk).2.2
      have h3 : (pw_nx n E (m + 1) u v + 1) * n ^ m ≤ x / n ^ m * n ^ m := Nat.mul_le_mul_right _ (by omega)
      rw [Nat.add_mul, Nat.one_mul, Nat.mul_comm (x / n ^ m)] at h3
      have h4 : n ^ m * (x / n ^ m) ≤ x := Nat.mul_div_le x (n ^ m)
      omega
/-- the k-th switch that the number's digits give -/
theorem pw_num_at {n : Nat} {E : Nat → Nat → Bool} {v : Nat} : ∀ {m u i : Nat}, pw_wk n E (m + 1) u v = true → i < m → pw_num n E v m u / n ^ (m - 1 - i) % n = pw_at n E v (m + 1) u (i + 1)
  | 0, _, _, _, hi => absurd hi (Nat.not_lt_zero _)
  | m + 1, u, i, h, hi => by
    have h1 := pw_nx_ok h
    have h2 := pw_num_lt (m := m) h1.2.2
    show (pw_nx n E (m + 1) u v * n ^ m + pw_num n E v m (pw_nx n E (m + 1) u v)) / n ^ (m - i) % n = pw_at n E v (m + 1) (pw_nx n E (m + 1) u v) i
    cases i with
    | zero =>
      rw [Nat.sub_zero, (pw_dig h1.1 h2).1]
      unfold pw_at
      rfl
    | succ i =>
      have h3 := pw_num_at (m := m) (i := i) h1.2.2 (by omega)
      rw [← h3]
      have e1 : n ^ m = n ^ (m - 1 - i) * (n * n ^ i) := by
        rw [← Nat.pow_succ', ← Nat.pow_add]
        congr 1
        omega
      have e2 : m - (i + 1) = m - 1 - i := by omega
      have hp : 0 < n ^ (m - 1 - i) := Nat.pow_pos (by omega)
      rw [e2, e1, ← Nat.mul_assoc, Nat.mul_comm _ (n ^ (m - 1 - i)), Nat.mul_assoc, Nat.mul_add_div hp]
      have e3 : pw_nx n E (m + 1) u v * (n * n ^ i) = n * (pw_nx n E (m + 1) u v * n ^ i) := by
        rw [Nat.mul_comm n (n ^ i), ← Nat.mul_assoc, Nat.mul_comm _ n]
      rw [e3, Nat.mul_add_mod]
/-- how many steps from u to v, seen r rounds deep -/
def pw_L (n : Nat) (E : Nat → Nat → Bool) (v r u : Nat) : Option Nat := (List.range (r + 1)).find? (fun k => pw_wk n E k u v)
theorem pw_L_some {n : Nat} {E : Nat → Nat → Bool} {v r u k : Nat} : pw_L n E v r u = some k ↔ k ≤ r ∧ pw_wk n E k u v = true ∧ ∀ j, j < k → pw_wk n E j u v = false := by
  unfold pw_L
  rw [List.find?_range_eq_some]
  constructor
  · rintro ⟨h1, h2, h3⟩
    rw [List.mem_range] at h2
    exact ⟨by omega, h1, fun j hj => by simpa using h3 j hj⟩
  · rintro ⟨h1, h2, h3⟩
    exact ⟨h2, List.mem_range.mpr (by omega), fun j hj => by simpa using h3 j hj⟩
theorem pw_L_none {n : Nat} {E : Nat → Nat → Bool} {v r u : Nat} : pw_L n E v r u = none ↔ ∀ j, j ≤ r → pw_wk n E j u v = false := by
  unfold pw_L
  rw [List.find?_range_eq_none]
  constructor
  · intro h j hj
    simpa using h j (by omega)
  · intro h j hj
    simpa using h j (by omega)
/-- one round more -/
theorem pw_L_succ {n : Nat} {E : Nat → Nat → Bool} {v r u : Nat} (hn : pw_L n E v r u = none) : (∃ w, w < n ∧ E u w = true ∧ pw_L n E v r w = some r) ↔ pw_L n E v (r + 1) u = some (r + 1) := by
  rw [pw_L_none] at hn
  constructor
  · rintro ⟨w, hw, h1, h2⟩
    rw [pw_L_some] at h2 ⊢
    exact ⟨Nat.le_refl _, pw_wk_succ.mpr ⟨w, hw, h1, h2.2.1⟩, fun j hj => hn j (by omega)⟩
  · intro h
    rw [pw_L_some] at h
    obtain ⟨w, hw, h1, h2⟩ := pw_wk_succ.mp h.2.1
    refine ⟨w, hw, h1, pw_L_some.mpr ⟨Nat.le_refl _, h2, fun j hj => ?_⟩⟩
    cases hj2 : pw_wk n E j w v with
    | false => rfl
    | true =>
      have := hn (j + 1) (by omega)
      rw [pw_wk_succ.mpr ⟨w, hw, h1, hj2⟩] at this
      cases this
theorem pw_L_keep {n : Nat} {E : Nat → Nat → Bool} {v r u k : Nat} (h : pw_L n E v r u = some k) : pw_L n E v (r + 1) u = some k := by
  rw [pw_L_some] at h ⊢
  exact ⟨by omega, h.2⟩
theorem pw_L_still {n : Nat} {E : Nat → Nat → Bool} {v r u : Nat} (h : pw_L n E v r u = none) (h' : ¬ ∃ w, w < n ∧ E u w = true ∧ pw_L n E v r w = some r) : pw_L n E v (r + 1) u = none := by
  have hn := pw_L_none.mp h
  rw [pw_L_none]
  intro j hj
  by_cases e : j = r + 1
  · subst e
    cases hj2 : pw_wk n E (r + 1) u v with
    | false => rfl
    | true => exact absurd ((pw_L_succ h).mpr (pw_L_some.mpr ⟨Nat.le_refl _, hj2, fun j hj => hn j (by omega)⟩)) h'
  · exact hn j (by omega)
/-- the nearer neighbours are those from which a way of one step less leads on -/
theorem pw_near {n : Nat} {E : Nat → Nat → Bool} {v r u k w : Nat} (hu : pw_L n E v r u = some (k + 1)) (hw : w < n) (he : E u w = true) : pw_L n E v r w = some k ↔ pw_wk n E k w v = true := by
  rw [pw_L_some] at hu ⊢
  constructor
  · exact fun h => h.2.1
  · intro h
    refine ⟨by omega, h, fun j hj => ?_⟩
    cases hj2 : pw_wk n E j w v with
    | false => rfl
    | true =>
      have := hu.2.2 (j + 1) (by omega)
      rw [pw_wk_succ.mpr ⟨w, hw, he, hj2⟩] at this
      cases this
/-- a count that grows -/
theorem pw_count {p q : Nat → Bool} (hpq : ∀ a, p a = true → q a = true) : ∀ {l : List Nat} {a : Nat}, a ∈ l → p a = false → q a = true → l.countP p + 1 ≤ l.countP q
  | [], a, ha, _, _ => by cases ha
  | b :: l, a, ha, h1, h2 => by
    have hm : l.countP p ≤ l.countP q := List.countP_mono_left (fun x _ h => hpq x h)
    rw [List.countP_cons, List.countP_cons]
    by_cases e : a = b
    · subst e
      rw [if_neg (by rw [h1]; decide), if_pos h2]
      omega
    · have ha' : a ∈ l := by
        cases ha with
        | head => exact absurd rfl e
        | tail _ h => exact h
      have ih := pw_count hpq ha' h1 h2
      by_cases hp : p b = true
      · rw [if_pos hp, if_pos (hpq b hp)]; omega
      · rw [if_neg hp]; omega
/-- a switch that is k steps away has one before it that is j steps away -/
theorem pw_layer {n : Nat} {E : Nat → Nat → Bool} {v : Nat} : ∀ {k u : Nat}, u < n → pw_wk n E k u v = true → (∀ j, j < k → pw_wk n E j u v = false) → ∀ j, j ≤ k → ∃ w, w < n ∧ pw_wk n E j w v = true ∧ ∀ i, i < j → pw_wk n E i w v = false
  | 0, u, hu, h, hl, j, hj => ⟨u, hu, (by have e : j = 0 := (by omega); subst e; exact h), fun i hi => by omega⟩
  | k + 1, u, hu, h, hl, j, hj => by
    by_cases e : j = k + 1
    · subst e; exact ⟨u, hu, h, hl⟩
    · obtain ⟨w, hw, h1, h2⟩ := pw_wk_succ.mp h
      refine pw_layer hw h2 (fun i hi => ?_) j (by omega)
      cases hi2 : pw_wk n E i w v with
      | false => rfl
      | true =>
        have := hl (i + 1) (by omega)
        rw [pw_wk_succ.mpr ⟨w, hw, h1, hi2⟩] at this
        cases this
/-- within j steps of v -/
def pw_in (n : Nat) (E : Nat → Nat → Bool) (v j w : Nat) : Bool := (List.range (j + 1)).any (fun i => pw_wk n E i w v)
theorem pw_in_iff {n : Nat} {E : Nat → Nat → Bool} {v j w : Nat} : pw_in n E v j w = true ↔ ∃ i, i ≤ j ∧ pw_wk n E i w v = true := by
  unfold pw_in
  rw [List.any_eq_true]
  constructor
  · rintro ⟨i, h1, h2⟩
    rw [List.mem_range] at h1
    exact ⟨i, by omega, h2⟩
  · rintro ⟨i, h1, h2⟩
    exact ⟨i, List.mem_range.mpr (by omega), h2⟩
/-- the shortest way is shorter than there are switches -/
theorem pw_short {n : Nat} {E : Nat → Nat → Bool} {v k u : Nat} (hu : u < n) (h : pw_wk n E k u v = true) (hl : ∀ j, j < k → pw_wk n E j u v = false) : k < n := by
  have key : ∀ j, j ≤ k → j + 1 ≤ (List.range n).countP (pw_in n E v j) := by
    intro j
    induction j with
    | zero =>
      intro _
      obtain ⟨w, hw, h1, -⟩ := pw_layer hu h hl 0 (Nat.zero_le _)
      exact List.countP_pos_iff.mpr ⟨w, List.mem_range.mpr hw, pw_in_iff.mpr ⟨0, Nat.le_refl _, h1⟩⟩
    | succ j ih =>
      intro hj
      have h0 := ih (by omega)
      obtain ⟨w, hw, h1, h2⟩ := pw_layer hu h hl (j + 1) hj
      have := pw_count (p := pw_in n E v j) (q := pw_in n E v (j + 1)) (fun a ha => by
        rw [pw_in_iff] at ha ⊢
        obtain ⟨i, hi, h⟩ := ha
        exact ⟨i, by omega, h⟩) (List.mem_range.mpr hw) (by
        cases hq : pw_in n E v j w with
        | false => rfl
        | true =>
          obtain ⟨i, hi, hh⟩ := pw_in_iff.mp hq
          rw [h2 i (by omega)] at hh
          cases hh) (pw_in_iff.mpr ⟨j + 1, Nat.le_refl _, h1⟩)
      omega
  have h1 := key k (Nat.le_refl _)
  have h2 : (List.range n).countP (pw_in n E v k) ≤ (List.range n).length := List.countP_le_length
  rw [List.length_range] at h2
  omega
end
section
/-! the fabric as rows of numbers, and what each call does to it.
0: now, how many hosts. 1: hosts (number, switch, port, taken, latest number, latest from). 2: waves. 3: other ends. 4: marks. 5: places. 7: courses (from, to, state, wave, awaited, led to, keeps, kept number, then the way). 10+i: guards (priority, match, verdict, hits). 20+i: rules (from, to, port, made, last, uses). 30+i: orders. 40+i: reports (code, value, from, to, number). 100+e: a port (host, other end, up). 200+e: its wire (from, to, number; or -1, origin, 0). -/
abbrev fc_S : Type := Nat → List (List Int32)
def fc_up (s : fc_S) (c : Nat) (rows : List (List Int32)) : fc_S := fun q => if q = c then rows else s q
def fc_get (s : fc_S) (c k j : Nat) : Int32 := ((s c).getD k []).getD j 0
def fc_put (s : fc_S) (c k j : Nat) (x : Int32) : fc_S := fc_up s c ((s c).set k (((s c).getD k []).set j x))
def fc_add (s : fc_S) (c : Nat) (row : List Int32) : fc_S := fc_up s c (s c ++ [row])
def fc_del (s : fc_S) (c k : Nat) : fc_S := fc_up s c ((s c).eraseIdx k)
def fc_len (s : fc_S) (c : Nat) : Nat := (s c).length
def fc_now (s : fc_S) : Int32 := fc_get s 0 0 0
/-- what a call may name -/
def fc_free (s : fc_S) (e : Nat) : Bool := fc_get s (100 + e) 0 0 == -1 && fc_get s (100 + e) 0 1 == -1
def fc_sw (ns : Nat) (x : Int32) : Bool := decide (0 ≤ x) && decide (x < nI ns)
def fc_pt (ns : Nat) (x p : Int32) : Bool := fc_sw ns x && (decide (0 ≤ p) && decide (p < 4))
def fc_e (x p : Int32) : Nat := 4 * x.toNatClampNeg + p.toNatClampNeg
def fc_en (ns : Nat) (s : fc_S) (x p : Int32) : Bool := fc_pt ns x p && fc_get s (100 + fc_e x p) 0 1 != -1
def fc_hs (s : fc_S) (h : Int32) : Bool := decide (0 ≤ h) && decide (h < nI (fc_len s 1))
def fc_gd (ns : Nat) (s : fc_S) (x k : Int32) : Bool := fc_sw ns x && (decide (0 ≤ k) && decide (k < nI (fc_len s (10 + x.toNatClampNeg))))
/-- attach, link, turn -/
def fc_attach (ns : Nat) (s : fc_S) (x p : Int32) : Int32 × fc_S :=
  if fc_pt ns x p && fc_free s (fc_e x p) then
    if 6 ≤ fc_len s 1 then (-2, s)
    else (nI (fc_len s 1), fc_put (fc_put (fc_add s 1 [nI (fc_len s 1), x, p, 0, 0, -1]) 0 0 1 (nI (fc_len s 1 + 1))) (100 + fc_e x p) 0 0 (nI (fc_len s 1)))
  else (-1, s)
def fc_join (s : fc_S) (e o : Nat) : fc_S := fc_put (fc_put s (100 + e) 0 1 (nI o)) (100 + e) 0 2 1
def fc_link (ns : Nat) (s : fc_S) (a p b q : Int32) : Bool × fc_S :=
  if fc_pt ns a p && (fc_pt ns b q && (a != b && (fc_free s (fc_e a p) && fc_free s (fc_e b q)))) then (true, fc_join (fc_join s (fc_e a p) (fc_e b q)) (fc_e b q) (fc_e a p)) else (false, s)
def fc_tp (s : fc_S) (e : Nat) (up : Int32) : fc_S :=
  if up = 0 then fc_add (fc_up (fc_put s (100 + e) 0 2 up) (200 + e) []) (40 + e / 4) [5, nI (e % 4), -1, -1, 0] else fc_put s (100 + e) 0 2 up
def fc_mate (s : fc_S) (e : Nat) : Nat := (fc_get s (100 + e) 0 1).toNatClampNeg
def fc_turn (ns : Nat) (s : fc_S) (x p up : Int32) : Bool × fc_S :=
  if fc_en ns s x p && (fc_get s (100 + fc_e x p) 0 2 != up && (decide (fc_len s (40 + fc_e x p / 4) < 20) && decide (fc_len s (40 + fc_mate s (fc_e x p) / 4) < 20))) then (true, fc_tp (fc_tp s (fc_e x p) up) (fc_mate s (fc_e x p)) up) else (false, s)
/-- guards -/
def fc_mt (m : Int32) : Bool := decide (0 ≤ m) && (decide (m ≤ 511) && (decide (m &&& 7 ≤ 4) && (decide (m >>> 3 &&& 7 ≤ 6) && decide (m >>> 6 &&& 7 ≤ 6))))
def fc_guard (ns : Nat) (s : fc_S) (x pr m v : Int32) : Int32 × fc_S :=
  if fc_sw ns x && (decide (0 ≤ pr) && (decide (pr ≤ 9) && (decide (0 ≤ v) && (decide (v ≤ 6) && fc_mt m)))) then
    if 4 ≤ fc_len s (10 + x.toNatClampNeg) then (-2, s) else (nI (fc_len s (10 + x.toNatClampNeg)), fc_add s (10 + x.toNatClampNeg) [pr, m, v, 0])
  else (-1, s)
def fc_unguard (ns : Nat) (s : fc_S) (x k : Int32) : Int32 × fc_S :=
  if fc_gd ns s x k then (fc_get s (10 + x.toNatClampNeg) k.toNatClampNeg 3, fc_del s (10 + x.toNatClampNeg) k.toNatClampNeg) else (-1, s)
def fc_hits (ns : Nat) (s : fc_S) (x k : Int32) : Int32 := if fc_gd ns s x k then fc_get s (10 + x.toNatClampNeg) k.toNatClampNeg 3 else -1
/-- a frame goes out by a port -/
def fc_take (s : fc_S) (h : Nat) (row : List Int32) : fc_S := fc_put (fc_put (fc_put s 1 h 3 (fc_get s 1 h 3 + 1)) 1 h 4 (row.getD 2 0)) 1 h 5 (row.getD 0 0)
def fc_out (s : fc_S) (e : Nat) (row : List Int32) : fc_S :=
  if fc_get s (100 + e) 0 0 != -1 then
    if row.getD 0 0 != -1 && row.getD 1 0 == fc_get s (100 + e) 0 0 then fc_take s (fc_get s (100 + e) 0 0).toNatClampNeg row else s
  else if fc_get s (100 + e) 0 2 != 0 && decide (fc_len s (200 + e) < 6) then fc_add s (200 + e) row else s
/-- a report that is lost where many wait -/
def fc_slight (s : fc_S) (i : Nat) (row : List Int32) : fc_S := if fc_len s (40 + i) < 8 then fc_add s (40 + i) row else s
/-- guards and rules -/
def fc_fit (w v : Int32) : Bool := w == 0 || w == v + 1
def fc_mch (m p f t : Int32) : Bool := fc_fit (m &&& 7) p && (fc_fit (m >>> 3 &&& 7) f && fc_fit (m >>> 6 &&& 7) t)
def fc_bst (rows : List (List Int32)) (p f t : Int32) : Nat → Option Nat
  | 0 => none
  | k + 1 =>
    match fc_bst rows p f t k with
    | none => if fc_mch ((rows.getD k []).getD 1 0) p f t then some k else none
    | some b => if decide ((rows.getD b []).getD 0 0 < (rows.getD k []).getD 0 0) && fc_mch ((rows.getD k []).getD 1 0) p f t then some k else some b
def fc_rix (s : fc_S) (i : Nat) (f t : Int32) : Option Nat := (s (20 + i)).findIdx? (fun r => r.getD 0 0 == f && r.getD 1 0 == t)
def fc_rules (s : fc_S) (i : Nat) (p f t nr : Int32) : fc_S :=
  match fc_rix s i f t with
  | none => fc_slight s i [0, p, f, t, nr]
  | some k => fc_out (fc_put (fc_put s (20 + i) k 5 (fc_get s (20 + i) k 5 + 1)) (20 + i) k 4 (fc_now s)) (4 * i + (fc_get s (20 + i) k 2).toNatClampNeg) [f, t, nr]
def fc_in (s : fc_S) (i : Nat) (p f t nr : Int32) : fc_S :=
  match fc_bst (s (10 + i)) p f t (fc_len s (10 + i)) with
  | none => fc_rules s i p f t nr
  | some k =>
    if fc_get s (10 + i) k 2 < 4 then fc_out (fc_put s (10 + i) k 3 (fc_get s (10 + i) k 3 + 1)) (4 * i + (fc_get s (10 + i) k 2).toNatClampNeg) [f, t, nr]
    else if fc_get s (10 + i) k 2 = 5 then fc_rules (fc_put s (10 + i) k 3 (fc_get s (10 + i) k 3 + 1)) i p f t nr
    else if fc_get s (10 + i) k 2 = 6 then fc_slight (fc_put s (10 + i) k 3 (fc_get s (10 + i) k 3 + 1)) i [0, p, f, t, nr]
    else fc_put s (10 + i) k 3 (fc_get s (10 + i) k 3 + 1)
/-- send, carry -/
def fc_send (s : fc_S) (f t nr : Int32) : Bool × fc_S :=
  if fc_hs s f && (fc_hs s t && f != t) then (true, fc_in s (fc_get s 1 f.toNatClampNeg 1).toNatClampNeg (fc_get s 1 f.toNatClampNeg 2) f t nr) else (false, s)
def fc_carry (ns : Nat) (s : fc_S) (x p : Int32) : Bool × fc_S :=
  if fc_en ns s x p && !(s (200 + fc_e x p)).isEmpty then
    (true, if fc_get s (200 + fc_e x p) 0 0 = -1 then fc_slight (fc_del s (200 + fc_e x p) 0) (fc_mate s (fc_e x p) / 4) [1, nI (fc_mate s (fc_e x p) % 4), fc_get s (200 + fc_e x p) 0 1, -1, 0]
      else fc_in (fc_del s (200 + fc_e x p) 0) (fc_mate s (fc_e x p) / 4) (nI (fc_mate s (fc_e x p) % 4)) (fc_get s (200 + fc_e x p) 0 0) (fc_get s (200 + fc_e x p) 0 1) (fc_get s (200 + fc_e x p) 0 2))
  else (false, s)
/-- obey -/
def fc_cut (s : fc_S) (i : Nat) (f t : Int32) : fc_S := match fc_rix s i f t with | none => s | some k => fc_del s (20 + i) k
def fc_putr (room : Nat) (s : fc_S) (i : Nat) (f t p : Int32) : fc_S :=
  if room ≤ fc_len (fc_cut s i f t) (20 + i) then fc_add (fc_cut s i f t) (40 + i) [3, -1, f, t, 0] else fc_add (fc_cut s i f t) (20 + i) [f, t, p, fc_now s, fc_now s, 0]
def fc_outs (s : fc_S) (i : Nat) (bits : Int32) (row : List Int32) : Nat → fc_S
  | 0 => s
  | p + 1 => if bits >>> nI p &&& 1 = 1 then fc_out (fc_outs s i bits row p) (4 * i + p) row else fc_outs s i bits row p
def fc_prbs (s : fc_S) (i : Nat) : Nat → fc_S
  | 0 => s
  | p + 1 => if fc_get (fc_prbs s i p) (100 + (4 * i + p)) 0 1 != -1 then fc_out (fc_prbs s i p) (4 * i + p) [-1, nI (4 * i + p), 0] else fc_prbs s i p
def fc_does (room : Nat) (s : fc_S) (i : Nat) (r : List Int32) : fc_S :=
  if r.getD 0 0 = 0 then fc_putr room s i (r.getD 2 0) (r.getD 3 0) (r.getD 1 0)
  else if r.getD 0 0 = 1 then fc_cut s i (r.getD 2 0) (r.getD 3 0)
  else if r.getD 0 0 = 2 then fc_add s (40 + i) [2, r.getD 1 0, -1, -1, 0]
  else if r.getD 0 0 = 3 then fc_outs s i (r.getD 1 0) [r.getD 2 0, r.getD 3 0, r.getD 4 0] 4
  else if r.getD 0 0 = 4 then fc_rules s i 4 (r.getD 2 0) (r.getD 3 0) (r.getD 4 0)
  else if r.getD 0 0 = 5 then fc_prbs s i 4
  else s
def fc_obey (ns room : Nat) (s : fc_S) (x : Int32) : Int32 × fc_S :=
  if fc_sw ns x && !(s (30 + x.toNatClampNeg)).isEmpty then (fc_get s (30 + x.toNatClampNeg) 0 0, fc_does room (fc_del s (30 + x.toNatClampNeg) 0) x.toNatClampNeg ((s (30 + x.toNatClampNeg)).getD 0 [])) else (-1, s)
/-- probe, tick -/
def fc_all (ns : Nat) (s : fc_S) (row : List Int32) : fc_S := fun q => if 30 ≤ q ∧ q < 30 + ns then s q ++ [row] else s q
def fc_probe (ns : Nat) (s : fc_S) : Bool × fc_S := if (List.range ns).all (fun i => decide (fc_len s (30 + i) < 16)) then (true, fc_all ns s [5, -1, -1, -1, 0]) else (false, s)
def fc_old (idle : Nat) (now : Int32) (r : List Int32) : Bool := decide (nI idle ≤ now - r.getD 4 0) || decide (4 * nI idle ≤ now - r.getD 3 0)
/-- the rules of a switch that are old go, each with a report -/
def fc_drop (idle : Nat) (s : fc_S) (i : Nat) : fc_S := fun q =>
  if q = 20 + i then (s q).filter (fun r => !fc_old idle (fc_now s) r)
  else if q = 40 + i then s q ++ ((s (20 + i)).filter (fc_old idle (fc_now s))).map (fun r => [4, -1, r.getD 0 0, r.getD 1 0, 0])
  else s q
def fc_drops (idle : Nat) (s : fc_S) : Nat → fc_S
  | 0 => s
  | i + 1 => fc_drop idle (fc_drops idle s i) i
def fc_gone (idle : Nat) (s : fc_S) : Nat → Nat
  | 0 => 0
  | i + 1 => fc_gone idle s i + ((s (20 + i)).filter (fc_old idle (fc_now s))).length
def fc_tick (ns idle : Nat) (s : fc_S) : Int32 × fc_S := (nI (fc_gone idle (fc_put s 0 0 0 (fc_now s + 1)) ns), fc_drops idle (fc_put s 0 0 0 (fc_now s + 1)) ns)
/-- what is asked -/
def fc_waiting (ns : Nat) (s : fc_S) (x w : Int32) : Int32 :=
  if fc_sw ns x then
    if decide (0 ≤ w) && decide (w < 4) then nI (fc_len s (200 + fc_e x w)) else if w = 4 then nI (fc_len s (30 + x.toNatClampNeg)) else if w = 5 then nI (fc_len s (40 + x.toNatClampNeg)) else -1
  else -1
def fc_rule (ns : Nat) (s : fc_S) (x f t w : Int32) : Int32 :=
  if fc_sw ns x then
    match fc_rix s x.toNatClampNeg f t with
    | none => -1
    | some k => if w = 0 then fc_get s (20 + x.toNatClampNeg) k 2 else if w = 1 then fc_get s (20 + x.toNatClampNeg) k 5 else if w = 2 then nI k else -1
  else -1
def fc_taken (s : fc_S) (h w : Int32) : Int32 :=
  if fc_hs s h then if w = 0 then fc_get s 1 h.toNatClampNeg 3 else if w = 1 then fc_get s 1 h.toNatClampNeg 4 else if w = 2 then fc_get s 1 h.toNatClampNeg 5 else -1 else -1
def fc_known (ns : Nat) (s : fc_S) (x p : Int32) : Int32 := if fc_pt ns x p then fc_get s 3 0 (fc_e x p) else -1
def fc_place (s : fc_S) (h : Int32) : Int32 := if fc_hs s h then fc_get s 5 0 h.toNatClampNeg else -1
def fc_cix (s : fc_S) (f t : Int32) : Option Nat := (s 7).findIdx? (fun r => r.getD 0 0 == f && r.getD 1 0 == t)
def fc_way (s : fc_S) (k : Nat) : List Int32 := ((s 7).getD k []).drop 8
def fc_course (s : fc_S) (f t k : Int32) : Int32 :=
  match fc_cix s f t with
  | none => -1
  | some c => if decide (0 ≤ k) && decide (k < nI (fc_way s c).length) then (fc_way s c).getD k.toNatClampNeg 0 / 4 else if k = -1 then fc_get s 7 c 2 else if k = -2 then (if fc_get s 7 c 6 = 0 then 0 else fc_get s 7 c 7) else -1
/-- the controller -/
def fc_ord (s : fc_S) (e : Int32) (row : List Int32) : fc_S := fc_add s (30 + e.toNatClampNeg / 4) row
def fc_clr (s : fc_S) (k : Nat) : fc_S :=
  (fc_way s k).foldl (fun u e => fc_ord (fc_ord u e [1, -1, fc_get s 7 k 0, fc_get s 7 k 1, 0]) e [2, fc_get s 2 0 0 + 1, -1, -1, 0])
    (fc_put (fc_put (fc_put (fc_put s 2 0 0 (fc_get s 2 0 0 + 1)) 7 k 2 1) 7 k 3 (fc_get s 2 0 0 + 1)) 7 k 4 (nI (fc_way s k).length))
def fc_lead (s : fc_S) (k : Nat) : fc_S :=
  fc_ord (fc_ord (fc_put (fc_put (fc_put s 2 0 0 (fc_get s 2 0 0 + 1)) 7 k 3 (fc_get s 2 0 0 + 1)) 7 k 5 (fc_get s 7 k 5 - 1))
    ((fc_way s k).getD (fc_get s 7 k 5 - 1).toNatClampNeg 0) [0, nI (((fc_way s k).getD (fc_get s 7 k 5 - 1).toNatClampNeg 0).toNatClampNeg % 4), fc_get s 7 k 0, fc_get s 7 k 1, 0])
    ((fc_way s k).getD (fc_get s 7 k 5 - 1).toNatClampNeg 0) [2, fc_get s 2 0 0 + 1, -1, -1, 0]
/-- links as the controller knows them -/
def fc_oth (s : fc_S) (e : Nat) : Option Nat := if fc_get s 3 0 e = -1 then none else some (fc_get s 3 0 e).toNatClampNeg
def fc_E (s : fc_S) (u w : Nat) : Bool := (List.range 4).any (fun p => (fc_oth s (4 * u + p)).any (fun e => e / 4 == w))
/-- the least port of u that leads to w -/
def fc_ld (s : fc_S) (u w : Nat) : Nat := pw_least (fun p => (fc_oth s (4 * u + p)).any (fun e => e / 4 == w)) 4
def fc_wayOf (ns : Nat) (s : fc_S) (f t : Int32) : List Int32 :=
  if fc_get s 5 0 f.toNatClampNeg = -1 ∨ fc_get s 5 0 t.toNatClampNeg = -1 then [] else
  match pw_L ns (fc_E s) ((fc_get s 5 0 t.toNatClampNeg).toNatClampNeg / 4) ns ((fc_get s 5 0 f.toNatClampNeg).toNatClampNeg / 4) with
  | none => []
  | some d => (List.range d).map (fun i => nI (4 * pw_at ns (fc_E s) ((fc_get s 5 0 t.toNatClampNeg).toNatClampNeg / 4) d ((fc_get s 5 0 f.toNatClampNeg).toNatClampNeg / 4) i
      + fc_ld s (pw_at ns (fc_E s) ((fc_get s 5 0 t.toNatClampNeg).toNatClampNeg / 4) d ((fc_get s 5 0 f.toNatClampNeg).toNatClampNeg / 4) i) (pw_at ns (fc_E s) ((fc_get s 5 0 t.toNatClampNeg).toNatClampNeg / 4) d ((fc_get s 5 0 f.toNatClampNeg).toNatClampNeg / 4) (i + 1))))
      ++ [fc_get s 5 0 t.toNatClampNeg]
/-- a course begins to be laid along a way -/
def fc_lay (s : fc_S) (k : Nat) (way : List Int32) : fc_S := fc_lead (fc_up s 7 ((s 7).set k (((((s 7).getD k []).take 8).set 2 2).set 5 (nI way.length) ++ way))) k
def fc_make (ns : Nat) (s : fc_S) (f t nr : Int32) : fc_S :=
  if 6 ≤ fc_len s 7 then s else if (fc_wayOf ns s f t).isEmpty then s else fc_lay (fc_add s 7 [f, t, 2, 0, 0, 0, 1, nr]) (fc_len s 7) (fc_wayOf ns s f t)
def fc_bits (s : fc_S) (i : Nat) (port : Int32) (u : Nat) : Nat → Int32
  | 0 => 0
  | p + 1 => if fc_get s 4 0 (4 * u + p) = 0 ∧ ¬ (u = i ∧ nI p = port) then fc_bits s i port u p ||| (1 <<< nI p) else fc_bits s i port u p
def fc_flood (s : fc_S) (i : Nat) (port f t nr : Int32) : Nat → fc_S
  | 0 => s
  | u + 1 => if fc_bits s i port u 4 ≠ 0 ∧ fc_len s (30 + u) < 16 then fc_add (fc_flood s i port f t nr u) (30 + u) [3, fc_bits s i port u 4, f, t, nr] else fc_flood s i port f t nr u
def fc_miss (ns : Nat) (s0 : fc_S) (i : Nat) (port f t nr : Int32) : fc_S :=
  let s := if port ≠ 4 ∧ fc_get s0 4 0 (4 * i + port.toNatClampNeg) = 0 then fc_put s0 5 0 f.toNatClampNeg (nI (4 * i + port.toNatClampNeg)) else s0
  match fc_cix s f t with
  | some k => if fc_get s 7 k 2 = 3 then fc_clr (fc_put (fc_put s 7 k 6 1) 7 k 7 nr) k else fc_put (fc_put s 7 k 6 1) 7 k 7 nr
  | none => if fc_get s 5 0 t.toNatClampNeg = -1 then fc_flood s i port f t nr ns else fc_make ns s f t nr
/-- every course that is hurt, and laying or laid, is cleared -/
def fc_hurt (s : fc_S) (hurt : List Int32 → Bool) : Nat → fc_S
  | 0 => s
  | k + 1 => if hurt (fc_way s k) = true ∧ (fc_get s 7 k 2 = 2 ∨ fc_get s 7 k 2 = 3) then fc_clr (fc_hurt s hurt k) k else fc_hurt s hurt k
def fc_seen (s : fc_S) (e o : Nat) : fc_S :=
  fc_hurt (fc_up (fc_up (fc_up s 4 [(((s 4).getD 0 []).set e 1).set o 1]) 3 [(((s 3).getD 0 []).set e (nI o)).set o (nI e)]) 5 [((s 5).getD 0 []).map (fun x => if x = nI e ∨ x = nI o then -1 else x)])
    (fun w => w.getLast? == some (nI e) || w.getLast? == some (nI o)) (fc_len s 7)
def fc_done (ns : Nat) (s : fc_S) (wv : Int32) : fc_S :=
  match (s 7).findIdx? (fun r => r.getD 3 0 == wv) with
  | none => s
  | some k =>
    if fc_get s 7 k 2 = 1 then
      if 0 < fc_get s 7 k 4 - 1 then fc_put s 7 k 4 (fc_get s 7 k 4 - 1)
      else if fc_get s 7 k 6 = 0 ∨ (fc_wayOf ns s (fc_get s 7 k 0) (fc_get s 7 k 1)).isEmpty then fc_del s 7 k
      else fc_lay (fc_put s 7 k 4 (fc_get s 7 k 4 - 1)) k (fc_wayOf ns s (fc_get s 7 k 0) (fc_get s 7 k 1))
    else if fc_get s 7 k 2 = 2 then
      if 0 < fc_get s 7 k 5 then fc_lead s k
      else if fc_get s 7 k 6 = 0 then fc_put s 7 k 2 3
      else fc_ord (fc_put (fc_put s 7 k 2 3) 7 k 6 0) ((fc_way s k).getD 0 0) [4, -1, fc_get s 7 k 0, fc_get s 7 k 1, fc_get s 7 k 7]
    else s
def fc_noroom (s : fc_S) (f t : Int32) : fc_S :=
  match fc_cix s f t with
  | none => s
  | some k => if fc_get s 7 k 2 = 2 then fc_clr (fc_put s 7 k 6 0) k else s
def fc_wentOff (s : fc_S) (i : Nat) (f t : Int32) : fc_S :=
  match fc_cix s f t with
  | none => s
  | some k => if (fc_get s 7 k 2 = 2 ∨ fc_get s 7 k 2 = 3) ∧ (fc_way s k).any (fun e => e.toNatClampNeg / 4 == i) = true then fc_clr s k else s
def fc_down (s : fc_S) (e : Nat) : fc_S :=
  if fc_get s 3 0 e = -1 then s
  else fc_hurt (fc_up s 3 [(((s 3).getD 0 []).set e (-1)).set (fc_get s 3 0 e).toNatClampNeg (-1)]) (fun w => w.any (fun x => x == nI e) || w.any (fun x => x == fc_get s 3 0 e)) (fc_len s 7)
def fc_hears (ns : Nat) (s : fc_S) (i : Nat) (r : List Int32) : fc_S :=
  if r.getD 0 0 = 0 then fc_miss ns s i (r.getD 1 0) (r.getD 2 0) (r.getD 3 0) (r.getD 4 0)
  else if r.getD 0 0 = 1 then fc_seen s (4 * i + (r.getD 1 0).toNatClampNeg) (r.getD 2 0).toNatClampNeg
  else if r.getD 0 0 = 2 then fc_done ns s (r.getD 1 0)
  else if r.getD 0 0 = 3 then fc_noroom s (r.getD 2 0) (r.getD 3 0)
  else if r.getD 0 0 = 4 then fc_wentOff s i (r.getD 2 0) (r.getD 3 0)
  else if r.getD 0 0 = 5 then fc_down s (4 * i + (r.getD 1 0).toNatClampNeg)
  else s
def fc_report (ns : Nat) (s : fc_S) (x : Int32) : Int32 × fc_S :=
  if fc_sw ns x && !(s (40 + x.toNatClampNeg)).isEmpty then (fc_get s (40 + x.toNatClampNeg) 0 0, fc_hears ns (fc_del s (40 + x.toNatClampNeg) 0) x.toNatClampNeg ((s (40 + x.toNatClampNeg)).getD 0 [])) else (-1, s)
end
section
def y_FF_new : am_N := ("FlowFabric", "<init>", prog_1_method_1_code, 6, none)
def y_FF_within : am_N := ("FlowFabric", "within", prog_1_method_25_code, 3, some FieldType.int)
def y_Mt_min : am_N := ("java/lang/Math", "min", prog_17_method_69_code, 2, some FieldType.int)
def y_Mt_max : am_N := ("java/lang/Math", "max", prog_17_method_65_code, 2, some FieldType.int)
def y_Nd_new : am_N := ("FlowFabric$Node", "<init>", prog_9_method_1_code, 4, none)
def y_Pt_new : am_N := ("FlowFabric$Port", "<init>", prog_10_method_1_code, 1, none)
def y_AL_new : am_N := ("java/util/ArrayList", "<init>", prog_21_method_2_code, 1, none)
def y_Al_new : am_N := ("java/util/AbstractList", "<init>", prog_20_method_1_code, 1, none)
def y_Ac_new : am_N := ("java/util/AbstractCollection", "<init>", prog_19_method_1_code, 1, none)
def y_Ct_new : am_N := ("FlowFabric$Controller", "<init>", prog_2_method_1_code, 3, none)
def y_As_fill : am_N := ("java/util/Arrays", "fill", prog_22_method_103_code, 4, none)
def y_FF_attach : am_N := ("FlowFabric", "attach", prog_1_method_2_code, 4, some FieldType.int)
def y_FF_isPort : am_N := ("FlowFabric", "isPort", prog_1_method_21_code, 3, some FieldType.boolean)
def y_FF_isSwitch : am_N := ("FlowFabric", "isSwitch", prog_1_method_20_code, 2, some FieldType.boolean)
def y_Pt_isFree : am_N := ("FlowFabric$Port", "isFree", prog_10_method_2_code, 1, some FieldType.boolean)
def y_Ho_new : am_N := ("FlowFabric$Host", "<init>", prog_7_method_1_code, 4, none)
def y_FF_link : am_N := ("FlowFabric", "link", prog_1_method_3_code, 7, some FieldType.boolean)
def y_FF_endOf : am_N := ("FlowFabric", "endOf", prog_1_method_26_code, 2, some FieldType.int)
def y_Pt_join : am_N := ("FlowFabric$Port", "join", prog_10_method_3_code, 2, none)
def y_FF_turn : am_N := ("FlowFabric", "turn", prog_1_method_4_code, 7, some FieldType.boolean)
def y_FF_isEnd : am_N := ("FlowFabric", "isEnd", prog_1_method_22_code, 3, some FieldType.boolean)
def y_FF_switchOf : am_N := ("FlowFabric", "switchOf", prog_1_method_27_code, 1, some FieldType.int)
def y_Nd_holdsLinks : am_N := ("FlowFabric$Node", "holdsLinks", prog_9_method_2_code, 1, some FieldType.boolean)
def y_AL_size : am_N := ("java/util/ArrayList", "size", prog_21_method_8_code, 1, some FieldType.int)
def y_Nd_turnPort : am_N := ("FlowFabric$Node", "turnPort", prog_9_method_3_code, 3, none)
def y_AL_clear : am_N := ("java/util/ArrayList", "clear", prog_21_method_40_code, 4, none)
def y_Ms_ofValue : am_N := ("FlowFabric$Message", "ofValue", prog_8_method_2_code, 2, some (FieldType.object "FlowFabric$Message"))
def y_Ms_new : am_N := ("FlowFabric$Message", "<init>", prog_8_method_1_code, 6, none)
def y_AL_add : am_N := ("java/util/ArrayList", "add", prog_21_method_25_code, 2, some FieldType.boolean)
def y_AL_add2 : am_N := ("java/util/ArrayList", "add", prog_21_method_24_code, 4, none)
def y_AL_grow : am_N := ("java/util/ArrayList", "grow", prog_21_method_7_code, 1, some (FieldType.array (FieldType.object "java/lang/Object")))
def y_AL_grow2 : am_N := ("java/util/ArrayList", "grow", prog_21_method_6_code, 4, some (FieldType.array (FieldType.object "java/lang/Object")))
def y_Sp_newLength : am_N := ("jdk/internal/util/ArraysSupport", "newLength", prog_28_method_27_code, 4, some FieldType.int)
def y_Sp_hugeLength : am_N := ("jdk/internal/util/ArraysSupport", "hugeLength", prog_28_method_28_code, 3, some FieldType.int)
def y_As_copyOf : am_N := ("java/util/Arrays", "copyOf", prog_22_method_119_code, 2, some (FieldType.array (FieldType.object "java/lang/Object")))
def y_As_copyOf2 : am_N := ("java/util/Arrays", "copyOf", prog_22_method_120_code, 4, some (FieldType.array (FieldType.object "java/lang/Object")))
def y_FF_portOf : am_N := ("FlowFabric", "portOf", prog_1_method_28_code, 1, some FieldType.int)
def y_FF_guard : am_N := ("FlowFabric", "guard", prog_1_method_5_code, 6, some FieldType.int)
def y_Gd_isMatch : am_N := ("FlowFabric$Guard", "isMatch", prog_6_method_2_code, 1, some FieldType.boolean)
def y_Gd_new : am_N := ("FlowFabric$Guard", "<init>", prog_6_method_1_code, 4, none)
def y_FF_unguard : am_N := ("FlowFabric", "unguard", prog_1_method_6_code, 3, some FieldType.int)
def y_FF_isGuard : am_N := ("FlowFabric", "isGuard", prog_1_method_23_code, 3, some FieldType.boolean)
def y_AL_remove : am_N := ("java/util/ArrayList", "remove", prog_21_method_29_code, 4, some (FieldType.object "java/lang/Object"))
def y_Ob_checkIndex : am_N := ("java/util/Objects", "checkIndex", prog_25_method_17_code, 2, some FieldType.int)
def y_Pr_checkIndex : am_N := ("jdk/internal/util/Preconditions", "checkIndex", prog_29_method_11_code, 3, some FieldType.int)
def y_AL_fastRemove : am_N := ("java/util/ArrayList", "fastRemove", prog_21_method_39_code, 4, none)
def y_FF_send : am_N := ("FlowFabric", "send", prog_1_method_7_code, 5, some FieldType.boolean)
def y_FF_isHost : am_N := ("FlowFabric", "isHost", prog_1_method_24_code, 2, some FieldType.boolean)
def y_Dg_new : am_N := ("FlowFabric$Datagram", "<init>", prog_4_method_1_code, 4, none)
def y_Nd_comeIn : am_N := ("FlowFabric$Node", "comeIn", prog_9_method_5_code, 6, none)
def y_Nd_strongestGuard : am_N := ("FlowFabric$Node", "strongestGuard", prog_9_method_6_code, 7, some (FieldType.object "FlowFabric$Guard"))
def y_AL_get : am_N := ("java/util/ArrayList", "get", prog_21_method_20_code, 2, some (FieldType.object "java/lang/Object"))
def y_AL_elementData : am_N := ("java/util/ArrayList", "elementData", prog_21_method_18_code, 2, some (FieldType.object "java/lang/Object"))
def y_Gd_matches : am_N := ("FlowFabric$Guard", "matches", prog_6_method_3_code, 3, some FieldType.boolean)
def y_Gd_fits : am_N := ("FlowFabric$Guard", "fits", prog_6_method_4_code, 2, some FieldType.boolean)
def y_Fr_ofDatagram : am_N := ("FlowFabric$Frame", "ofDatagram", prog_5_method_2_code, 1, some (FieldType.object "FlowFabric$Frame"))
def y_Fr_new : am_N := ("FlowFabric$Frame", "<init>", prog_5_method_1_code, 3, none)
def y_Pt_sendOut : am_N := ("FlowFabric$Port", "sendOut", prog_10_method_4_code, 2, none)
def y_Ho_take : am_N := ("FlowFabric$Host", "take", prog_7_method_2_code, 2, none)
def y_Nd_comeToRules : am_N := ("FlowFabric$Node", "comeToRules", prog_9_method_7_code, 6, none)
def y_Nd_ruleIndex : am_N := ("FlowFabric$Node", "ruleIndex", prog_9_method_9_code, 5, some FieldType.int)
def y_Ms_ofDatagram : am_N := ("FlowFabric$Message", "ofDatagram", prog_8_method_4_code, 3, some (FieldType.object "FlowFabric$Message"))
def y_Nd_addIfOpen : am_N := ("FlowFabric$Node", "addIfOpen", prog_9_method_8_code, 2, none)
def y_FF_carry : am_N := ("FlowFabric", "carry", prog_1_method_8_code, 5, some FieldType.boolean)
def y_AL_isEmpty : am_N := ("java/util/ArrayList", "isEmpty", prog_21_method_9_code, 1, some FieldType.boolean)
def y_Nd_receive : am_N := ("FlowFabric$Node", "receive", prog_9_method_4_code, 4, none)
def y_Ms_ofProbe : am_N := ("FlowFabric$Message", "ofProbe", prog_8_method_5_code, 2, some (FieldType.object "FlowFabric$Message"))
def y_FF_obey : am_N := ("FlowFabric", "obey", prog_1_method_9_code, 3, some FieldType.int)
def y_Nd_carryOut : am_N := ("FlowFabric$Node", "carryOut", prog_9_method_10_code, 3, none)
def y_Nd_putRule : am_N := ("FlowFabric$Node", "putRule", prog_9_method_11_code, 3, none)
def y_Nd_cutRule : am_N := ("FlowFabric$Node", "cutRule", prog_9_method_12_code, 4, none)
def y_Ms_ofPair : am_N := ("FlowFabric$Message", "ofPair", prog_8_method_3_code, 4, some (FieldType.object "FlowFabric$Message"))
def y_Rl_new : am_N := ("FlowFabric$Rule", "<init>", prog_11_method_1_code, 5, none)
def y_Ms_toDatagram : am_N := ("FlowFabric$Message", "toDatagram", prog_8_method_6_code, 1, some (FieldType.object "FlowFabric$Datagram"))
def y_Nd_sendOutAt : am_N := ("FlowFabric$Node", "sendOutAt", prog_9_method_13_code, 5, none)
def y_Nd_sendProbes : am_N := ("FlowFabric$Node", "sendProbes", prog_9_method_14_code, 2, none)
def y_Fr_ofProbe : am_N := ("FlowFabric$Frame", "ofProbe", prog_5_method_3_code, 1, some (FieldType.object "FlowFabric$Frame"))
def y_FF_report : am_N := ("FlowFabric", "report", prog_1_method_10_code, 3, some FieldType.int)
def y_Ct_handle : am_N := ("FlowFabric$Controller", "handle", prog_2_method_2_code, 3, none)
def y_Ct_handleMiss : am_N := ("FlowFabric$Controller", "handleMiss", prog_2_method_3_code, 5, none)
def y_Ct_courseOf : am_N := ("FlowFabric$Controller", "courseOf", prog_2_method_13_code, 5, some (FieldType.object "FlowFabric$Course"))
def y_Ct_clearCourse : am_N := ("FlowFabric$Controller", "clearCourse", prog_2_method_14_code, 8, none)
def y_Ct_orderOuts : am_N := ("FlowFabric$Controller", "orderOuts", prog_2_method_4_code, 8, none)
def y_Ct_makeCourse : am_N := ("FlowFabric$Controller", "makeCourse", prog_2_method_5_code, 4, none)
def y_Ct_findWay : am_N := ("FlowFabric$Controller", "findWay", prog_2_method_16_code, 7, some (FieldType.array FieldType.int))
def y_Ct_countSteps : am_N := ("FlowFabric$Controller", "countSteps", prog_2_method_17_code, 5, none)
def y_Ct_nextEnd : am_N := ("FlowFabric$Controller", "nextEnd", prog_2_method_18_code, 7, some FieldType.int)
def y_Co_new : am_N := ("FlowFabric$Course", "<init>", prog_3_method_1_code, 4, none)
def y_Co_beginLaying : am_N := ("FlowFabric$Course", "beginLaying", prog_3_method_3_code, 2, none)
def y_Ct_leadAhead : am_N := ("FlowFabric$Controller", "leadAhead", prog_2_method_15_code, 4, none)
def y_Ct_handleSeen : am_N := ("FlowFabric$Controller", "handleSeen", prog_2_method_6_code, 6, none)
def y_Co_endsWith : am_N := ("FlowFabric$Course", "endsWith", prog_3_method_4_code, 2, some FieldType.boolean)
def y_Co_isLayingOrLaid : am_N := ("FlowFabric$Course", "isLayingOrLaid", prog_3_method_2_code, 1, some FieldType.boolean)
def y_Ct_handleDone : am_N := ("FlowFabric$Controller", "handleDone", prog_2_method_7_code, 4, none)
def y_Ct_countDone : am_N := ("FlowFabric$Controller", "countDone", prog_2_method_8_code, 4, none)
def y_Ct_finishLaying : am_N := ("FlowFabric$Controller", "finishLaying", prog_2_method_9_code, 3, none)
def y_Ct_handleNoRoom : am_N := ("FlowFabric$Controller", "handleNoRoom", prog_2_method_10_code, 4, none)
def y_Ct_handleGone : am_N := ("FlowFabric$Controller", "handleGone", prog_2_method_11_code, 5, none)
def y_Co_passes : am_N := ("FlowFabric$Course", "passes", prog_3_method_6_code, 6, some FieldType.boolean)
def y_Ct_handleDown : am_N := ("FlowFabric$Controller", "handleDown", prog_2_method_12_code, 6, none)
def y_Co_leadsOutOf : am_N := ("FlowFabric$Course", "leadsOutOf", prog_3_method_5_code, 6, some FieldType.boolean)
def y_FF_probe : am_N := ("FlowFabric", "probe", prog_1_method_11_code, 6, some FieldType.boolean)
def y_FF_tick : am_N := ("FlowFabric", "tick", prog_1_method_12_code, 6, some FieldType.int)
def y_Nd_dropOldRules : am_N := ("FlowFabric$Node", "dropOldRules", prog_9_method_15_code, 7, some FieldType.int)
def y_Rl_isOld : am_N := ("FlowFabric$Rule", "isOld", prog_11_method_2_code, 3, some FieldType.boolean)
def y_FF_waiting : am_N := ("FlowFabric", "waiting", prog_1_method_13_code, 3, some FieldType.int)
def y_FF_rule : am_N := ("FlowFabric", "rule", prog_1_method_14_code, 7, some FieldType.int)
def y_FF_hits : am_N := ("FlowFabric", "hits", prog_1_method_15_code, 3, some FieldType.int)
def y_FF_taken : am_N := ("FlowFabric", "taken", prog_1_method_16_code, 3, some FieldType.int)
def y_FF_known : am_N := ("FlowFabric", "known", prog_1_method_17_code, 3, some FieldType.int)
def y_FF_place : am_N := ("FlowFabric", "place", prog_1_method_18_code, 2, some FieldType.int)
def y_FF_course : am_N := ("FlowFabric", "course", prog_1_method_19_code, 5, some FieldType.int)
def y_Lw_cell : am_N := ("FlowFabricLaw", "cell", method_2_code, 2, some FieldType.int)
def y_M_new : am_N := ("FlowFabricModel", "<init>", prog_13_method_1_code, 4, none)
def y_M_between : am_N := ("FlowFabricModel", "between", prog_13_method_2_code, 3, some FieldType.int)
def y_M_attach : am_N := ("FlowFabricModel", "attach", prog_13_method_6_code, 3, some FieldType.int)
def y_M_isPort : am_N := ("FlowFabricModel", "isPort", prog_13_method_4_code, 3, some FieldType.boolean)
def y_M_isSwitch : am_N := ("FlowFabricModel", "isSwitch", prog_13_method_3_code, 2, some FieldType.boolean)
def y_M_link : am_N := ("FlowFabricModel", "link", prog_13_method_7_code, 5, some FieldType.boolean)
def y_M_join : am_N := ("FlowFabricModel", "join", prog_13_method_8_code, 3, none)
def y_M_turn : am_N := ("FlowFabricModel", "turn", prog_13_method_9_code, 5, some FieldType.boolean)
def y_M_tell : am_N := ("FlowFabricModel", "tell", prog_13_method_15_code, 8, none)
def y_M_add : am_N := ("FlowFabricModel", "add", prog_13_method_14_code, 8, none)
def y_M_guard : am_N := ("FlowFabricModel", "guard", prog_13_method_10_code, 7, some FieldType.int)
def y_M_hits : am_N := ("FlowFabricModel", "hits", prog_13_method_12_code, 3, some FieldType.int)
def y_M_isGuard : am_N := ("FlowFabricModel", "isGuard", prog_13_method_11_code, 3, some FieldType.boolean)
def y_M_unguard : am_N := ("FlowFabricModel", "unguard", prog_13_method_13_code, 5, some FieldType.int)
def y_M_send : am_N := ("FlowFabricModel", "send", prog_13_method_24_code, 4, some FieldType.boolean)
def y_M_isHost : am_N := ("FlowFabricModel", "isHost", prog_13_method_5_code, 2, some FieldType.boolean)
def y_M_comesIn : am_N := ("FlowFabricModel", "comesIn", prog_13_method_20_code, 9, none)
def y_M_matches : am_N := ("FlowFabricModel", "matches", prog_13_method_19_code, 4, some FieldType.boolean)
def y_M_out : am_N := ("FlowFabricModel", "out", prog_13_method_18_code, 6, none)
def y_M_toRules : am_N := ("FlowFabricModel", "toRules", prog_13_method_22_code, 7, none)
def y_M_ruleAt : am_N := ("FlowFabricModel", "ruleAt", prog_13_method_21_code, 4, some FieldType.int)
def y_M_carry : am_N := ("FlowFabricModel", "carry", prog_13_method_25_code, 9, some FieldType.boolean)
def y_M_obey : am_N := ("FlowFabricModel", "obey", prog_13_method_27_code, 6, some FieldType.int)
def y_M_take : am_N := ("FlowFabricModel", "take", prog_13_method_17_code, 3, none)
def y_M_put : am_N := ("FlowFabricModel", "put", prog_13_method_26_code, 6, none)
def y_M_removeRule : am_N := ("FlowFabricModel", "removeRule", prog_13_method_23_code, 4, none)
def y_M_probe : am_N := ("FlowFabricModel", "probe", prog_13_method_28_code, 2, some FieldType.boolean)
def y_M_order : am_N := ("FlowFabricModel", "order", prog_13_method_16_code, 7, none)
def y_M_tick : am_N := ("FlowFabricModel", "tick", prog_13_method_29_code, 4, some FieldType.int)
def y_M_report : am_N := ("FlowFabricModel", "report", prog_13_method_40_code, 5, some FieldType.int)
def y_M_missed : am_N := ("FlowFabricModel", "missed", prog_13_method_41_code, 8, none)
def y_M_courseOf : am_N := ("FlowFabricModel", "courseOf", prog_13_method_33_code, 3, some FieldType.int)
def y_M_keep : am_N := ("FlowFabricModel", "keep", prog_13_method_38_code, 3, none)
def y_M_clear : am_N := ("FlowFabricModel", "clear", prog_13_method_34_code, 4, none)
def y_M_flood : am_N := ("FlowFabricModel", "flood", prog_13_method_42_code, 10, none)
def y_M_search : am_N := ("FlowFabricModel", "search", prog_13_method_32_code, 7, some FieldType.boolean)
def y_M_isWay : am_N := ("FlowFabricModel", "isWay", prog_13_method_31_code, 7, some FieldType.boolean)
def y_M_leads : am_N := ("FlowFabricModel", "leads", prog_13_method_30_code, 4, some FieldType.int)
def y_M_lay : am_N := ("FlowFabricModel", "lay", prog_13_method_35_code, 4, none)
def y_M_lead : am_N := ("FlowFabricModel", "lead", prog_13_method_36_code, 4, none)
def y_M_seen : am_N := ("FlowFabricModel", "seen", prog_13_method_43_code, 5, none)
def y_M_portOf : am_N := ("FlowFabricModel", "portOf", prog_13_method_44_code, 4, some FieldType.int)
def y_M_done : am_N := ("FlowFabricModel", "done", prog_13_method_45_code, 3, none)
def y_M_cleared : am_N := ("FlowFabricModel", "cleared", prog_13_method_46_code, 2, none)
def y_M_drop : am_N := ("FlowFabricModel", "drop", prog_13_method_37_code, 4, none)
def y_M_led : am_N := ("FlowFabricModel", "led", prog_13_method_47_code, 2, none)
def y_M_down : am_N := ("FlowFabricModel", "down", prog_13_method_48_code, 7, none)
def y_M_passes : am_N := ("FlowFabricModel", "passes", prog_13_method_39_code, 5, some FieldType.boolean)
def y_M_waiting : am_N := ("FlowFabricModel", "waiting", prog_13_method_49_code, 3, some FieldType.int)
def y_M_rule : am_N := ("FlowFabricModel", "rule", prog_13_method_50_code, 7, some FieldType.int)
def y_M_taken : am_N := ("FlowFabricModel", "taken", prog_13_method_51_code, 3, some FieldType.int)
def y_M_known : am_N := ("FlowFabricModel", "known", prog_13_method_52_code, 3, some FieldType.int)
def y_M_place : am_N := ("FlowFabricModel", "place", prog_13_method_53_code, 2, some FieldType.int)
def y_M_course : am_N := ("FlowFabricModel", "course", prog_13_method_54_code, 6, some FieldType.int)
end
section
/-- what a new object asks of the tables -/
def am_NW (own : String) (idx ci : Nat) : Prop := ∃ q : vw_C, am_cl[ci]? = some q ∧ Cond.classLink own idx q.1 ∈ am_wz ∧ Cond.instantiable q.1 q.2.2 ∈ am_wz ∧ Cond.initialized q.1 ∈ am_wz
theorem s_FF_7 : am_CS "FlowFabric" 7 y_FF_within "(III)I" 3 := ⟨⟨am_in1 32 rfl rfl, am_in1 1 rfl rfl, by decide, by decide, by decide +kernel⟩, Or.inl (am_in1 30 rfl rfl), am_in1 31 rfl rfl⟩
theorem k_FF_13 : Cond.classLink "FlowFabric" 13 "FlowFabric$Node" ∈ am_wz := am_in1 39 rfl rfl
theorem n_FF_13 : am_NW "FlowFabric" 13 1 := ⟨am_qNd, rfl, am_in1 39 rfl rfl, am_in1 41 rfl rfl, am_in1 3 rfl rfl⟩
theorem i_FF_15 : am_CI "FlowFabric" 15 y_Nd_new "(II)V" 2 := ⟨⟨am_in1 44 rfl rfl, am_in1 3 rfl rfl, by decide, by decide, by decide +kernel⟩, rfl, rfl, Or.inl (am_in1 42 rfl rfl), am_in1 43 rfl rfl⟩
theorem f_FF_18 : am_F "FlowFabric" 18 0 1 := ⟨am_qFF, "FlowFabric", rfl, by decide, Or.inl (am_in1 169 rfl rfl), Or.inl rfl⟩
theorem p_FF_18 : am_P "FlowFabric" "<init>" 0 1 (.array (.object "FlowFabric$Node")) := ⟨am_qFF, rfl, by decide +kernel, Or.inr ⟨rfl, rfl, rfl⟩⟩
theorem f_FF_22 : am_F "FlowFabric" 22 0 0 := ⟨am_qFF, "FlowFabric", rfl, by decide, Or.inl (am_in1 168 rfl rfl), Or.inl rfl⟩
theorem p_FF_22 : am_P "FlowFabric" "<init>" 0 0 .int := ⟨am_qFF, rfl, by decide +kernel, Or.inr ⟨rfl, rfl, rfl⟩⟩
theorem k_FF_26 : Cond.classLink "FlowFabric" 26 "FlowFabric$Host" ∈ am_wz := am_in1 129 rfl rfl
theorem f_FF_28 : am_F "FlowFabric" 28 0 2 := ⟨am_qFF, "FlowFabric", rfl, by decide, Or.inl (am_in1 170 rfl rfl), Or.inl rfl⟩
theorem p_FF_28 : am_P "FlowFabric" "<init>" 0 2 (.array (.object "FlowFabric$Host")) := ⟨am_qFF, rfl, by decide +kernel, Or.inr ⟨rfl, rfl, rfl⟩⟩
theorem n_FF_32 : am_NW "FlowFabric" 32 4 := ⟨am_qCt, rfl, am_in1 131 rfl rfl, am_in1 132 rfl rfl, am_in1 8 rfl rfl⟩
theorem i_FF_34 : am_CI "FlowFabric" 34 y_Ct_new "([LFlowFabric$Node;)V" 1 := ⟨⟨am_in1 135 rfl rfl, am_in1 8 rfl rfl, by decide, by decide, by decide +kernel⟩, rfl, rfl, Or.inl (am_in1 133 rfl rfl), am_in1 134 rfl rfl⟩
theorem f_FF_37 : am_F "FlowFabric" 37 0 3 := ⟨am_qFF, "FlowFabric", rfl, by decide, Or.inl (am_in1 171 rfl rfl), Or.inl rfl⟩
theorem p_FF_37 : am_P "FlowFabric" "<init>" 0 3 (.object "FlowFabric$Controller") := ⟨am_qFF, rfl, by decide +kernel, Or.inr ⟨rfl, rfl, rfl⟩⟩
theorem f_FF_41 : am_F "FlowFabric" 41 0 4 := ⟨am_qFF, "FlowFabric", rfl, by decide, Or.inl (am_in1 172 rfl rfl), Or.inl rfl⟩
theorem p_FF_41 (nm : String) : am_P "FlowFabric" nm 0 4 .int := ⟨am_qFF, rfl, by decide +kernel, Or.inl rfl⟩
theorem f_FF_44 : am_F "FlowFabric" 44 0 5 := ⟨am_qFF, "FlowFabric", rfl, by decide, Or.inl (am_in1 173 rfl rfl), Or.inl rfl⟩
theorem p_FF_44 (nm : String) : am_P "FlowFabric" nm 0 5 .int := ⟨am_qFF, rfl, by decide +kernel, Or.inl rfl⟩
theorem s_FF_239 : am_CS "FlowFabric" 239 y_Mt_min "(II)I" 2 := ⟨⟨am_in1 35 rfl rfl, am_in1 2 rfl rfl, by decide, by decide, by decide +kernel⟩, Or.inl (am_in1 33 rfl rfl), am_in1 34 rfl rfl⟩
theorem s_FF_244 : am_CS "FlowFabric" 244 y_Mt_max "(II)I" 2 := ⟨⟨am_in1 38 rfl rfl, am_in1 2 rfl rfl, by decide, by decide, by decide +kernel⟩, Or.inl (am_in1 36 rfl rfl), am_in1 37 rfl rfl⟩
theorem f_Nd_9 : am_F "FlowFabric$Node" 9 1 0 := ⟨am_qNd, "FlowFabric$Node", rfl, by decide, Or.inl (am_in1 101 rfl rfl), Or.inl rfl⟩
theorem p_Nd_9 : am_P "FlowFabric$Node" "<init>" 1 0 .int := ⟨am_qNd, rfl, by decide +kernel, Or.inr ⟨rfl, rfl, rfl⟩⟩
theorem f_Nd_15 : am_F "FlowFabric$Node" 15 1 1 := ⟨am_qNd, "FlowFabric$Node", rfl, by decide, Or.inl (am_in1 102 rfl rfl), Or.inl rfl⟩
theorem p_Nd_15 : am_P "FlowFabric$Node" "<init>" 1 1 .int := ⟨am_qNd, rfl, by decide +kernel, Or.inr ⟨rfl, rfl, rfl⟩⟩
theorem k_Nd_18 : Cond.classLink "FlowFabric$Node" 18 "FlowFabric$Port" ∈ am_wz := am_in1 46 rfl rfl
theorem f_Nd_20 : am_F "FlowFabric$Node" 20 1 2 := ⟨am_qNd, "FlowFabric$Node", rfl, by decide, Or.inl (am_in1 103 rfl rfl), Or.inl rfl⟩
theorem p_Nd_20 : am_P "FlowFabric$Node" "<init>" 1 2 (.array (.object "FlowFabric$Port")) := ⟨am_qNd, rfl, by decide +kernel, Or.inr ⟨rfl, rfl, rfl⟩⟩
theorem n_Nd_18 : am_NW "FlowFabric$Node" 18 2 := ⟨am_qPt, rfl, am_in1 46 rfl rfl, am_in1 48 rfl rfl, am_in1 4 rfl rfl⟩
theorem i_Nd_24 : am_CI "FlowFabric$Node" 24 y_Pt_new "()V" 0 := ⟨⟨am_in1 51 rfl rfl, am_in1 4 rfl rfl, by decide, by decide, by decide +kernel⟩, rfl, rfl, Or.inl (am_in1 49 rfl rfl), am_in1 50 rfl rfl⟩
theorem n_Nd_25 : am_NW "FlowFabric$Node" 25 12 := ⟨am_qAL, rfl, am_in1 99 rfl rfl, am_in1 54 rfl rfl, am_in1 7 rfl rfl⟩
theorem i_Nd_27 : am_CI "FlowFabric$Node" 27 y_AL_new "()V" 0 := ⟨⟨am_in1 57 rfl rfl, am_in1 7 rfl rfl, by decide, by decide, by decide +kernel⟩, rfl, rfl, Or.inl (am_in1 100 rfl rfl), am_in1 56 rfl rfl⟩
theorem f_Nd_28 : am_F "FlowFabric$Node" 28 1 3 := ⟨am_qNd, "FlowFabric$Node", rfl, by decide, Or.inl (am_in1 105 rfl rfl), Or.inl rfl⟩
theorem p_Nd_28 : am_P "FlowFabric$Node" "<init>" 1 3 (.object "java/util/ArrayList") := ⟨am_qNd, rfl, by decide +kernel, Or.inr ⟨rfl, rfl, rfl⟩⟩
theorem f_Nd_32 : am_F "FlowFabric$Node" 32 1 4 := ⟨am_qNd, "FlowFabric$Node", rfl, by decide, Or.inl (am_in1 107 rfl rfl), Or.inl rfl⟩
theorem p_Nd_32 : am_P "FlowFabric$Node" "<init>" 1 4 (.object "java/util/ArrayList") := ⟨am_qNd, rfl, by decide +kernel, Or.inr ⟨rfl, rfl, rfl⟩⟩
theorem f_Nd_35 : am_F "FlowFabric$Node" 35 1 5 := ⟨am_qNd, "FlowFabric$Node", rfl, by decide, Or.inl (am_in1 109 rfl rfl), Or.inl rfl⟩
theorem p_Nd_35 : am_P "FlowFabric$Node" "<init>" 1 5 (.object "java/util/ArrayList") := ⟨am_qNd, rfl, by decide +kernel, Or.inr ⟨rfl, rfl, rfl⟩⟩
theorem f_Nd_38 : am_F "FlowFabric$Node" 38 1 6 := ⟨am_qNd, "FlowFabric$Node", rfl, by decide, Or.inl (am_in1 112 rfl rfl), Or.inl rfl⟩
theorem p_Nd_38 : am_P "FlowFabric$Node" "<init>" 1 6 (.object "java/util/ArrayList") := ⟨am_qNd, rfl, by decide +kernel, Or.inr ⟨rfl, rfl, rfl⟩⟩
theorem n_Pt_9 : am_NW "FlowFabric$Port" 9 12 := ⟨am_qAL, rfl, am_in1 53 rfl rfl, am_in1 54 rfl rfl, am_in1 7 rfl rfl⟩
theorem i_Pt_11 : am_CI "FlowFabric$Port" 11 y_AL_new "()V" 0 := ⟨⟨am_in1 57 rfl rfl, am_in1 7 rfl rfl, by decide, by decide, by decide +kernel⟩, rfl, rfl, Or.inl (am_in1 55 rfl rfl), am_in1 56 rfl rfl⟩
theorem f_Pt_12 : am_F "FlowFabric$Port" 12 2 0 := ⟨am_qPt, "FlowFabric$Port", rfl, by decide, Or.inl (am_in1 79 rfl rfl), Or.inl rfl⟩
theorem p_Pt_12 : am_P "FlowFabric$Port" "<init>" 2 0 (.object "java/util/ArrayList") := ⟨am_qPt, rfl, by decide +kernel, Or.inr ⟨rfl, rfl, rfl⟩⟩
theorem f_Pt_18 : am_F "FlowFabric$Port" 18 2 1 := ⟨am_qPt, "FlowFabric$Port", rfl, by decide, Or.inl (am_in1 82 rfl rfl), Or.inl rfl⟩
theorem p_Pt_18 (nm : String) : am_P "FlowFabric$Port" nm 2 1 (.object "FlowFabric$Host") := ⟨am_qPt, rfl, by decide +kernel, Or.inl rfl⟩
theorem f_Pt_22 : am_F "FlowFabric$Port" 22 2 2 := ⟨am_qPt, "FlowFabric$Port", rfl, by decide, Or.inl (am_in1 84 rfl rfl), Or.inl rfl⟩
theorem p_Pt_22 (nm : String) : am_P "FlowFabric$Port" nm 2 2 .int := ⟨am_qPt, rfl, by decide +kernel, Or.inl rfl⟩
theorem f_Pt_26 : am_F "FlowFabric$Port" 26 2 3 := ⟨am_qPt, "FlowFabric$Port", rfl, by decide, Or.inl (am_in1 87 rfl rfl), Or.inl rfl⟩
theorem p_Pt_26 (nm : String) : am_P "FlowFabric$Port" nm 2 3 .boolean := ⟨am_qPt, rfl, by decide +kernel, Or.inl rfl⟩
theorem i_AL_1 : am_CI "java/util/ArrayList" 1 y_Al_new "()V" 0 := ⟨⟨am_in1 60 rfl rfl, am_in1 6 rfl rfl, by decide, by decide, by decide +kernel⟩, rfl, rfl, Or.inl (am_in1 58 rfl rfl), am_in1 59 rfl rfl⟩
theorem f_AL_9 : am_F "java/util/ArrayList" 9 12 1 := ⟨am_qAL, "java/util/ArrayList", rfl, by decide, Or.inl (am_in1 67 rfl rfl), Or.inl rfl⟩
theorem p_AL_9 (nm : String) : am_P "java/util/ArrayList" nm 12 1 (.array (.object "java/lang/Object")) := ⟨am_qAL, rfl, by decide +kernel, Or.inl rfl⟩
theorem i_Al_1 : am_CI "java/util/AbstractList" 1 y_Ac_new "()V" 0 := ⟨⟨am_in1 63 rfl rfl, am_in1 5 rfl rfl, by decide, by decide, by decide +kernel⟩, rfl, rfl, Or.inl (am_in1 61 rfl rfl), am_in1 62 rfl rfl⟩
theorem f_Al_7 : am_F "java/util/AbstractList" 7 12 0 := ⟨am_qAL, "java/util/AbstractList", rfl, by decide, Or.inl (am_in1 69 rfl rfl), Or.inl rfl⟩
theorem p_Al_7 (nm : String) : am_P "java/util/AbstractList" nm 12 0 .int := ⟨am_qAL, rfl, by decide +kernel, Or.inl rfl⟩
theorem f_Ct_9 : am_F "FlowFabric$Controller" 9 4 0 := ⟨am_qCt, "FlowFabric$Controller", rfl, by decide, Or.inl (am_in1 142 rfl rfl), Or.inl rfl⟩
theorem p_Ct_9 : am_P "FlowFabric$Controller" "<init>" 4 0 (.array (.object "FlowFabric$Node")) := ⟨am_qCt, rfl, by decide +kernel, Or.inr ⟨rfl, rfl, rfl⟩⟩
theorem f_Ct_15 : am_F "FlowFabric$Controller" 15 4 1 := ⟨am_qCt, "FlowFabric$Controller", rfl, by decide, Or.inl (am_in1 143 rfl rfl), Or.inl rfl⟩
theorem p_Ct_15 : am_P "FlowFabric$Controller" "<init>" 4 1 (.array .int) := ⟨am_qCt, rfl, by decide +kernel, Or.inr ⟨rfl, rfl, rfl⟩⟩
theorem f_Ct_19 : am_F "FlowFabric$Controller" 19 4 2 := ⟨am_qCt, "FlowFabric$Controller", rfl, by decide, Or.inl (am_in1 145 rfl rfl), Or.inl rfl⟩
theorem p_Ct_19 : am_P "FlowFabric$Controller" "<init>" 4 2 (.array .boolean) := ⟨am_qCt, rfl, by decide +kernel, Or.inr ⟨rfl, rfl, rfl⟩⟩
theorem f_Ct_23 : am_F "FlowFabric$Controller" 23 4 3 := ⟨am_qCt, "FlowFabric$Controller", rfl, by decide, Or.inl (am_in1 146 rfl rfl), Or.inl rfl⟩
theorem p_Ct_23 : am_P "FlowFabric$Controller" "<init>" 4 3 (.array .int) := ⟨am_qCt, rfl, by decide +kernel, Or.inr ⟨rfl, rfl, rfl⟩⟩
theorem n_Ct_26 : am_NW "FlowFabric$Controller" 26 12 := ⟨am_qAL, rfl, am_in1 137 rfl rfl, am_in1 54 rfl rfl, am_in1 7 rfl rfl⟩
theorem i_Ct_28 : am_CI "FlowFabric$Controller" 28 y_AL_new "()V" 0 := ⟨⟨am_in1 57 rfl rfl, am_in1 7 rfl rfl, by decide, by decide, by decide +kernel⟩, rfl, rfl, Or.inl (am_in1 138 rfl rfl), am_in1 56 rfl rfl⟩
theorem f_Ct_29 : am_F "FlowFabric$Controller" 29 4 4 := ⟨am_qCt, "FlowFabric$Controller", rfl, by decide, Or.inl (am_in1 148 rfl rfl), Or.inl rfl⟩
theorem p_Ct_29 : am_P "FlowFabric$Controller" "<init>" 4 4 (.object "java/util/ArrayList") := ⟨am_qCt, rfl, by decide +kernel, Or.inr ⟨rfl, rfl, rfl⟩⟩
theorem f_Ct_33 : am_F "FlowFabric$Controller" 33 4 5 := ⟨am_qCt, "FlowFabric$Controller", rfl, by decide, Or.inl (am_in1 149 rfl rfl), Or.inl rfl⟩
theorem p_Ct_33 : am_P "FlowFabric$Controller" "<init>" 4 5 (.array .int) := ⟨am_qCt, rfl, by decide +kernel, Or.inr ⟨rfl, rfl, rfl⟩⟩
theorem f_Ct_36 : am_F "FlowFabric$Controller" 36 4 6 := ⟨am_qCt, "FlowFabric$Controller", rfl, by decide, Or.inl (am_in1 150 rfl rfl), Or.inl rfl⟩
theorem p_Ct_36 (nm : String) : am_P "FlowFabric$Controller" nm 4 6 .int := ⟨am_qCt, rfl, by decide +kernel, Or.inl rfl⟩
theorem s_Ct_40 : am_CS "FlowFabric$Controller" 40 y_As_fill "([II)V" 2 := ⟨⟨am_in1 141 rfl rfl, am_in1 9 rfl rfl, by decide, by decide, by decide +kernel⟩, Or.inl (am_in1 139 rfl rfl), am_in1 140 rfl rfl⟩
theorem v_FF_47 : am_CV "FlowFabric" 47 y_FF_isPort "(II)Z" 2 0 := ⟨⟨am_in1 194 rfl rfl, am_in1 1 rfl rfl, by decide, by decide, by decide +kernel⟩, Or.inl (am_in1 191 rfl rfl), am_in1 193 rfl rfl, am_qFF, rfl, am_inS (List.mem_of_getElem? (i := 0) rfl) rfl⟩
theorem f_FF_51 : am_F "FlowFabric" 51 1 2 := ⟨am_qNd, "FlowFabric$Node", rfl, by decide, Or.inl (am_in1 104 rfl rfl), Or.inl rfl⟩
theorem v_FF_55 : am_CV "FlowFabric" 55 y_Pt_isFree "()Z" 0 2 := ⟨⟨am_in1 202 rfl rfl, am_in1 4 rfl rfl, by decide, by decide, by decide +kernel⟩, Or.inl (am_in1 199 rfl rfl), am_in1 200 rfl rfl, am_qPt, rfl, am_in1 201 rfl rfl⟩
theorem n_FF_26 : am_NW "FlowFabric" 26 3 := ⟨am_qHo, rfl, am_in1 129 rfl rfl, am_in1 203 rfl rfl, am_in1 11 rfl rfl⟩
theorem i_FF_61 : am_CI "FlowFabric" 61 y_Ho_new "(III)V" 3 := ⟨⟨am_in1 206 rfl rfl, am_in1 11 rfl rfl, by decide, by decide, by decide +kernel⟩, rfl, rfl, Or.inl (am_in1 204 rfl rfl), am_in1 205 rfl rfl⟩
theorem f_FF_64 : am_F "FlowFabric" 64 2 1 := ⟨am_qPt, "FlowFabric$Port", rfl, by decide, Or.inl (am_in1 83 rfl rfl), Or.inl rfl⟩
theorem p_FF_64 (nm : String) : am_P "FlowFabric" nm 2 1 (.object "FlowFabric$Host") := ⟨am_qPt, rfl, by decide +kernel, Or.inl rfl⟩
theorem f_FF_68 : am_F "FlowFabric" 68 3 0 := ⟨am_qHo, "FlowFabric$Host", rfl, by decide, Or.inl (am_in1 209 rfl rfl), Or.inl rfl⟩
theorem v_FF_103 : am_CV "FlowFabric" 103 y_FF_isSwitch "(I)Z" 1 0 := ⟨⟨am_in1 198 rfl rfl, am_in1 1 rfl rfl, by decide, by decide, by decide +kernel⟩, Or.inl (am_in1 195 rfl rfl), am_in1 197 rfl rfl, am_qFF, rfl, am_inS (List.mem_of_getElem? (i := 1) rfl) rfl⟩
theorem f_Ho_9 : am_F "FlowFabric$Host" 9 3 0 := ⟨am_qHo, "FlowFabric$Host", rfl, by decide, Or.inl (am_in1 208 rfl rfl), Or.inl rfl⟩
theorem p_Ho_9 : am_P "FlowFabric$Host" "<init>" 3 0 .int := ⟨am_qHo, rfl, by decide +kernel, Or.inr ⟨rfl, rfl, rfl⟩⟩
theorem f_Ho_15 : am_F "FlowFabric$Host" 15 3 1 := ⟨am_qHo, "FlowFabric$Host", rfl, by decide, Or.inl (am_in1 211 rfl rfl), Or.inl rfl⟩
theorem p_Ho_15 : am_P "FlowFabric$Host" "<init>" 3 1 .int := ⟨am_qHo, rfl, by decide +kernel, Or.inr ⟨rfl, rfl, rfl⟩⟩
theorem f_Ho_18 : am_F "FlowFabric$Host" 18 3 2 := ⟨am_qHo, "FlowFabric$Host", rfl, by decide, Or.inl (am_in1 213 rfl rfl), Or.inl rfl⟩
theorem p_Ho_18 : am_P "FlowFabric$Host" "<init>" 3 2 .int := ⟨am_qHo, rfl, by decide +kernel, Or.inr ⟨rfl, rfl, rfl⟩⟩
theorem f_Ho_21 : am_F "FlowFabric$Host" 21 3 3 := ⟨am_qHo, "FlowFabric$Host", rfl, by decide, Or.inl (am_in1 215 rfl rfl), Or.inl rfl⟩
theorem p_Ho_21 (nm : String) : am_P "FlowFabric$Host" nm 3 3 .int := ⟨am_qHo, rfl, by decide +kernel, Or.inl rfl⟩
theorem f_Ho_24 : am_F "FlowFabric$Host" 24 3 4 := ⟨am_qHo, "FlowFabric$Host", rfl, by decide, Or.inl (am_in1 217 rfl rfl), Or.inl rfl⟩
theorem p_Ho_24 (nm : String) : am_P "FlowFabric$Host" nm 3 4 .int := ⟨am_qHo, rfl, by decide +kernel, Or.inl rfl⟩
theorem f_Ho_27 : am_F "FlowFabric$Host" 27 3 5 := ⟨am_qHo, "FlowFabric$Host", rfl, by decide, Or.inl (am_in1 219 rfl rfl), Or.inl rfl⟩
theorem p_Ho_27 (nm : String) : am_P "FlowFabric$Host" nm 3 5 .int := ⟨am_qHo, rfl, by decide +kernel, Or.inl rfl⟩
theorem s_FF_71 : am_CS "FlowFabric" 71 y_FF_endOf "(II)I" 2 := ⟨⟨am_in2 0 rfl rfl, am_in1 1 rfl rfl, by decide, by decide, by decide +kernel⟩, Or.inl (am_in1 238 rfl rfl), am_in1 239 rfl rfl⟩
theorem v_FF_75 : am_CV "FlowFabric" 75 y_Pt_join "(I)V" 1 2 := ⟨⟨am_in2 4 rfl rfl, am_in1 4 rfl rfl, by decide, by decide, by decide +kernel⟩, Or.inl (am_in2 1 rfl rfl), am_in2 2 rfl rfl, am_qPt, rfl, am_in2 3 rfl rfl⟩
theorem v_FF_79 : am_CV "FlowFabric" 79 y_FF_isEnd "(II)Z" 2 0 := ⟨⟨am_in2 12 rfl rfl, am_in1 1 rfl rfl, by decide, by decide, by decide +kernel⟩, Or.inl (am_in2 9 rfl rfl), am_in2 11 rfl rfl, am_qFF, rfl, am_inS (List.mem_of_getElem? (i := 2) rfl) rfl⟩
theorem f_FF_82 : am_F "FlowFabric" 82 2 3 := ⟨am_qPt, "FlowFabric$Port", rfl, by decide, Or.inl (am_in1 89 rfl rfl), Or.inl rfl⟩
theorem f_FF_86 : am_F "FlowFabric" 86 2 2 := ⟨am_qPt, "FlowFabric$Port", rfl, by decide, Or.inl (am_in1 85 rfl rfl), Or.inl rfl⟩
theorem s_FF_89 : am_CS "FlowFabric" 89 y_FF_switchOf "(I)I" 1 := ⟨⟨am_in2 15 rfl rfl, am_in1 1 rfl rfl, by decide, by decide, by decide +kernel⟩, Or.inl (am_in2 13 rfl rfl), am_in2 14 rfl rfl⟩
theorem v_FF_93 : am_CV "FlowFabric" 93 y_Nd_holdsLinks "()Z" 0 1 := ⟨⟨am_in2 19 rfl rfl, am_in1 3 rfl rfl, by decide, by decide, by decide +kernel⟩, Or.inl (am_in2 16 rfl rfl), am_in2 17 rfl rfl, am_qNd, rfl, am_in2 18 rfl rfl⟩
theorem v_FF_96 : am_CV "FlowFabric" 96 y_Nd_turnPort "(IZ)V" 2 1 := ⟨⟨am_in2 27 rfl rfl, am_in1 3 rfl rfl, by decide, by decide, by decide +kernel⟩, Or.inl (am_in2 24 rfl rfl), am_in2 25 rfl rfl, am_qNd, rfl, am_in2 26 rfl rfl⟩
theorem s_FF_100 : am_CS "FlowFabric" 100 y_FF_portOf "(I)I" 1 := ⟨⟨am_in2 124 rfl rfl, am_in1 1 rfl rfl, by decide, by decide, by decide +kernel⟩, Or.inl (am_in2 122 rfl rfl), am_in2 123 rfl rfl⟩
theorem v_Nd_41 : am_CV "FlowFabric$Node" 41 y_AL_size "()I" 0 12 := ⟨⟨am_in2 23 rfl rfl, am_in1 7 rfl rfl, by decide, by decide, by decide +kernel⟩, Or.inl (am_in2 20 rfl rfl), am_in2 21 rfl rfl, am_qAL, rfl, am_in2 22 rfl rfl⟩
theorem f_AL_48 : am_F "java/util/ArrayList" 48 12 2 := ⟨am_qAL, "java/util/ArrayList", rfl, by decide, Or.inl (am_in1 68 rfl rfl), Or.inl rfl⟩
theorem f_Nd_45 : am_F "FlowFabric$Node" 45 2 3 := ⟨am_qPt, "FlowFabric$Port", rfl, by decide, Or.inl (am_in1 88 rfl rfl), Or.inl rfl⟩
theorem p_Nd_45 (nm : String) : am_P "FlowFabric$Node" nm 2 3 .boolean := ⟨am_qPt, rfl, by decide +kernel, Or.inl rfl⟩
theorem f_Nd_49 : am_F "FlowFabric$Node" 49 2 0 := ⟨am_qPt, "FlowFabric$Port", rfl, by decide, Or.inl (am_in1 80 rfl rfl), Or.inl rfl⟩
theorem v_Nd_52 : am_CV "FlowFabric$Node" 52 y_AL_clear "()V" 0 12 := ⟨⟨am_in2 31 rfl rfl, am_in1 7 rfl rfl, by decide, by decide, by decide +kernel⟩, Or.inl (am_in2 28 rfl rfl), am_in2 29 rfl rfl, am_qAL, rfl, am_in2 30 rfl rfl⟩
theorem s_Nd_55 : am_CS "FlowFabric$Node" 55 y_Ms_ofValue "(II)LFlowFabric$Message;" 2 := ⟨⟨am_in2 34 rfl rfl, am_in1 12 rfl rfl, by decide, by decide, by decide +kernel⟩, Or.inl (am_in2 32 rfl rfl), am_in2 33 rfl rfl⟩
theorem v_Nd_61 : am_CV "FlowFabric$Node" 61 y_AL_add "(Ljava/lang/Object;)Z" 1 12 := ⟨⟨am_in2 69 rfl rfl, am_in1 7 rfl rfl, by decide, by decide, by decide +kernel⟩, Or.inl (am_in2 66 rfl rfl), am_in2 67 rfl rfl, am_qAL, rfl, am_in2 68 rfl rfl⟩
theorem f_AL_63 : am_F "java/util/ArrayList" 63 12 0 := ⟨am_qAL, "java/util/ArrayList", rfl, by decide, Or.inl (am_in1 70 rfl rfl), Or.inr (am_in1 71 rfl rfl)⟩
theorem p_AL_63 (nm : String) : am_P "java/util/ArrayList" nm 12 0 .int := ⟨am_qAL, rfl, by decide +kernel, Or.inl rfl⟩
theorem p_AL_48 (nm : String) : am_P "java/util/ArrayList" nm 12 2 .int := ⟨am_qAL, rfl, by decide +kernel, Or.inl rfl⟩
theorem n_Ms_10 : am_NW "FlowFabric$Message" 10 9 := ⟨am_qMs, rfl, am_in2 35 rfl rfl, am_in2 36 rfl rfl, am_in1 12 rfl rfl⟩
theorem i_Ms_27 : am_CI "FlowFabric$Message" 27 y_Ms_new "(IIIII)V" 5 := ⟨⟨am_in2 39 rfl rfl, am_in1 12 rfl rfl, by decide, by decide, by decide +kernel⟩, rfl, rfl, Or.inl (am_in2 37 rfl rfl), am_in2 38 rfl rfl⟩
theorem f_Ms_9 : am_F "FlowFabric$Message" 9 9 0 := ⟨am_qMs, "FlowFabric$Message", rfl, by decide, Or.inl (am_in2 41 rfl rfl), Or.inl rfl⟩
theorem p_Ms_9 : am_P "FlowFabric$Message" "<init>" 9 0 .int := ⟨am_qMs, rfl, by decide +kernel, Or.inr ⟨rfl, rfl, rfl⟩⟩
theorem f_Ms_15 : am_F "FlowFabric$Message" 15 9 1 := ⟨am_qMs, "FlowFabric$Message", rfl, by decide, Or.inl (am_in2 45 rfl rfl), Or.inl rfl⟩
theorem p_Ms_15 : am_P "FlowFabric$Message" "<init>" 9 1 .int := ⟨am_qMs, rfl, by decide +kernel, Or.inr ⟨rfl, rfl, rfl⟩⟩
theorem f_Ms_18 : am_F "FlowFabric$Message" 18 9 2 := ⟨am_qMs, "FlowFabric$Message", rfl, by decide, Or.inl (am_in2 48 rfl rfl), Or.inl rfl⟩
theorem p_Ms_18 : am_P "FlowFabric$Message" "<init>" 9 2 .int := ⟨am_qMs, rfl, by decide +kernel, Or.inr ⟨rfl, rfl, rfl⟩⟩
theorem f_Ms_21 : am_F "FlowFabric$Message" 21 9 3 := ⟨am_qMs, "FlowFabric$Message", rfl, by decide, Or.inl (am_in2 51 rfl rfl), Or.inl rfl⟩
theorem p_Ms_21 : am_P "FlowFabric$Message" "<init>" 9 3 .int := ⟨am_qMs, rfl, by decide +kernel, Or.inr ⟨rfl, rfl, rfl⟩⟩
theorem f_Ms_24 : am_F "FlowFabric$Message" 24 9 4 := ⟨am_qMs, "FlowFabric$Message", rfl, by decide, Or.inl (am_in2 54 rfl rfl), Or.inl rfl⟩
theorem p_Ms_24 : am_P "FlowFabric$Message" "<init>" 9 4 .int := ⟨am_qMs, rfl, by decide +kernel, Or.inr ⟨rfl, rfl, rfl⟩⟩
theorem v_AL_131 : am_CV "java/util/ArrayList" 131 y_AL_add2 "(Ljava/lang/Object;[Ljava/lang/Object;I)V" 3 12 := ⟨⟨am_in2 73 rfl rfl, am_in1 7 rfl rfl, by decide, by decide, by decide +kernel⟩, Or.inl (am_in2 70 rfl rfl), am_in2 72 rfl rfl, am_qAL, rfl, am_inS (List.mem_of_getElem? (i := 3) rfl) rfl⟩
theorem v_AL_129 : am_CV "java/util/ArrayList" 129 y_AL_grow "()[Ljava/lang/Object;" 0 12 := ⟨⟨am_in2 77 rfl rfl, am_in1 7 rfl rfl, by decide, by decide, by decide +kernel⟩, Or.inl (am_in2 74 rfl rfl), am_in2 76 rfl rfl, am_qAL, rfl, am_inS (List.mem_of_getElem? (i := 4) rfl) rfl⟩
theorem v_AL_69 : am_CV "java/util/ArrayList" 69 y_AL_grow2 "(I)[Ljava/lang/Object;" 1 12 := ⟨⟨am_in2 81 rfl rfl, am_in1 7 rfl rfl, by decide, by decide, by decide +kernel⟩, Or.inl (am_in2 78 rfl rfl), am_in2 80 rfl rfl, am_qAL, rfl, am_inS (List.mem_of_getElem? (i := 5) rfl) rfl⟩
theorem s_AL_73 : am_CS "java/util/ArrayList" 73 y_Sp_newLength "(III)I" 3 := ⟨⟨am_in2 84 rfl rfl, am_in1 13 rfl rfl, by decide, by decide, by decide +kernel⟩, Or.inl (am_in2 82 rfl rfl), am_in2 83 rfl rfl⟩
theorem s_AL_66 : am_CS "java/util/ArrayList" 66 y_As_copyOf "([Ljava/lang/Object;I)[Ljava/lang/Object;" 2 := ⟨⟨am_in2 92 rfl rfl, am_in1 9 rfl rfl, by decide, by decide, by decide +kernel⟩, Or.inl (am_in2 90 rfl rfl), am_in2 91 rfl rfl⟩
theorem s_AL_79 : am_CS "java/util/ArrayList" 79 y_Mt_max "(II)I" 2 := ⟨⟨am_in1 38 rfl rfl, am_in1 2 rfl rfl, by decide, by decide, by decide +kernel⟩, Or.inl (am_in2 120 rfl rfl), am_in1 37 rfl rfl⟩
theorem k_AL_7 : Cond.classLink "java/util/ArrayList" 7 "java/lang/Object" ∈ am_wz := am_in2 121 rfl rfl
theorem s_Sp_194 : am_CS "jdk/internal/util/ArraysSupport" 194 y_Mt_max "(II)I" 2 := ⟨⟨am_in1 38 rfl rfl, am_in1 2 rfl rfl, by decide, by decide, by decide +kernel⟩, Or.inl (am_in2 85 rfl rfl), am_in1 37 rfl rfl⟩
theorem s_Sp_201 : am_CS "jdk/internal/util/ArraysSupport" 201 y_Sp_hugeLength "(II)I" 2 := ⟨⟨am_in2 89 rfl rfl, am_in1 13 rfl rfl, by decide, by decide, by decide +kernel⟩, Or.inl (am_in2 87 rfl rfl), am_in2 88 rfl rfl⟩
theorem s_As_300 : am_CS "java/util/Arrays" 300 y_As_copyOf2 "([Ljava/lang/Object;ILjava/lang/Class;)[Ljava/lang/Object;" 3 := ⟨⟨am_in2 112 rfl rfl, am_in1 9 rfl rfl, by decide, by decide, by decide +kernel⟩, Or.inl (am_in2 110 rfl rfl), am_in2 111 rfl rfl⟩
theorem k_As_2 : Cond.classLink "java/util/Arrays" 2 "java/lang/Object" ∈ am_wz := am_in2 115 rfl rfl
theorem k_As_110 : Cond.classLink "java/util/Arrays" 110 "[Ljava/lang/Object;" ∈ am_wz := am_in2 113 rfl rfl
theorem s_As_304 : am_CS "java/util/Arrays" 304 y_Mt_min "(II)I" 2 := ⟨⟨am_in1 35 rfl rfl, am_in1 2 rfl rfl, by decide, by decide, by decide +kernel⟩, Or.inl (am_in2 116 rfl rfl), am_in1 34 rfl rfl⟩
theorem s_FF_107 : am_CS "FlowFabric" 107 y_Gd_isMatch "(I)Z" 1 := ⟨⟨am_in2 131 rfl rfl, am_in1 15 rfl rfl, by decide, by decide, by decide +kernel⟩, Or.inl (am_in2 129 rfl rfl), am_in2 130 rfl rfl⟩
theorem f_FF_112 : am_F "FlowFabric" 112 1 3 := ⟨am_qNd, "FlowFabric$Node", rfl, by decide, Or.inl (am_in1 106 rfl rfl), Or.inl rfl⟩
theorem v_FF_116 : am_CV "FlowFabric" 116 y_AL_size "()I" 0 12 := ⟨⟨am_in2 23 rfl rfl, am_in1 7 rfl rfl, by decide, by decide, by decide +kernel⟩, Or.inl (am_in2 132 rfl rfl), am_in2 21 rfl rfl, am_qAL, rfl, am_in2 22 rfl rfl⟩
theorem n_FF_108 : am_NW "FlowFabric" 108 8 := ⟨am_qGd, rfl, am_in2 133 rfl rfl, am_in2 134 rfl rfl, am_in1 15 rfl rfl⟩
theorem i_FF_122 : am_CI "FlowFabric" 122 y_Gd_new "(III)V" 3 := ⟨⟨am_in2 137 rfl rfl, am_in1 15 rfl rfl, by decide, by decide, by decide +kernel⟩, rfl, rfl, Or.inl (am_in2 135 rfl rfl), am_in2 136 rfl rfl⟩
theorem v_FF_123 : am_CV "FlowFabric" 123 y_AL_add "(Ljava/lang/Object;)Z" 1 12 := ⟨⟨am_in2 69 rfl rfl, am_in1 7 rfl rfl, by decide, by decide, by decide +kernel⟩, Or.inl (am_in2 156 rfl rfl), am_in2 67 rfl rfl, am_qAL, rfl, am_in2 68 rfl rfl⟩
theorem f_Gd_9 : am_F "FlowFabric$Guard" 9 8 0 := ⟨am_qGd, "FlowFabric$Guard", rfl, by decide, Or.inl (am_in2 139 rfl rfl), Or.inl rfl⟩
theorem p_Gd_9 : am_P "FlowFabric$Guard" "<init>" 8 0 .int := ⟨am_qGd, rfl, by decide +kernel, Or.inr ⟨rfl, rfl, rfl⟩⟩
theorem f_Gd_15 : am_F "FlowFabric$Guard" 15 8 1 := ⟨am_qGd, "FlowFabric$Guard", rfl, by decide, Or.inl (am_in2 141 rfl rfl), Or.inl rfl⟩
theorem p_Gd_15 : am_P "FlowFabric$Guard" "<init>" 8 1 .int := ⟨am_qGd, rfl, by decide +kernel, Or.inr ⟨rfl, rfl, rfl⟩⟩
theorem f_Gd_18 : am_F "FlowFabric$Guard" 18 8 2 := ⟨am_qGd, "FlowFabric$Guard", rfl, by decide, Or.inl (am_in2 142 rfl rfl), Or.inl rfl⟩
theorem p_Gd_18 : am_P "FlowFabric$Guard" "<init>" 8 2 .int := ⟨am_qGd, rfl, by decide +kernel, Or.inr ⟨rfl, rfl, rfl⟩⟩
theorem f_Gd_21 : am_F "FlowFabric$Guard" 21 8 3 := ⟨am_qGd, "FlowFabric$Guard", rfl, by decide, Or.inl (am_in2 144 rfl rfl), Or.inl rfl⟩
theorem p_Gd_21 (nm : String) : am_P "FlowFabric$Guard" nm 8 3 .int := ⟨am_qGd, rfl, by decide +kernel, Or.inl rfl⟩
theorem v_FF_127 : am_CV "FlowFabric" 127 y_FF_isGuard "(II)Z" 2 0 := ⟨⟨am_in2 164 rfl rfl, am_in1 1 rfl rfl, by decide, by decide, by decide +kernel⟩, Or.inl (am_in2 161 rfl rfl), am_in2 163 rfl rfl, am_qFF, rfl, am_inS (List.mem_of_getElem? (i := 6) rfl) rfl⟩
theorem v_FF_130 : am_CV "FlowFabric" 130 y_AL_remove "(I)Ljava/lang/Object;" 1 12 := ⟨⟨am_in2 168 rfl rfl, am_in1 7 rfl rfl, by decide, by decide, by decide +kernel⟩, Or.inl (am_in2 165 rfl rfl), am_in2 166 rfl rfl, am_qAL, rfl, am_in2 167 rfl rfl⟩
theorem k_FF_108 : Cond.classLink "FlowFabric" 108 "FlowFabric$Guard" ∈ am_wz := am_in2 133 rfl rfl
theorem f_FF_134 : am_F "FlowFabric" 134 8 3 := ⟨am_qGd, "FlowFabric$Guard", rfl, by decide, Or.inl (am_in2 146 rfl rfl), Or.inl rfl⟩
theorem s_AL_118 : am_CS "java/util/ArrayList" 118 y_Ob_checkIndex "(II)I" 2 := ⟨⟨am_in2 171 rfl rfl, am_in1 16 rfl rfl, by decide, by decide, by decide +kernel⟩, Or.inl (am_in2 169 rfl rfl), am_in2 170 rfl rfl⟩
theorem v_AL_144 : am_CV "java/util/ArrayList" 144 y_AL_fastRemove "([Ljava/lang/Object;I)V" 2 12 := ⟨⟨am_in2 178 rfl rfl, am_in1 7 rfl rfl, by decide, by decide, by decide +kernel⟩, Or.inl (am_in2 175 rfl rfl), am_in2 177 rfl rfl, am_qAL, rfl, am_inS (List.mem_of_getElem? (i := 7) rfl) rfl⟩
theorem s_Ob_105 : am_CS "java/util/Objects" 105 y_Pr_checkIndex "(IILjava/util/function/BiFunction;)I" 3 := ⟨⟨am_in2 174 rfl rfl, am_in1 17 rfl rfl, by decide, by decide, by decide +kernel⟩, Or.inl (am_in2 172 rfl rfl), am_in2 173 rfl rfl⟩
theorem v_FF_137 : am_CV "FlowFabric" 137 y_FF_isHost "(I)Z" 1 0 := ⟨⟨am_in2 187 rfl rfl, am_in1 1 rfl rfl, by decide, by decide, by decide +kernel⟩, Or.inl (am_in2 184 rfl rfl), am_in2 186 rfl rfl, am_qFF, rfl, am_inS (List.mem_of_getElem? (i := 8) rfl) rfl⟩
theorem f_FF_140 : am_F "FlowFabric" 140 3 1 := ⟨am_qHo, "FlowFabric$Host", rfl, by decide, Or.inl (am_in1 212 rfl rfl), Or.inl rfl⟩
theorem n_FF_143 : am_NW "FlowFabric" 143 6 := ⟨am_qDg, rfl, am_in2 188 rfl rfl, am_in2 189 rfl rfl, am_in1 18 rfl rfl⟩
theorem i_FF_145 : am_CI "FlowFabric" 145 y_Dg_new "(III)V" 3 := ⟨⟨am_in2 192 rfl rfl, am_in1 18 rfl rfl, by decide, by decide, by decide +kernel⟩, rfl, rfl, Or.inl (am_in2 190 rfl rfl), am_in2 191 rfl rfl⟩
theorem f_FF_146 : am_F "FlowFabric" 146 3 2 := ⟨am_qHo, "FlowFabric$Host", rfl, by decide, Or.inl (am_in1 214 rfl rfl), Or.inl rfl⟩
theorem v_FF_149 : am_CV "FlowFabric" 149 y_Nd_comeIn "(LFlowFabric$Datagram;II)V" 3 1 := ⟨⟨am_in2 220 rfl rfl, am_in1 3 rfl rfl, by decide, by decide, by decide +kernel⟩, Or.inl (am_in2 217 rfl rfl), am_in2 218 rfl rfl, am_qNd, rfl, am_in2 219 rfl rfl⟩
theorem f_Dg_7 : am_F "FlowFabric$Datagram" 7 6 0 := ⟨am_qDg, "FlowFabric$Datagram", rfl, by decide, Or.inl (am_in2 194 rfl rfl), Or.inl rfl⟩
theorem p_Dg_7 : am_P "FlowFabric$Datagram" "<init>" 6 0 .int := ⟨am_qDg, rfl, by decide +kernel, Or.inr ⟨rfl, rfl, rfl⟩⟩
theorem f_Dg_13 : am_F "FlowFabric$Datagram" 13 6 1 := ⟨am_qDg, "FlowFabric$Datagram", rfl, by decide, Or.inl (am_in2 200 rfl rfl), Or.inl rfl⟩
theorem p_Dg_13 : am_P "FlowFabric$Datagram" "<init>" 6 1 .int := ⟨am_qDg, rfl, by decide +kernel, Or.inr ⟨rfl, rfl, rfl⟩⟩
theorem f_Dg_16 : am_F "FlowFabric$Datagram" 16 6 2 := ⟨am_qDg, "FlowFabric$Datagram", rfl, by decide, Or.inl (am_in2 206 rfl rfl), Or.inl rfl⟩
theorem p_Dg_16 : am_P "FlowFabric$Datagram" "<init>" 6 2 .int := ⟨am_qDg, rfl, by decide +kernel, Or.inr ⟨rfl, rfl, rfl⟩⟩
theorem v_Nd_85 : am_CV "FlowFabric$Node" 85 y_Nd_strongestGuard "(LFlowFabric$Datagram;I)LFlowFabric$Guard;" 2 1 := ⟨⟨am_in2 224 rfl rfl, am_in1 3 rfl rfl, by decide, by decide, by decide +kernel⟩, Or.inl (am_in2 221 rfl rfl), am_in2 223 rfl rfl, am_qNd, rfl, am_inS (List.mem_of_getElem? (i := 9) rfl) rfl⟩
theorem f_Nd_89 : am_F "FlowFabric$Node" 89 8 3 := ⟨am_qGd, "FlowFabric$Guard", rfl, by decide, Or.inl (am_in2 145 rfl rfl), Or.inl rfl⟩
theorem p_Nd_89 (nm : String) : am_P "FlowFabric$Node" nm 8 3 .int := ⟨am_qGd, rfl, by decide +kernel, Or.inl rfl⟩
theorem f_Nd_94 : am_F "FlowFabric$Node" 94 8 2 := ⟨am_qGd, "FlowFabric$Guard", rfl, by decide, Or.inl (am_in2 143 rfl rfl), Or.inl rfl⟩
theorem s_Nd_97 : am_CS "FlowFabric$Node" 97 y_Fr_ofDatagram "(LFlowFabric$Datagram;)LFlowFabric$Frame;" 1 := ⟨⟨am_in3 3 rfl rfl, am_in1 19 rfl rfl, by decide, by decide, by decide +kernel⟩, Or.inl (am_in3 1 rfl rfl), am_in3 2 rfl rfl⟩
theorem v_Nd_101 : am_CV "FlowFabric$Node" 101 y_Pt_sendOut "(LFlowFabric$Frame;)V" 1 2 := ⟨⟨am_in3 23 rfl rfl, am_in1 4 rfl rfl, by decide, by decide, by decide +kernel⟩, Or.inl (am_in3 20 rfl rfl), am_in3 21 rfl rfl, am_qPt, rfl, am_in3 22 rfl rfl⟩
theorem v_Nd_105 : am_CV "FlowFabric$Node" 105 y_Nd_comeToRules "(LFlowFabric$Datagram;II)V" 3 1 := ⟨⟨am_in3 33 rfl rfl, am_in1 3 rfl rfl, by decide, by decide, by decide +kernel⟩, Or.inl (am_in3 30 rfl rfl), am_in3 32 rfl rfl, am_qNd, rfl, am_inS (List.mem_of_getElem? (i := 10) rfl) rfl⟩
theorem s_Nd_108 : am_CS "FlowFabric$Node" 108 y_Ms_ofDatagram "(IILFlowFabric$Datagram;)LFlowFabric$Message;" 3 := ⟨⟨am_in3 41 rfl rfl, am_in1 12 rfl rfl, by decide, by decide, by decide +kernel⟩, Or.inl (am_in3 39 rfl rfl), am_in3 40 rfl rfl⟩
theorem v_Nd_81 : am_CV "FlowFabric$Node" 81 y_Nd_addIfOpen "(LFlowFabric$Message;)V" 1 1 := ⟨⟨am_in3 45 rfl rfl, am_in1 3 rfl rfl, by decide, by decide, by decide +kernel⟩, Or.inl (am_in3 42 rfl rfl), am_in3 44 rfl rfl, am_qNd, rfl, am_inS (List.mem_of_getElem? (i := 11) rfl) rfl⟩
theorem v_Nd_111 : am_CV "FlowFabric$Node" 111 y_AL_get "(I)Ljava/lang/Object;" 1 12 := ⟨⟨am_in2 228 rfl rfl, am_in1 7 rfl rfl, by decide, by decide, by decide +kernel⟩, Or.inl (am_in2 225 rfl rfl), am_in2 226 rfl rfl, am_qAL, rfl, am_in2 227 rfl rfl⟩
theorem k_Nd_90 : Cond.classLink "FlowFabric$Node" 90 "FlowFabric$Guard" ∈ am_wz := am_in2 233 rfl rfl
theorem f_Nd_115 : am_F "FlowFabric$Node" 115 8 0 := ⟨am_qGd, "FlowFabric$Guard", rfl, by decide, Or.inl (am_in2 140 rfl rfl), Or.inl rfl⟩
theorem v_Nd_118 : am_CV "FlowFabric$Node" 118 y_Gd_matches "(LFlowFabric$Datagram;I)Z" 2 8 := ⟨⟨am_in2 237 rfl rfl, am_in1 15 rfl rfl, by decide, by decide, by decide +kernel⟩, Or.inl (am_in2 234 rfl rfl), am_in2 235 rfl rfl, am_qGd, rfl, am_in2 236 rfl rfl⟩
theorem v_AL_123 : am_CV "java/util/ArrayList" 123 y_AL_elementData "(I)Ljava/lang/Object;" 1 12 := ⟨⟨am_in2 232 rfl rfl, am_in1 7 rfl rfl, by decide, by decide, by decide +kernel⟩, Or.inl (am_in2 229 rfl rfl), am_in2 230 rfl rfl, am_qAL, rfl, am_in2 231 rfl rfl⟩
theorem s_Gd_24 : am_CS "FlowFabric$Guard" 24 y_Gd_fits "(II)Z" 2 := ⟨⟨am_in3 0 rfl rfl, am_in1 15 rfl rfl, by decide, by decide, by decide +kernel⟩, Or.inl (am_in2 238 rfl rfl), am_in2 239 rfl rfl⟩
theorem f_Gd_28 : am_F "FlowFabric$Guard" 28 6 0 := ⟨am_qDg, "FlowFabric$Datagram", rfl, by decide, Or.inl (am_in2 197 rfl rfl), Or.inl rfl⟩
theorem f_Gd_33 : am_F "FlowFabric$Guard" 33 6 1 := ⟨am_qDg, "FlowFabric$Datagram", rfl, by decide, Or.inl (am_in2 202 rfl rfl), Or.inl rfl⟩
theorem n_Fr_10 : am_NW "FlowFabric$Frame" 10 7 := ⟨am_qFr, rfl, am_in3 4 rfl rfl, am_in3 5 rfl rfl, am_in1 19 rfl rfl⟩
theorem i_Fr_19 : am_CI "FlowFabric$Frame" 19 y_Fr_new "(LFlowFabric$Datagram;I)V" 2 := ⟨⟨am_in3 8 rfl rfl, am_in1 19 rfl rfl, by decide, by decide, by decide +kernel⟩, rfl, rfl, Or.inl (am_in3 6 rfl rfl), am_in3 7 rfl rfl⟩
theorem f_Fr_9 : am_F "FlowFabric$Frame" 9 7 0 := ⟨am_qFr, "FlowFabric$Frame", rfl, by decide, Or.inl (am_in3 10 rfl rfl), Or.inl rfl⟩
theorem p_Fr_9 : am_P "FlowFabric$Frame" "<init>" 7 0 (.object "FlowFabric$Datagram") := ⟨am_qFr, rfl, by decide +kernel, Or.inr ⟨rfl, rfl, rfl⟩⟩
theorem f_Fr_15 : am_F "FlowFabric$Frame" 15 7 1 := ⟨am_qFr, "FlowFabric$Frame", rfl, by decide, Or.inl (am_in3 13 rfl rfl), Or.inl rfl⟩
theorem p_Fr_15 : am_P "FlowFabric$Frame" "<init>" 7 1 .int := ⟨am_qFr, rfl, by decide +kernel, Or.inr ⟨rfl, rfl, rfl⟩⟩
theorem f_Pt_30 : am_F "FlowFabric$Port" 30 7 0 := ⟨am_qFr, "FlowFabric$Frame", rfl, by decide, Or.inl (am_in3 12 rfl rfl), Or.inl rfl⟩
theorem f_Pt_36 : am_F "FlowFabric$Port" 36 6 1 := ⟨am_qDg, "FlowFabric$Datagram", rfl, by decide, Or.inl (am_in2 204 rfl rfl), Or.inl rfl⟩
theorem f_Pt_41 : am_F "FlowFabric$Port" 41 3 0 := ⟨am_qHo, "FlowFabric$Host", rfl, by decide, Or.inl (am_in1 210 rfl rfl), Or.inl rfl⟩
theorem v_Pt_46 : am_CV "FlowFabric$Port" 46 y_Ho_take "(LFlowFabric$Datagram;)V" 1 3 := ⟨⟨am_in3 27 rfl rfl, am_in1 11 rfl rfl, by decide, by decide, by decide +kernel⟩, Or.inl (am_in3 24 rfl rfl), am_in3 25 rfl rfl, am_qHo, rfl, am_in3 26 rfl rfl⟩
theorem v_Pt_50 : am_CV "FlowFabric$Port" 50 y_AL_size "()I" 0 12 := ⟨⟨am_in2 23 rfl rfl, am_in1 7 rfl rfl, by decide, by decide, by decide +kernel⟩, Or.inl (am_in3 28 rfl rfl), am_in2 21 rfl rfl, am_qAL, rfl, am_in2 22 rfl rfl⟩
theorem v_Pt_54 : am_CV "FlowFabric$Port" 54 y_AL_add "(Ljava/lang/Object;)Z" 1 12 := ⟨⟨am_in2 69 rfl rfl, am_in1 7 rfl rfl, by decide, by decide, by decide +kernel⟩, Or.inl (am_in3 29 rfl rfl), am_in2 67 rfl rfl, am_qAL, rfl, am_in2 68 rfl rfl⟩
theorem f_Ho_30 : am_F "FlowFabric$Host" 30 6 2 := ⟨am_qDg, "FlowFabric$Datagram", rfl, by decide, Or.inl (am_in2 207 rfl rfl), Or.inl rfl⟩
theorem f_Ho_33 : am_F "FlowFabric$Host" 33 6 0 := ⟨am_qDg, "FlowFabric$Datagram", rfl, by decide, Or.inl (am_in2 195 rfl rfl), Or.inl rfl⟩
theorem f_Nd_122 : am_F "FlowFabric$Node" 122 6 0 := ⟨am_qDg, "FlowFabric$Datagram", rfl, by decide, Or.inl (am_in2 199 rfl rfl), Or.inl rfl⟩
theorem f_Nd_127 : am_F "FlowFabric$Node" 127 6 1 := ⟨am_qDg, "FlowFabric$Datagram", rfl, by decide, Or.inl (am_in2 205 rfl rfl), Or.inl rfl⟩
theorem v_Nd_130 : am_CV "FlowFabric$Node" 130 y_Nd_ruleIndex "(II)I" 2 1 := ⟨⟨am_in3 37 rfl rfl, am_in1 3 rfl rfl, by decide, by decide, by decide +kernel⟩, Or.inl (am_in3 34 rfl rfl), am_in3 35 rfl rfl, am_qNd, rfl, am_in3 36 rfl rfl⟩
theorem k_Nd_134 : Cond.classLink "FlowFabric$Node" 134 "FlowFabric$Rule" ∈ am_wz := am_in3 38 rfl rfl
theorem f_Nd_136 : am_F "FlowFabric$Node" 136 10 5 := ⟨am_qRl, "FlowFabric$Rule", rfl, by decide, Or.inl (am_in3 100 rfl rfl), Or.inl rfl⟩
theorem p_Nd_136 (nm : String) : am_P "FlowFabric$Node" nm 10 5 .int := ⟨am_qRl, rfl, by decide +kernel, Or.inl rfl⟩
theorem f_Nd_139 : am_F "FlowFabric$Node" 139 10 4 := ⟨am_qRl, "FlowFabric$Rule", rfl, by decide, Or.inl (am_in3 98 rfl rfl), Or.inl rfl⟩
theorem p_Nd_139 (nm : String) : am_P "FlowFabric$Node" nm 10 4 .int := ⟨am_qRl, rfl, by decide +kernel, Or.inl rfl⟩
theorem f_Nd_142 : am_F "FlowFabric$Node" 142 10 2 := ⟨am_qRl, "FlowFabric$Rule", rfl, by decide, Or.inl (am_in3 94 rfl rfl), Or.inl rfl⟩
theorem f_Nd_145 : am_F "FlowFabric$Node" 145 10 0 := ⟨am_qRl, "FlowFabric$Rule", rfl, by decide, Or.inl (am_in3 90 rfl rfl), Or.inl rfl⟩
theorem f_Nd_146 : am_F "FlowFabric$Node" 146 10 1 := ⟨am_qRl, "FlowFabric$Rule", rfl, by decide, Or.inl (am_in3 92 rfl rfl), Or.inl rfl⟩
theorem f_Ms_30 : am_F "FlowFabric$Message" 30 6 0 := ⟨am_qDg, "FlowFabric$Datagram", rfl, by decide, Or.inl (am_in2 198 rfl rfl), Or.inl rfl⟩
theorem f_Ms_33 : am_F "FlowFabric$Message" 33 6 1 := ⟨am_qDg, "FlowFabric$Datagram", rfl, by decide, Or.inl (am_in2 203 rfl rfl), Or.inl rfl⟩
theorem f_Ms_34 : am_F "FlowFabric$Message" 34 6 2 := ⟨am_qDg, "FlowFabric$Datagram", rfl, by decide, Or.inl (am_in2 208 rfl rfl), Or.inl rfl⟩
theorem f_FF_153 : am_F "FlowFabric" 153 2 0 := ⟨am_qPt, "FlowFabric$Port", rfl, by decide, Or.inl (am_in1 81 rfl rfl), Or.inl rfl⟩
theorem v_FF_156 : am_CV "FlowFabric" 156 y_AL_isEmpty "()Z" 0 12 := ⟨⟨am_in3 53 rfl rfl, am_in1 7 rfl rfl, by decide, by decide, by decide +kernel⟩, Or.inl (am_in3 50 rfl rfl), am_in3 51 rfl rfl, am_qAL, rfl, am_in3 52 rfl rfl⟩
theorem k_FF_159 : Cond.classLink "FlowFabric" 159 "FlowFabric$Frame" ∈ am_wz := am_in3 54 rfl rfl
theorem v_FF_161 : am_CV "FlowFabric" 161 y_Nd_receive "(LFlowFabric$Frame;II)V" 3 1 := ⟨⟨am_in3 58 rfl rfl, am_in1 3 rfl rfl, by decide, by decide, by decide +kernel⟩, Or.inl (am_in3 55 rfl rfl), am_in3 56 rfl rfl, am_qNd, rfl, am_in3 57 rfl rfl⟩
theorem f_Nd_65 : am_F "FlowFabric$Node" 65 7 0 := ⟨am_qFr, "FlowFabric$Frame", rfl, by decide, Or.inl (am_in3 11 rfl rfl), Or.inl rfl⟩
theorem v_Nd_71 : am_CV "FlowFabric$Node" 71 y_Nd_comeIn "(LFlowFabric$Datagram;II)V" 3 1 := ⟨⟨am_in2 220 rfl rfl, am_in1 3 rfl rfl, by decide, by decide, by decide +kernel⟩, Or.inl (am_in3 59 rfl rfl), am_in2 218 rfl rfl, am_qNd, rfl, am_in2 219 rfl rfl⟩
theorem f_Nd_75 : am_F "FlowFabric$Node" 75 7 1 := ⟨am_qFr, "FlowFabric$Frame", rfl, by decide, Or.inl (am_in3 14 rfl rfl), Or.inl rfl⟩
theorem s_Nd_78 : am_CS "FlowFabric$Node" 78 y_Ms_ofProbe "(II)LFlowFabric$Message;" 2 := ⟨⟨am_in3 62 rfl rfl, am_in1 12 rfl rfl, by decide, by decide, by decide +kernel⟩, Or.inl (am_in3 60 rfl rfl), am_in3 61 rfl rfl⟩
theorem f_FF_165 : am_F "FlowFabric" 165 1 5 := ⟨am_qNd, "FlowFabric$Node", rfl, by decide, Or.inl (am_in1 111 rfl rfl), Or.inl rfl⟩
theorem k_FF_168 : Cond.classLink "FlowFabric" 168 "FlowFabric$Message" ∈ am_wz := am_in3 67 rfl rfl
theorem v_FF_170 : am_CV "FlowFabric" 170 y_Nd_carryOut "(LFlowFabric$Message;I)V" 2 1 := ⟨⟨am_in3 71 rfl rfl, am_in1 3 rfl rfl, by decide, by decide, by decide +kernel⟩, Or.inl (am_in3 68 rfl rfl), am_in3 69 rfl rfl, am_qNd, rfl, am_in3 70 rfl rfl⟩
theorem f_FF_174 : am_F "FlowFabric" 174 9 0 := ⟨am_qMs, "FlowFabric$Message", rfl, by decide, Or.inl (am_in2 43 rfl rfl), Or.inl rfl⟩
theorem f_Nd_147 : am_F "FlowFabric$Node" 147 9 0 := ⟨am_qMs, "FlowFabric$Message", rfl, by decide, Or.inl (am_in2 44 rfl rfl), Or.inl rfl⟩
theorem v_Nd_150 : am_CV "FlowFabric$Node" 150 y_Nd_putRule "(LFlowFabric$Message;I)V" 2 1 := ⟨⟨am_in3 75 rfl rfl, am_in1 3 rfl rfl, by decide, by decide, by decide +kernel⟩, Or.inl (am_in3 72 rfl rfl), am_in3 74 rfl rfl, am_qNd, rfl, am_inS (List.mem_of_getElem? (i := 12) rfl) rfl⟩
theorem f_Nd_154 : am_F "FlowFabric$Node" 154 9 2 := ⟨am_qMs, "FlowFabric$Message", rfl, by decide, Or.inl (am_in2 50 rfl rfl), Or.inl rfl⟩
theorem f_Nd_155 : am_F "FlowFabric$Node" 155 9 3 := ⟨am_qMs, "FlowFabric$Message", rfl, by decide, Or.inl (am_in2 53 rfl rfl), Or.inl rfl⟩
theorem v_Nd_156 : am_CV "FlowFabric$Node" 156 y_Nd_cutRule "(II)V" 2 1 := ⟨⟨am_in3 79 rfl rfl, am_in1 3 rfl rfl, by decide, by decide, by decide +kernel⟩, Or.inl (am_in3 76 rfl rfl), am_in3 78 rfl rfl, am_qNd, rfl, am_inS (List.mem_of_getElem? (i := 13) rfl) rfl⟩
theorem f_Nd_160 : am_F "FlowFabric$Node" 160 9 1 := ⟨am_qMs, "FlowFabric$Message", rfl, by decide, Or.inl (am_in2 47 rfl rfl), Or.inl rfl⟩
theorem v_Nd_163 : am_CV "FlowFabric$Node" 163 y_Ms_toDatagram "()LFlowFabric$Datagram;" 0 9 := ⟨⟨am_in3 118 rfl rfl, am_in1 12 rfl rfl, by decide, by decide, by decide +kernel⟩, Or.inl (am_in3 115 rfl rfl), am_in3 116 rfl rfl, am_qMs, rfl, am_in3 117 rfl rfl⟩
theorem v_Nd_167 : am_CV "FlowFabric$Node" 167 y_Nd_sendOutAt "(ILFlowFabric$Datagram;)V" 2 1 := ⟨⟨am_in3 124 rfl rfl, am_in1 3 rfl rfl, by decide, by decide, by decide +kernel⟩, Or.inl (am_in3 121 rfl rfl), am_in3 123 rfl rfl, am_qNd, rfl, am_inS (List.mem_of_getElem? (i := 14) rfl) rfl⟩
theorem v_Nd_171 : am_CV "FlowFabric$Node" 171 y_Nd_sendProbes "()V" 0 1 := ⟨⟨am_in3 128 rfl rfl, am_in1 3 rfl rfl, by decide, by decide, by decide +kernel⟩, Or.inl (am_in3 125 rfl rfl), am_in3 127 rfl rfl, am_qNd, rfl, am_inS (List.mem_of_getElem? (i := 15) rfl) rfl⟩
theorem s_Nd_174 : am_CS "FlowFabric$Node" 174 y_Ms_ofPair "(IIII)LFlowFabric$Message;" 4 := ⟨⟨am_in3 83 rfl rfl, am_in1 12 rfl rfl, by decide, by decide, by decide +kernel⟩, Or.inl (am_in3 81 rfl rfl), am_in3 82 rfl rfl⟩
theorem n_Nd_134 : am_NW "FlowFabric$Node" 134 10 := ⟨am_qRl, rfl, am_in3 38 rfl rfl, am_in3 84 rfl rfl, am_in1 20 rfl rfl⟩
theorem i_Nd_178 : am_CI "FlowFabric$Node" 178 y_Rl_new "(IIII)V" 4 := ⟨⟨am_in3 87 rfl rfl, am_in1 20 rfl rfl, by decide, by decide, by decide +kernel⟩, rfl, rfl, Or.inl (am_in3 85 rfl rfl), am_in3 86 rfl rfl⟩
theorem v_Nd_181 : am_CV "FlowFabric$Node" 181 y_AL_remove "(I)Ljava/lang/Object;" 1 12 := ⟨⟨am_in2 168 rfl rfl, am_in1 7 rfl rfl, by decide, by decide, by decide +kernel⟩, Or.inl (am_in3 80 rfl rfl), am_in2 166 rfl rfl, am_qAL, rfl, am_in2 167 rfl rfl⟩
theorem f_Rl_9 : am_F "FlowFabric$Rule" 9 10 0 := ⟨am_qRl, "FlowFabric$Rule", rfl, by decide, Or.inl (am_in3 89 rfl rfl), Or.inl rfl⟩
theorem p_Rl_9 : am_P "FlowFabric$Rule" "<init>" 10 0 .int := ⟨am_qRl, rfl, by decide +kernel, Or.inr ⟨rfl, rfl, rfl⟩⟩
theorem f_Rl_15 : am_F "FlowFabric$Rule" 15 10 1 := ⟨am_qRl, "FlowFabric$Rule", rfl, by decide, Or.inl (am_in3 91 rfl rfl), Or.inl rfl⟩
theorem p_Rl_15 : am_P "FlowFabric$Rule" "<init>" 10 1 .int := ⟨am_qRl, rfl, by decide +kernel, Or.inr ⟨rfl, rfl, rfl⟩⟩
theorem f_Rl_18 : am_F "FlowFabric$Rule" 18 10 2 := ⟨am_qRl, "FlowFabric$Rule", rfl, by decide, Or.inl (am_in3 93 rfl rfl), Or.inl rfl⟩
theorem p_Rl_18 : am_P "FlowFabric$Rule" "<init>" 10 2 .int := ⟨am_qRl, rfl, by decide +kernel, Or.inr ⟨rfl, rfl, rfl⟩⟩
theorem f_Rl_21 : am_F "FlowFabric$Rule" 21 10 3 := ⟨am_qRl, "FlowFabric$Rule", rfl, by decide, Or.inl (am_in3 96 rfl rfl), Or.inl rfl⟩
theorem p_Rl_21 : am_P "FlowFabric$Rule" "<init>" 10 3 .int := ⟨am_qRl, rfl, by decide +kernel, Or.inr ⟨rfl, rfl, rfl⟩⟩
theorem f_Rl_24 : am_F "FlowFabric$Rule" 24 10 4 := ⟨am_qRl, "FlowFabric$Rule", rfl, by decide, Or.inl (am_in3 97 rfl rfl), Or.inl rfl⟩
theorem p_Rl_24 (nm : String) : am_P "FlowFabric$Rule" nm 10 4 .int := ⟨am_qRl, rfl, by decide +kernel, Or.inl rfl⟩
theorem f_Rl_27 : am_F "FlowFabric$Rule" 27 10 5 := ⟨am_qRl, "FlowFabric$Rule", rfl, by decide, Or.inl (am_in3 99 rfl rfl), Or.inl rfl⟩
theorem p_Rl_27 (nm : String) : am_P "FlowFabric$Rule" nm 10 5 .int := ⟨am_qRl, rfl, by decide +kernel, Or.inl rfl⟩
theorem n_Ms_31 : am_NW "FlowFabric$Message" 31 6 := ⟨am_qDg, rfl, am_in3 119 rfl rfl, am_in2 189 rfl rfl, am_in1 18 rfl rfl⟩
theorem i_Ms_35 : am_CI "FlowFabric$Message" 35 y_Dg_new "(III)V" 3 := ⟨⟨am_in2 192 rfl rfl, am_in1 18 rfl rfl, by decide, by decide, by decide +kernel⟩, rfl, rfl, Or.inl (am_in3 120 rfl rfl), am_in2 191 rfl rfl⟩
theorem f_Nd_184 : am_F "FlowFabric$Node" 184 2 2 := ⟨am_qPt, "FlowFabric$Port", rfl, by decide, Or.inl (am_in1 86 rfl rfl), Or.inl rfl⟩
theorem s_Nd_187 : am_CS "FlowFabric$Node" 187 y_FF_endOf "(II)I" 2 := ⟨⟨am_in2 0 rfl rfl, am_in1 1 rfl rfl, by decide, by decide, by decide +kernel⟩, Or.inr ⟨"FlowFabric", by decide⟩, am_in1 239 rfl rfl⟩
theorem s_Nd_190 : am_CS "FlowFabric$Node" 190 y_Fr_ofProbe "(I)LFlowFabric$Frame;" 1 := ⟨⟨am_in3 132 rfl rfl, am_in1 19 rfl rfl, by decide, by decide, by decide +kernel⟩, Or.inl (am_in3 130 rfl rfl), am_in3 131 rfl rfl⟩
theorem f_FF_177 : am_F "FlowFabric" 177 1 6 := ⟨am_qNd, "FlowFabric$Node", rfl, by decide, Or.inl (am_in1 113 rfl rfl), Or.inl rfl⟩
theorem v_FF_180 : am_CV "FlowFabric" 180 y_Ct_handle "(ILFlowFabric$Message;)V" 2 4 := ⟨⟨am_in3 140 rfl rfl, am_in1 8 rfl rfl, by decide, by decide, by decide +kernel⟩, Or.inl (am_in3 137 rfl rfl), am_in3 138 rfl rfl, am_qCt, rfl, am_in3 139 rfl rfl⟩
theorem f_Ct_46 : am_F "FlowFabric$Controller" 46 9 0 := ⟨am_qMs, "FlowFabric$Message", rfl, by decide, Or.inl (am_in2 42 rfl rfl), Or.inl rfl⟩
theorem f_Ct_51 : am_F "FlowFabric$Controller" 51 9 1 := ⟨am_qMs, "FlowFabric$Message", rfl, by decide, Or.inl (am_in2 46 rfl rfl), Or.inl rfl⟩
theorem v_Ct_54 : am_CV "FlowFabric$Controller" 54 y_Ms_toDatagram "()LFlowFabric$Datagram;" 0 9 := ⟨⟨am_in3 118 rfl rfl, am_in1 12 rfl rfl, by decide, by decide, by decide +kernel⟩, Or.inl (am_in3 141 rfl rfl), am_in3 116 rfl rfl, am_qMs, rfl, am_in3 117 rfl rfl⟩
theorem v_Ct_58 : am_CV "FlowFabric$Controller" 58 y_Ct_handleMiss "(IILFlowFabric$Datagram;)V" 3 4 := ⟨⟨am_in3 145 rfl rfl, am_in1 8 rfl rfl, by decide, by decide, by decide +kernel⟩, Or.inl (am_in3 142 rfl rfl), am_in3 144 rfl rfl, am_qCt, rfl, am_inS (List.mem_of_getElem? (i := 16) rfl) rfl⟩
theorem s_Ct_62 : am_CS "FlowFabric$Controller" 62 y_FF_endOf "(II)I" 2 := ⟨⟨am_in2 0 rfl rfl, am_in1 1 rfl rfl, by decide, by decide, by decide +kernel⟩, Or.inr ⟨"FlowFabric", by decide⟩, am_in1 239 rfl rfl⟩
theorem f_Ct_66 : am_F "FlowFabric$Controller" 66 9 2 := ⟨am_qMs, "FlowFabric$Message", rfl, by decide, Or.inl (am_in2 49 rfl rfl), Or.inl rfl⟩
theorem v_Ct_69 : am_CV "FlowFabric$Controller" 69 y_Ct_handleSeen "(II)V" 2 4 := ⟨⟨am_in3 239 rfl rfl, am_in1 8 rfl rfl, by decide, by decide, by decide +kernel⟩, Or.inl (am_in3 236 rfl rfl), am_in3 238 rfl rfl, am_qCt, rfl, am_inS (List.mem_of_getElem? (i := 24) rfl) rfl⟩
theorem v_Ct_73 : am_CV "FlowFabric$Controller" 73 y_Ct_handleDone "(I)V" 1 4 := ⟨⟨am_in4 11 rfl rfl, am_in1 8 rfl rfl, by decide, by decide, by decide +kernel⟩, Or.inl (am_in4 8 rfl rfl), am_in4 10 rfl rfl, am_qCt, rfl, am_inS (List.mem_of_getElem? (i := 25) rfl) rfl⟩
theorem f_Ct_77 : am_F "FlowFabric$Controller" 77 9 3 := ⟨am_qMs, "FlowFabric$Message", rfl, by decide, Or.inl (am_in2 52 rfl rfl), Or.inl rfl⟩
theorem v_Ct_80 : am_CV "FlowFabric$Controller" 80 y_Ct_handleNoRoom "(II)V" 2 4 := ⟨⟨am_in4 24 rfl rfl, am_in1 8 rfl rfl, by decide, by decide, by decide +kernel⟩, Or.inl (am_in4 21 rfl rfl), am_in4 23 rfl rfl, am_qCt, rfl, am_inS (List.mem_of_getElem? (i := 28) rfl) rfl⟩
theorem v_Ct_83 : am_CV "FlowFabric$Controller" 83 y_Ct_handleGone "(III)V" 3 4 := ⟨⟨am_in4 28 rfl rfl, am_in1 8 rfl rfl, by decide, by decide, by decide +kernel⟩, Or.inl (am_in4 25 rfl rfl), am_in4 27 rfl rfl, am_qCt, rfl, am_inS (List.mem_of_getElem? (i := 29) rfl) rfl⟩
theorem v_Ct_87 : am_CV "FlowFabric$Controller" 87 y_Ct_handleDown "(I)V" 1 4 := ⟨⟨am_in4 37 rfl rfl, am_in1 8 rfl rfl, by decide, by decide, by decide +kernel⟩, Or.inl (am_in4 34 rfl rfl), am_in4 36 rfl rfl, am_qCt, rfl, am_inS (List.mem_of_getElem? (i := 30) rfl) rfl⟩
theorem f_Ct_90 : am_F "FlowFabric$Controller" 90 6 0 := ⟨am_qDg, "FlowFabric$Datagram", rfl, by decide, Or.inl (am_in2 196 rfl rfl), Or.inl rfl⟩
theorem f_Ct_93 : am_F "FlowFabric$Controller" 93 6 1 := ⟨am_qDg, "FlowFabric$Datagram", rfl, by decide, Or.inl (am_in2 201 rfl rfl), Or.inl rfl⟩
theorem v_Ct_94 : am_CV "FlowFabric$Controller" 94 y_Ct_courseOf "(II)LFlowFabric$Course;" 2 4 := ⟨⟨am_in3 150 rfl rfl, am_in1 8 rfl rfl, by decide, by decide, by decide +kernel⟩, Or.inl (am_in3 147 rfl rfl), am_in3 148 rfl rfl, am_qCt, rfl, am_in3 149 rfl rfl⟩
theorem f_Ct_98 : am_F "FlowFabric$Controller" 98 5 4 := ⟨am_qCo, "FlowFabric$Course", rfl, by decide, Or.inl (am_in3 202 rfl rfl), Or.inl rfl⟩
theorem p_Ct_98 (nm : String) : am_P "FlowFabric$Controller" nm 5 4 (.object "FlowFabric$Datagram") := ⟨am_qCo, rfl, by decide +kernel, Or.inl rfl⟩
theorem f_Ct_104 : am_F "FlowFabric$Controller" 104 5 2 := ⟨am_qCo, "FlowFabric$Course", rfl, by decide, Or.inl (am_in3 196 rfl rfl), Or.inl rfl⟩
theorem v_Ct_107 : am_CV "FlowFabric$Controller" 107 y_Ct_clearCourse "(LFlowFabric$Course;)V" 1 4 := ⟨⟨am_in3 157 rfl rfl, am_in1 8 rfl rfl, by decide, by decide, by decide +kernel⟩, Or.inl (am_in3 154 rfl rfl), am_in3 156 rfl rfl, am_qCt, rfl, am_inS (List.mem_of_getElem? (i := 17) rfl) rfl⟩
theorem v_Ct_111 : am_CV "FlowFabric$Controller" 111 y_Ct_orderOuts "(IILFlowFabric$Datagram;)V" 3 4 := ⟨⟨am_in3 165 rfl rfl, am_in1 8 rfl rfl, by decide, by decide, by decide +kernel⟩, Or.inl (am_in3 162 rfl rfl), am_in3 164 rfl rfl, am_qCt, rfl, am_inS (List.mem_of_getElem? (i := 18) rfl) rfl⟩
theorem v_Ct_114 : am_CV "FlowFabric$Controller" 114 y_Ct_makeCourse "(LFlowFabric$Datagram;)V" 1 4 := ⟨⟨am_in3 170 rfl rfl, am_in1 8 rfl rfl, by decide, by decide, by decide +kernel⟩, Or.inl (am_in3 167 rfl rfl), am_in3 169 rfl rfl, am_qCt, rfl, am_inS (List.mem_of_getElem? (i := 19) rfl) rfl⟩
theorem v_Ct_123 : am_CV "FlowFabric$Controller" 123 y_AL_size "()I" 0 12 := ⟨⟨am_in2 23 rfl rfl, am_in1 7 rfl rfl, by decide, by decide, by decide +kernel⟩, Or.inl (am_in3 151 rfl rfl), am_in2 21 rfl rfl, am_qAL, rfl, am_in2 22 rfl rfl⟩
theorem v_Ct_148 : am_CV "FlowFabric$Controller" 148 y_AL_get "(I)Ljava/lang/Object;" 1 12 := ⟨⟨am_in2 228 rfl rfl, am_in1 7 rfl rfl, by decide, by decide, by decide +kernel⟩, Or.inl (am_in3 152 rfl rfl), am_in2 226 rfl rfl, am_qAL, rfl, am_in2 227 rfl rfl⟩
theorem k_Ct_99 : Cond.classLink "FlowFabric$Controller" 99 "FlowFabric$Course" ∈ am_wz := am_in3 153 rfl rfl
theorem f_Ct_179 : am_F "FlowFabric$Controller" 179 5 0 := ⟨am_qCo, "FlowFabric$Course", rfl, by decide, Or.inl (am_in3 192 rfl rfl), Or.inl rfl⟩
theorem f_Ct_180 : am_F "FlowFabric$Controller" 180 5 1 := ⟨am_qCo, "FlowFabric$Course", rfl, by decide, Or.inl (am_in3 194 rfl rfl), Or.inl rfl⟩
theorem p_Ct_104 (nm : String) : am_P "FlowFabric$Controller" nm 5 2 .int := ⟨am_qCo, rfl, by decide +kernel, Or.inl rfl⟩
theorem f_Ct_160 : am_F "FlowFabric$Controller" 160 5 5 := ⟨am_qCo, "FlowFabric$Course", rfl, by decide, Or.inl (am_in3 205 rfl rfl), Or.inl rfl⟩
theorem p_Ct_160 (nm : String) : am_P "FlowFabric$Controller" nm 5 5 .int := ⟨am_qCo, rfl, by decide +kernel, Or.inl rfl⟩
theorem f_Ct_184 : am_F "FlowFabric$Controller" 184 5 3 := ⟨am_qCo, "FlowFabric$Course", rfl, by decide, Or.inl (am_in3 199 rfl rfl), Or.inl rfl⟩
theorem f_Ct_173 : am_F "FlowFabric$Controller" 173 5 6 := ⟨am_qCo, "FlowFabric$Course", rfl, by decide, Or.inl (am_in3 207 rfl rfl), Or.inl rfl⟩
theorem p_Ct_173 (nm : String) : am_P "FlowFabric$Controller" nm 5 6 .int := ⟨am_qCo, rfl, by decide +kernel, Or.inl rfl⟩
theorem s_Ct_197 : am_CS "FlowFabric$Controller" 197 y_Ms_ofPair "(IIII)LFlowFabric$Message;" 4 := ⟨⟨am_in3 83 rfl rfl, am_in1 12 rfl rfl, by decide, by decide, by decide +kernel⟩, Or.inl (am_in3 158 rfl rfl), am_in3 82 rfl rfl⟩
theorem s_Ct_201 : am_CS "FlowFabric$Controller" 201 y_Ms_ofValue "(II)LFlowFabric$Message;" 2 := ⟨⟨am_in2 34 rfl rfl, am_in1 12 rfl rfl, by decide, by decide, by decide +kernel⟩, Or.inl (am_in3 159 rfl rfl), am_in2 33 rfl rfl⟩
theorem s_Ct_187 : am_CS "FlowFabric$Controller" 187 y_FF_switchOf "(I)I" 1 := ⟨⟨am_in2 15 rfl rfl, am_in1 1 rfl rfl, by decide, by decide, by decide +kernel⟩, Or.inr ⟨"FlowFabric", by decide⟩, am_in2 14 rfl rfl⟩
theorem f_Ct_118 : am_F "FlowFabric$Controller" 118 1 5 := ⟨am_qNd, "FlowFabric$Node", rfl, by decide, Or.inl (am_in1 110 rfl rfl), Or.inl rfl⟩
theorem v_Ct_131 : am_CV "FlowFabric$Controller" 131 y_AL_add "(Ljava/lang/Object;)Z" 1 12 := ⟨⟨am_in2 69 rfl rfl, am_in1 7 rfl rfl, by decide, by decide, by decide +kernel⟩, Or.inl (am_in3 161 rfl rfl), am_in2 67 rfl rfl, am_qAL, rfl, am_in2 68 rfl rfl⟩
theorem s_Ct_127 : am_CS "FlowFabric$Controller" 127 y_Ms_ofDatagram "(IILFlowFabric$Datagram;)LFlowFabric$Message;" 3 := ⟨⟨am_in3 41 rfl rfl, am_in1 12 rfl rfl, by decide, by decide, by decide +kernel⟩, Or.inl (am_in3 166 rfl rfl), am_in3 40 rfl rfl⟩
theorem v_Ct_135 : am_CV "FlowFabric$Controller" 135 y_Ct_findWay "(II)[I" 2 4 := ⟨⟨am_in3 174 rfl rfl, am_in1 8 rfl rfl, by decide, by decide, by decide +kernel⟩, Or.inl (am_in3 171 rfl rfl), am_in3 173 rfl rfl, am_qCt, rfl, am_inS (List.mem_of_getElem? (i := 20) rfl) rfl⟩
theorem n_Ct_99 : am_NW "FlowFabric$Controller" 99 5 := ⟨am_qCo, rfl, am_in3 153 rfl rfl, am_in3 185 rfl rfl, am_in1 21 rfl rfl⟩
theorem i_Ct_139 : am_CI "FlowFabric$Controller" 139 y_Co_new "(IILFlowFabric$Datagram;)V" 3 := ⟨⟨am_in3 188 rfl rfl, am_in1 21 rfl rfl, by decide, by decide, by decide +kernel⟩, rfl, rfl, Or.inl (am_in3 186 rfl rfl), am_in3 187 rfl rfl⟩
theorem v_Ct_141 : am_CV "FlowFabric$Controller" 141 y_Co_beginLaying "([I)V" 1 5 := ⟨⟨am_in3 230 rfl rfl, am_in1 21 rfl rfl, by decide, by decide, by decide +kernel⟩, Or.inl (am_in3 227 rfl rfl), am_in3 228 rfl rfl, am_qCo, rfl, am_in3 229 rfl rfl⟩
theorem v_Ct_145 : am_CV "FlowFabric$Controller" 145 y_Ct_leadAhead "(LFlowFabric$Course;)V" 1 4 := ⟨⟨am_in3 234 rfl rfl, am_in1 8 rfl rfl, by decide, by decide, by decide +kernel⟩, Or.inl (am_in3 231 rfl rfl), am_in3 233 rfl rfl, am_qCt, rfl, am_inS (List.mem_of_getElem? (i := 23) rfl) rfl⟩
theorem v_Ct_208 : am_CV "FlowFabric$Controller" 208 y_Ct_countSteps "(I)V" 1 4 := ⟨⟨am_in3 180 rfl rfl, am_in1 8 rfl rfl, by decide, by decide, by decide +kernel⟩, Or.inl (am_in3 177 rfl rfl), am_in3 179 rfl rfl, am_qCt, rfl, am_inS (List.mem_of_getElem? (i := 21) rfl) rfl⟩
theorem v_Ct_211 : am_CV "FlowFabric$Controller" 211 y_Ct_nextEnd "(I)I" 1 4 := ⟨⟨am_in3 184 rfl rfl, am_in1 8 rfl rfl, by decide, by decide, by decide +kernel⟩, Or.inl (am_in3 181 rfl rfl), am_in3 183 rfl rfl, am_qCt, rfl, am_inS (List.mem_of_getElem? (i := 22) rfl) rfl⟩
theorem f_Co_9 : am_F "FlowFabric$Course" 9 5 0 := ⟨am_qCo, "FlowFabric$Course", rfl, by decide, Or.inl (am_in3 191 rfl rfl), Or.inl rfl⟩
theorem p_Co_9 : am_P "FlowFabric$Course" "<init>" 5 0 .int := ⟨am_qCo, rfl, by decide +kernel, Or.inr ⟨rfl, rfl, rfl⟩⟩
theorem f_Co_15 : am_F "FlowFabric$Course" 15 5 1 := ⟨am_qCo, "FlowFabric$Course", rfl, by decide, Or.inl (am_in3 193 rfl rfl), Or.inl rfl⟩
theorem p_Co_15 : am_P "FlowFabric$Course" "<init>" 5 1 .int := ⟨am_qCo, rfl, by decide +kernel, Or.inr ⟨rfl, rfl, rfl⟩⟩
theorem f_Co_18 : am_F "FlowFabric$Course" 18 5 2 := ⟨am_qCo, "FlowFabric$Course", rfl, by decide, Or.inl (am_in3 195 rfl rfl), Or.inl rfl⟩
theorem p_Co_18 (nm : String) : am_P "FlowFabric$Course" nm 5 2 .int := ⟨am_qCo, rfl, by decide +kernel, Or.inl rfl⟩
theorem f_Co_25 : am_F "FlowFabric$Course" 25 5 3 := ⟨am_qCo, "FlowFabric$Course", rfl, by decide, Or.inl (am_in3 198 rfl rfl), Or.inl rfl⟩
theorem p_Co_25 (nm : String) : am_P "FlowFabric$Course" nm 5 3 (.array .int) := ⟨am_qCo, rfl, by decide +kernel, Or.inl rfl⟩
theorem f_Co_28 : am_F "FlowFabric$Course" 28 5 4 := ⟨am_qCo, "FlowFabric$Course", rfl, by decide, Or.inl (am_in3 201 rfl rfl), Or.inl rfl⟩
theorem p_Co_28 (nm : String) : am_P "FlowFabric$Course" nm 5 4 (.object "FlowFabric$Datagram") := ⟨am_qCo, rfl, by decide +kernel, Or.inl rfl⟩
theorem f_Co_32 : am_F "FlowFabric$Course" 32 5 5 := ⟨am_qCo, "FlowFabric$Course", rfl, by decide, Or.inl (am_in3 204 rfl rfl), Or.inl rfl⟩
theorem p_Co_32 (nm : String) : am_P "FlowFabric$Course" nm 5 5 .int := ⟨am_qCo, rfl, by decide +kernel, Or.inl rfl⟩
theorem f_Co_35 : am_F "FlowFabric$Course" 35 5 6 := ⟨am_qCo, "FlowFabric$Course", rfl, by decide, Or.inl (am_in3 206 rfl rfl), Or.inl rfl⟩
theorem p_Co_35 (nm : String) : am_P "FlowFabric$Course" nm 5 6 .int := ⟨am_qCo, rfl, by decide +kernel, Or.inl rfl⟩
theorem f_Co_38 : am_F "FlowFabric$Course" 38 5 7 := ⟨am_qCo, "FlowFabric$Course", rfl, by decide, Or.inl (am_in3 208 rfl rfl), Or.inl rfl⟩
theorem p_Co_38 (nm : String) : am_P "FlowFabric$Course" nm 5 7 .int := ⟨am_qCo, rfl, by decide +kernel, Or.inl rfl⟩
theorem f_Ct_167 : am_F "FlowFabric$Controller" 167 5 7 := ⟨am_qCo, "FlowFabric$Course", rfl, by decide, Or.inl (am_in3 209 rfl rfl), Or.inl rfl⟩
theorem p_Ct_167 (nm : String) : am_P "FlowFabric$Controller" nm 5 7 .int := ⟨am_qCo, rfl, by decide +kernel, Or.inl rfl⟩
theorem s_Ct_205 : am_CS "FlowFabric$Controller" 205 y_FF_portOf "(I)I" 1 := ⟨⟨am_in2 124 rfl rfl, am_in1 1 rfl rfl, by decide, by decide, by decide +kernel⟩, Or.inr ⟨"FlowFabric", by decide⟩, am_in2 123 rfl rfl⟩
theorem v_Ct_152 : am_CV "FlowFabric$Controller" 152 y_Co_endsWith "(I)Z" 1 5 := ⟨⟨am_in4 3 rfl rfl, am_in1 21 rfl rfl, by decide, by decide, by decide +kernel⟩, Or.inl (am_in4 0 rfl rfl), am_in4 1 rfl rfl, am_qCo, rfl, am_in4 2 rfl rfl⟩
theorem v_Ct_156 : am_CV "FlowFabric$Controller" 156 y_Co_isLayingOrLaid "()Z" 0 5 := ⟨⟨am_in4 7 rfl rfl, am_in1 21 rfl rfl, by decide, by decide, by decide +kernel⟩, Or.inl (am_in4 4 rfl rfl), am_in4 5 rfl rfl, am_qCo, rfl, am_in4 6 rfl rfl⟩
theorem v_Ct_163 : am_CV "FlowFabric$Controller" 163 y_Ct_countDone "(LFlowFabric$Course;I)V" 2 4 := ⟨⟨am_in4 15 rfl rfl, am_in1 8 rfl rfl, by decide, by decide, by decide +kernel⟩, Or.inl (am_in4 12 rfl rfl), am_in4 14 rfl rfl, am_qCt, rfl, am_inS (List.mem_of_getElem? (i := 26) rfl) rfl⟩
theorem v_Ct_170 : am_CV "FlowFabric$Controller" 170 y_Ct_finishLaying "(LFlowFabric$Course;)V" 1 4 := ⟨⟨am_in4 20 rfl rfl, am_in1 8 rfl rfl, by decide, by decide, by decide +kernel⟩, Or.inl (am_in4 17 rfl rfl), am_in4 19 rfl rfl, am_qCt, rfl, am_inS (List.mem_of_getElem? (i := 27) rfl) rfl⟩
theorem v_Ct_181 : am_CV "FlowFabric$Controller" 181 y_AL_remove "(I)Ljava/lang/Object;" 1 12 := ⟨⟨am_in2 168 rfl rfl, am_in1 7 rfl rfl, by decide, by decide, by decide +kernel⟩, Or.inl (am_in4 16 rfl rfl), am_in2 166 rfl rfl, am_qAL, rfl, am_in2 167 rfl rfl⟩
theorem v_Ct_191 : am_CV "FlowFabric$Controller" 191 y_Co_passes "(I)Z" 1 5 := ⟨⟨am_in4 32 rfl rfl, am_in1 21 rfl rfl, by decide, by decide, by decide +kernel⟩, Or.inl (am_in4 29 rfl rfl), am_in4 30 rfl rfl, am_qCo, rfl, am_in4 31 rfl rfl⟩
theorem s_Co_41 : am_CS "FlowFabric$Course" 41 y_FF_switchOf "(I)I" 1 := ⟨⟨am_in2 15 rfl rfl, am_in1 1 rfl rfl, by decide, by decide, by decide +kernel⟩, Or.inr ⟨"FlowFabric", by decide⟩, am_in2 14 rfl rfl⟩
theorem v_Ct_194 : am_CV "FlowFabric$Controller" 194 y_Co_leadsOutOf "(I)Z" 1 5 := ⟨⟨am_in4 41 rfl rfl, am_in1 21 rfl rfl, by decide, by decide, by decide +kernel⟩, Or.inl (am_in4 38 rfl rfl), am_in4 39 rfl rfl, am_qCo, rfl, am_in4 40 rfl rfl⟩
theorem s_FF_184 : am_CS "FlowFabric" 184 y_Ms_ofValue "(II)LFlowFabric$Message;" 2 := ⟨⟨am_in2 34 rfl rfl, am_in1 12 rfl rfl, by decide, by decide, by decide +kernel⟩, Or.inl (am_in4 46 rfl rfl), am_in2 33 rfl rfl⟩
theorem v_FF_188 : am_CV "FlowFabric" 188 y_Nd_dropOldRules "(II)I" 2 1 := ⟨⟨am_in4 54 rfl rfl, am_in1 3 rfl rfl, by decide, by decide, by decide +kernel⟩, Or.inl (am_in4 51 rfl rfl), am_in4 52 rfl rfl, am_qNd, rfl, am_in4 53 rfl rfl⟩
theorem v_Nd_193 : am_CV "FlowFabric$Node" 193 y_Rl_isOld "(II)Z" 2 10 := ⟨⟨am_in4 58 rfl rfl, am_in1 20 rfl rfl, by decide, by decide, by decide +kernel⟩, Or.inl (am_in4 55 rfl rfl), am_in4 56 rfl rfl, am_qRl, rfl, am_in4 57 rfl rfl⟩
theorem v_FF_191 : am_CV "FlowFabric" 191 y_Nd_ruleIndex "(II)I" 2 1 := ⟨⟨am_in3 37 rfl rfl, am_in1 3 rfl rfl, by decide, by decide, by decide +kernel⟩, Or.inl (am_in4 67 rfl rfl), am_in3 35 rfl rfl, am_qNd, rfl, am_in3 36 rfl rfl⟩
theorem f_FF_194 : am_F "FlowFabric" 194 1 4 := ⟨am_qNd, "FlowFabric$Node", rfl, by decide, Or.inl (am_in1 108 rfl rfl), Or.inl rfl⟩
theorem v_FF_197 : am_CV "FlowFabric" 197 y_AL_get "(I)Ljava/lang/Object;" 1 12 := ⟨⟨am_in2 228 rfl rfl, am_in1 7 rfl rfl, by decide, by decide, by decide +kernel⟩, Or.inl (am_in4 68 rfl rfl), am_in2 226 rfl rfl, am_qAL, rfl, am_in2 227 rfl rfl⟩
theorem k_FF_200 : Cond.classLink "FlowFabric" 200 "FlowFabric$Rule" ∈ am_wz := am_in4 69 rfl rfl
theorem f_FF_202 : am_F "FlowFabric" 202 10 2 := ⟨am_qRl, "FlowFabric$Rule", rfl, by decide, Or.inl (am_in3 95 rfl rfl), Or.inl rfl⟩
theorem f_FF_203 : am_F "FlowFabric" 203 10 5 := ⟨am_qRl, "FlowFabric$Rule", rfl, by decide, Or.inl (am_in3 101 rfl rfl), Or.inl rfl⟩
theorem f_FF_206 : am_F "FlowFabric" 206 3 3 := ⟨am_qHo, "FlowFabric$Host", rfl, by decide, Or.inl (am_in1 216 rfl rfl), Or.inl rfl⟩
theorem f_FF_209 : am_F "FlowFabric" 209 3 4 := ⟨am_qHo, "FlowFabric$Host", rfl, by decide, Or.inl (am_in1 218 rfl rfl), Or.inl rfl⟩
theorem f_FF_212 : am_F "FlowFabric" 212 3 5 := ⟨am_qHo, "FlowFabric$Host", rfl, by decide, Or.inl (am_in1 220 rfl rfl), Or.inl rfl⟩
theorem f_FF_215 : am_F "FlowFabric" 215 4 1 := ⟨am_qCt, "FlowFabric$Controller", rfl, by decide, Or.inl (am_in1 144 rfl rfl), Or.inl rfl⟩
theorem f_FF_219 : am_F "FlowFabric" 219 4 3 := ⟨am_qCt, "FlowFabric$Controller", rfl, by decide, Or.inl (am_in1 147 rfl rfl), Or.inl rfl⟩
theorem v_FF_222 : am_CV "FlowFabric" 222 y_Ct_courseOf "(II)LFlowFabric$Course;" 2 4 := ⟨⟨am_in3 150 rfl rfl, am_in1 8 rfl rfl, by decide, by decide, by decide +kernel⟩, Or.inl (am_in4 90 rfl rfl), am_in3 148 rfl rfl, am_qCt, rfl, am_in3 149 rfl rfl⟩
theorem f_FF_226 : am_F "FlowFabric" 226 5 3 := ⟨am_qCo, "FlowFabric$Course", rfl, by decide, Or.inl (am_in3 200 rfl rfl), Or.inl rfl⟩
theorem f_FF_231 : am_F "FlowFabric" 231 5 2 := ⟨am_qCo, "FlowFabric$Course", rfl, by decide, Or.inl (am_in3 197 rfl rfl), Or.inl rfl⟩
theorem f_FF_234 : am_F "FlowFabric" 234 5 4 := ⟨am_qCo, "FlowFabric$Course", rfl, by decide, Or.inl (am_in3 203 rfl rfl), Or.inl rfl⟩
theorem f_FF_238 : am_F "FlowFabric" 238 6 2 := ⟨am_qDg, "FlowFabric$Datagram", rfl, by decide, Or.inl (am_in2 209 rfl rfl), Or.inl rfl⟩
theorem f_M_7 : am_F "FlowFabricModel" 7 11 4 := ⟨am_qM, "FlowFabricModel", rfl, by decide, Or.inl (am_in4 107 rfl rfl), Or.inl rfl⟩
theorem p_M_7 : am_P "FlowFabricModel" "<init>" 11 4 (.array .int) := ⟨am_qM, rfl, by decide +kernel, Or.inr ⟨rfl, rfl, rfl⟩⟩
theorem f_M_13 : am_F "FlowFabricModel" 13 11 5 := ⟨am_qM, "FlowFabricModel", rfl, by decide, Or.inl (am_in4 108 rfl rfl), Or.inl rfl⟩
theorem p_M_13 : am_P "FlowFabricModel" "<init>" 11 5 (.array .int) := ⟨am_qM, rfl, by decide +kernel, Or.inr ⟨rfl, rfl, rfl⟩⟩
theorem f_M_16 : am_F "FlowFabricModel" 16 11 6 := ⟨am_qM, "FlowFabricModel", rfl, by decide, Or.inl (am_in4 109 rfl rfl), Or.inl rfl⟩
theorem p_M_16 : am_P "FlowFabricModel" "<init>" 11 6 (.array .boolean) := ⟨am_qM, rfl, by decide +kernel, Or.inr ⟨rfl, rfl, rfl⟩⟩
theorem f_M_20 : am_F "FlowFabricModel" 20 11 8 := ⟨am_qM, "FlowFabricModel", rfl, by decide, Or.inl (am_in4 111 rfl rfl), Or.inl rfl⟩
theorem p_M_20 : am_P "FlowFabricModel" "<init>" 11 8 (.array .int) := ⟨am_qM, rfl, by decide +kernel, Or.inr ⟨rfl, rfl, rfl⟩⟩
theorem f_M_23 : am_F "FlowFabricModel" 23 11 9 := ⟨am_qM, "FlowFabricModel", rfl, by decide, Or.inl (am_in4 112 rfl rfl), Or.inl rfl⟩
theorem p_M_23 : am_P "FlowFabricModel" "<init>" 11 9 (.array .int) := ⟨am_qM, rfl, by decide +kernel, Or.inr ⟨rfl, rfl, rfl⟩⟩
theorem f_M_26 : am_F "FlowFabricModel" 26 11 10 := ⟨am_qM, "FlowFabricModel", rfl, by decide, Or.inl (am_in4 113 rfl rfl), Or.inl rfl⟩
theorem p_M_26 : am_P "FlowFabricModel" "<init>" 11 10 (.array .int) := ⟨am_qM, rfl, by decide +kernel, Or.inr ⟨rfl, rfl, rfl⟩⟩
theorem f_M_29 : am_F "FlowFabricModel" 29 11 11 := ⟨am_qM, "FlowFabricModel", rfl, by decide, Or.inl (am_in4 114 rfl rfl), Or.inl rfl⟩
theorem p_M_29 : am_P "FlowFabricModel" "<init>" 11 11 (.array .int) := ⟨am_qM, rfl, by decide +kernel, Or.inr ⟨rfl, rfl, rfl⟩⟩
theorem f_M_32 : am_F "FlowFabricModel" 32 11 12 := ⟨am_qM, "FlowFabricModel", rfl, by decide, Or.inl (am_in4 115 rfl rfl), Or.inl rfl⟩
theorem p_M_32 : am_P "FlowFabricModel" "<init>" 11 12 (.array .int) := ⟨am_qM, rfl, by decide +kernel, Or.inr ⟨rfl, rfl, rfl⟩⟩
theorem f_M_35 : am_F "FlowFabricModel" 35 11 13 := ⟨am_qM, "FlowFabricModel", rfl, by decide, Or.inl (am_in4 116 rfl rfl), Or.inl rfl⟩
theorem p_M_35 : am_P "FlowFabricModel" "<init>" 11 13 (.array .int) := ⟨am_qM, rfl, by decide +kernel, Or.inr ⟨rfl, rfl, rfl⟩⟩
theorem f_M_38 : am_F "FlowFabricModel" 38 11 14 := ⟨am_qM, "FlowFabricModel", rfl, by decide, Or.inl (am_in4 117 rfl rfl), Or.inl rfl⟩
theorem p_M_38 : am_P "FlowFabricModel" "<init>" 11 14 (.array .int) := ⟨am_qM, rfl, by decide +kernel, Or.inr ⟨rfl, rfl, rfl⟩⟩
theorem f_M_41 : am_F "FlowFabricModel" 41 11 15 := ⟨am_qM, "FlowFabricModel", rfl, by decide, Or.inl (am_in4 118 rfl rfl), Or.inl rfl⟩
theorem p_M_41 : am_P "FlowFabricModel" "<init>" 11 15 (.array .int) := ⟨am_qM, rfl, by decide +kernel, Or.inr ⟨rfl, rfl, rfl⟩⟩
theorem f_M_44 : am_F "FlowFabricModel" 44 11 16 := ⟨am_qM, "FlowFabricModel", rfl, by decide, Or.inl (am_in4 119 rfl rfl), Or.inl rfl⟩
theorem p_M_44 : am_P "FlowFabricModel" "<init>" 11 16 (.array .int) := ⟨am_qM, rfl, by decide +kernel, Or.inr ⟨rfl, rfl, rfl⟩⟩
theorem f_M_47 : am_F "FlowFabricModel" 47 11 17 := ⟨am_qM, "FlowFabricModel", rfl, by decide, Or.inl (am_in4 120 rfl rfl), Or.inl rfl⟩
theorem p_M_47 : am_P "FlowFabricModel" "<init>" 11 17 (.array .int) := ⟨am_qM, rfl, by decide +kernel, Or.inr ⟨rfl, rfl, rfl⟩⟩
theorem f_M_50 : am_F "FlowFabricModel" 50 11 18 := ⟨am_qM, "FlowFabricModel", rfl, by decide, Or.inl (am_in4 121 rfl rfl), Or.inl rfl⟩
theorem p_M_50 : am_P "FlowFabricModel" "<init>" 11 18 (.array .int) := ⟨am_qM, rfl, by decide +kernel, Or.inr ⟨rfl, rfl, rfl⟩⟩
theorem f_M_53 : am_F "FlowFabricModel" 53 11 19 := ⟨am_qM, "FlowFabricModel", rfl, by decide, Or.inl (am_in4 122 rfl rfl), Or.inl rfl⟩
theorem p_M_53 : am_P "FlowFabricModel" "<init>" 11 19 (.array .int) := ⟨am_qM, rfl, by decide +kernel, Or.inr ⟨rfl, rfl, rfl⟩⟩
theorem f_M_56 : am_F "FlowFabricModel" 56 11 20 := ⟨am_qM, "FlowFabricModel", rfl, by decide, Or.inl (am_in4 123 rfl rfl), Or.inl rfl⟩
theorem p_M_56 : am_P "FlowFabricModel" "<init>" 11 20 (.array .int) := ⟨am_qM, rfl, by decide +kernel, Or.inr ⟨rfl, rfl, rfl⟩⟩
theorem f_M_59 : am_F "FlowFabricModel" 59 11 21 := ⟨am_qM, "FlowFabricModel", rfl, by decide, Or.inl (am_in4 124 rfl rfl), Or.inl rfl⟩
theorem p_M_59 : am_P "FlowFabricModel" "<init>" 11 21 (.array .int) := ⟨am_qM, rfl, by decide +kernel, Or.inr ⟨rfl, rfl, rfl⟩⟩
theorem f_M_62 : am_F "FlowFabricModel" 62 11 22 := ⟨am_qM, "FlowFabricModel", rfl, by decide, Or.inl (am_in4 125 rfl rfl), Or.inl rfl⟩
theorem p_M_62 : am_P "FlowFabricModel" "<init>" 11 22 (.array .int) := ⟨am_qM, rfl, by decide +kernel, Or.inr ⟨rfl, rfl, rfl⟩⟩
theorem f_M_65 : am_F "FlowFabricModel" 65 11 23 := ⟨am_qM, "FlowFabricModel", rfl, by decide, Or.inl (am_in4 126 rfl rfl), Or.inl rfl⟩
theorem p_M_65 : am_P "FlowFabricModel" "<init>" 11 23 (.array .int) := ⟨am_qM, rfl, by decide +kernel, Or.inr ⟨rfl, rfl, rfl⟩⟩
theorem f_M_68 : am_F "FlowFabricModel" 68 11 24 := ⟨am_qM, "FlowFabricModel", rfl, by decide, Or.inl (am_in4 127 rfl rfl), Or.inl rfl⟩
theorem p_M_68 : am_P "FlowFabricModel" "<init>" 11 24 (.array .int) := ⟨am_qM, rfl, by decide +kernel, Or.inr ⟨rfl, rfl, rfl⟩⟩
theorem f_M_71 : am_F "FlowFabricModel" 71 11 25 := ⟨am_qM, "FlowFabricModel", rfl, by decide, Or.inl (am_in4 128 rfl rfl), Or.inl rfl⟩
theorem p_M_71 : am_P "FlowFabricModel" "<init>" 11 25 (.array .int) := ⟨am_qM, rfl, by decide +kernel, Or.inr ⟨rfl, rfl, rfl⟩⟩
theorem f_M_74 : am_F "FlowFabricModel" 74 11 26 := ⟨am_qM, "FlowFabricModel", rfl, by decide, Or.inl (am_in4 129 rfl rfl), Or.inl rfl⟩
theorem p_M_74 : am_P "FlowFabricModel" "<init>" 11 26 (.array .int) := ⟨am_qM, rfl, by decide +kernel, Or.inr ⟨rfl, rfl, rfl⟩⟩
theorem f_M_77 : am_F "FlowFabricModel" 77 11 27 := ⟨am_qM, "FlowFabricModel", rfl, by decide, Or.inl (am_in4 130 rfl rfl), Or.inl rfl⟩
theorem p_M_77 : am_P "FlowFabricModel" "<init>" 11 27 (.array .int) := ⟨am_qM, rfl, by decide +kernel, Or.inr ⟨rfl, rfl, rfl⟩⟩
theorem f_M_80 : am_F "FlowFabricModel" 80 11 28 := ⟨am_qM, "FlowFabricModel", rfl, by decide, Or.inl (am_in4 131 rfl rfl), Or.inl rfl⟩
theorem p_M_80 : am_P "FlowFabricModel" "<init>" 11 28 (.array .int) := ⟨am_qM, rfl, by decide +kernel, Or.inr ⟨rfl, rfl, rfl⟩⟩
theorem f_M_83 : am_F "FlowFabricModel" 83 11 29 := ⟨am_qM, "FlowFabricModel", rfl, by decide, Or.inl (am_in4 132 rfl rfl), Or.inl rfl⟩
theorem p_M_83 : am_P "FlowFabricModel" "<init>" 11 29 (.array .boolean) := ⟨am_qM, rfl, by decide +kernel, Or.inr ⟨rfl, rfl, rfl⟩⟩
theorem f_M_86 : am_F "FlowFabricModel" 86 11 30 := ⟨am_qM, "FlowFabricModel", rfl, by decide, Or.inl (am_in4 133 rfl rfl), Or.inl rfl⟩
theorem p_M_86 : am_P "FlowFabricModel" "<init>" 11 30 (.array .int) := ⟨am_qM, rfl, by decide +kernel, Or.inr ⟨rfl, rfl, rfl⟩⟩
theorem f_M_89 : am_F "FlowFabricModel" 89 11 33 := ⟨am_qM, "FlowFabricModel", rfl, by decide, Or.inl (am_in4 136 rfl rfl), Or.inl rfl⟩
theorem p_M_89 : am_P "FlowFabricModel" "<init>" 11 33 (.array .int) := ⟨am_qM, rfl, by decide +kernel, Or.inr ⟨rfl, rfl, rfl⟩⟩
theorem f_M_92 : am_F "FlowFabricModel" 92 11 34 := ⟨am_qM, "FlowFabricModel", rfl, by decide, Or.inl (am_in4 137 rfl rfl), Or.inl rfl⟩
theorem p_M_92 : am_P "FlowFabricModel" "<init>" 11 34 (.array .int) := ⟨am_qM, rfl, by decide +kernel, Or.inr ⟨rfl, rfl, rfl⟩⟩
theorem f_M_95 : am_F "FlowFabricModel" 95 11 35 := ⟨am_qM, "FlowFabricModel", rfl, by decide, Or.inl (am_in4 138 rfl rfl), Or.inl rfl⟩
theorem p_M_95 : am_P "FlowFabricModel" "<init>" 11 35 (.array .int) := ⟨am_qM, rfl, by decide +kernel, Or.inr ⟨rfl, rfl, rfl⟩⟩
theorem f_M_98 : am_F "FlowFabricModel" 98 11 36 := ⟨am_qM, "FlowFabricModel", rfl, by decide, Or.inl (am_in4 139 rfl rfl), Or.inl rfl⟩
theorem p_M_98 : am_P "FlowFabricModel" "<init>" 11 36 (.array .int) := ⟨am_qM, rfl, by decide +kernel, Or.inr ⟨rfl, rfl, rfl⟩⟩
theorem f_M_101 : am_F "FlowFabricModel" 101 11 37 := ⟨am_qM, "FlowFabricModel", rfl, by decide, Or.inl (am_in4 140 rfl rfl), Or.inl rfl⟩
theorem p_M_101 : am_P "FlowFabricModel" "<init>" 11 37 (.array .int) := ⟨am_qM, rfl, by decide +kernel, Or.inr ⟨rfl, rfl, rfl⟩⟩
theorem f_M_104 : am_F "FlowFabricModel" 104 11 38 := ⟨am_qM, "FlowFabricModel", rfl, by decide, Or.inl (am_in4 141 rfl rfl), Or.inl rfl⟩
theorem p_M_104 : am_P "FlowFabricModel" "<init>" 11 38 (.array .int) := ⟨am_qM, rfl, by decide +kernel, Or.inr ⟨rfl, rfl, rfl⟩⟩
theorem f_M_107 : am_F "FlowFabricModel" 107 11 39 := ⟨am_qM, "FlowFabricModel", rfl, by decide, Or.inl (am_in4 142 rfl rfl), Or.inl rfl⟩
theorem p_M_107 : am_P "FlowFabricModel" "<init>" 11 39 (.array .int) := ⟨am_qM, rfl, by decide +kernel, Or.inr ⟨rfl, rfl, rfl⟩⟩
theorem f_M_110 : am_F "FlowFabricModel" 110 11 40 := ⟨am_qM, "FlowFabricModel", rfl, by decide, Or.inl (am_in4 143 rfl rfl), Or.inl rfl⟩
theorem p_M_110 : am_P "FlowFabricModel" "<init>" 11 40 (.array .boolean) := ⟨am_qM, rfl, by decide +kernel, Or.inr ⟨rfl, rfl, rfl⟩⟩
theorem f_M_113 : am_F "FlowFabricModel" 113 11 41 := ⟨am_qM, "FlowFabricModel", rfl, by decide, Or.inl (am_in4 144 rfl rfl), Or.inl rfl⟩
theorem p_M_113 : am_P "FlowFabricModel" "<init>" 11 41 (.array .int) := ⟨am_qM, rfl, by decide +kernel, Or.inr ⟨rfl, rfl, rfl⟩⟩
theorem f_M_116 : am_F "FlowFabricModel" 116 11 43 := ⟨am_qM, "FlowFabricModel", rfl, by decide, Or.inl (am_in4 146 rfl rfl), Or.inl rfl⟩
theorem p_M_116 : am_P "FlowFabricModel" "<init>" 11 43 (.array .int) := ⟨am_qM, rfl, by decide +kernel, Or.inr ⟨rfl, rfl, rfl⟩⟩
theorem s_M_119 : am_CS "FlowFabricModel" 119 y_M_between "(III)I" 3 := ⟨⟨am_in4 102 rfl rfl, am_in1 10 rfl rfl, by decide, by decide, by decide +kernel⟩, Or.inl (am_in4 100 rfl rfl), am_in4 101 rfl rfl⟩
theorem f_M_123 : am_F "FlowFabricModel" 123 11 0 := ⟨am_qM, "FlowFabricModel", rfl, by decide, Or.inl (am_in4 103 rfl rfl), Or.inl rfl⟩
theorem p_M_123 : am_P "FlowFabricModel" "<init>" 11 0 .int := ⟨am_qM, rfl, by decide +kernel, Or.inr ⟨rfl, rfl, rfl⟩⟩
theorem f_M_127 : am_F "FlowFabricModel" 127 11 1 := ⟨am_qM, "FlowFabricModel", rfl, by decide, Or.inl (am_in4 104 rfl rfl), Or.inl rfl⟩
theorem p_M_127 : am_P "FlowFabricModel" "<init>" 11 1 .int := ⟨am_qM, rfl, by decide +kernel, Or.inr ⟨rfl, rfl, rfl⟩⟩
theorem f_M_130 : am_F "FlowFabricModel" 130 11 2 := ⟨am_qM, "FlowFabricModel", rfl, by decide, Or.inl (am_in4 105 rfl rfl), Or.inl rfl⟩
theorem p_M_130 : am_P "FlowFabricModel" "<init>" 11 2 .int := ⟨am_qM, rfl, by decide +kernel, Or.inr ⟨rfl, rfl, rfl⟩⟩
theorem v_M_140 : am_CV "FlowFabricModel" 140 y_M_isPort "(II)Z" 2 11 := ⟨⟨am_in5 3 rfl rfl, am_in1 10 rfl rfl, by decide, by decide, by decide +kernel⟩, Or.inl (am_in5 0 rfl rfl), am_in5 2 rfl rfl, am_qM, rfl, am_inS (List.mem_of_getElem? (i := 31) rfl) rfl⟩
theorem f_M_137 : am_F "FlowFabricModel" 137 11 7 := ⟨am_qM, "FlowFabricModel", rfl, by decide, Or.inl (am_in4 110 rfl rfl), Or.inl rfl⟩
theorem p_M_137 (nm : String) : am_P "FlowFabricModel" nm 11 7 .int := ⟨am_qM, rfl, by decide +kernel, Or.inl rfl⟩
theorem v_M_133 : am_CV "FlowFabricModel" 133 y_M_isSwitch "(I)Z" 1 11 := ⟨⟨am_in5 7 rfl rfl, am_in1 10 rfl rfl, by decide, by decide, by decide +kernel⟩, Or.inl (am_in5 4 rfl rfl), am_in5 6 rfl rfl, am_qM, rfl, am_inS (List.mem_of_getElem? (i := 32) rfl) rfl⟩
theorem v_M_144 : am_CV "FlowFabricModel" 144 y_M_join "(II)V" 2 11 := ⟨⟨am_in5 15 rfl rfl, am_in1 10 rfl rfl, by decide, by decide, by decide +kernel⟩, Or.inl (am_in5 12 rfl rfl), am_in5 14 rfl rfl, am_qM, rfl, am_inS (List.mem_of_getElem? (i := 33) rfl) rfl⟩
theorem v_M_148 : am_CV "FlowFabricModel" 148 y_M_tell "(IIIIII)V" 6 11 := ⟨⟨am_in5 23 rfl rfl, am_in1 10 rfl rfl, by decide, by decide, by decide +kernel⟩, Or.inl (am_in5 20 rfl rfl), am_in5 22 rfl rfl, am_qM, rfl, am_inS (List.mem_of_getElem? (i := 34) rfl) rfl⟩
theorem v_M_155 : am_CV "FlowFabricModel" 155 y_M_add "(IIIIII)V" 6 11 := ⟨⟨am_in5 27 rfl rfl, am_in1 10 rfl rfl, by decide, by decide, by decide +kernel⟩, Or.inl (am_in5 24 rfl rfl), am_in5 26 rfl rfl, am_qM, rfl, am_inS (List.mem_of_getElem? (i := 35) rfl) rfl⟩
theorem v_M_152 : am_CV "FlowFabricModel" 152 y_M_isGuard "(II)Z" 2 11 := ⟨⟨am_in5 39 rfl rfl, am_in1 10 rfl rfl, by decide, by decide, by decide +kernel⟩, Or.inl (am_in5 36 rfl rfl), am_in5 38 rfl rfl, am_qM, rfl, am_inS (List.mem_of_getElem? (i := 36) rfl) rfl⟩
theorem v_M_177 : am_CV "FlowFabricModel" 177 y_M_isHost "(I)Z" 1 11 := ⟨⟨am_in5 51 rfl rfl, am_in1 10 rfl rfl, by decide, by decide, by decide +kernel⟩, Or.inl (am_in5 48 rfl rfl), am_in5 50 rfl rfl, am_qM, rfl, am_inS (List.mem_of_getElem? (i := 37) rfl) rfl⟩
theorem v_M_180 : am_CV "FlowFabricModel" 180 y_M_comesIn "(IIIII)V" 5 11 := ⟨⟨am_in5 55 rfl rfl, am_in1 10 rfl rfl, by decide, by decide, by decide +kernel⟩, Or.inl (am_in5 52 rfl rfl), am_in5 54 rfl rfl, am_qM, rfl, am_inS (List.mem_of_getElem? (i := 38) rfl) rfl⟩
theorem s_M_158 : am_CS "FlowFabricModel" 158 y_M_matches "(IIII)Z" 4 := ⟨⟨am_in5 58 rfl rfl, am_in1 10 rfl rfl, by decide, by decide, by decide +kernel⟩, Or.inl (am_in5 56 rfl rfl), am_in5 57 rfl rfl⟩
theorem v_M_162 : am_CV "FlowFabricModel" 162 y_M_out "(IIII)V" 4 11 := ⟨⟨am_in5 62 rfl rfl, am_in1 10 rfl rfl, by decide, by decide, by decide +kernel⟩, Or.inl (am_in5 59 rfl rfl), am_in5 61 rfl rfl, am_qM, rfl, am_inS (List.mem_of_getElem? (i := 39) rfl) rfl⟩
theorem v_M_166 : am_CV "FlowFabricModel" 166 y_M_toRules "(IIIII)V" 5 11 := ⟨⟨am_in5 66 rfl rfl, am_in1 10 rfl rfl, by decide, by decide, by decide +kernel⟩, Or.inl (am_in5 63 rfl rfl), am_in5 65 rfl rfl, am_qM, rfl, am_inS (List.mem_of_getElem? (i := 40) rfl) rfl⟩
theorem v_M_170 : am_CV "FlowFabricModel" 170 y_M_ruleAt "(II)I" 2 11 := ⟨⟨am_in5 70 rfl rfl, am_in1 10 rfl rfl, by decide, by decide, by decide +kernel⟩, Or.inl (am_in5 67 rfl rfl), am_in5 69 rfl rfl, am_qM, rfl, am_inS (List.mem_of_getElem? (i := 41) rfl) rfl⟩
theorem f_M_174 : am_F "FlowFabricModel" 174 11 3 := ⟨am_qM, "FlowFabricModel", rfl, by decide, Or.inl (am_in4 106 rfl rfl), Or.inl rfl⟩
theorem v_M_186 : am_CV "FlowFabricModel" 186 y_M_take "(I)V" 1 11 := ⟨⟨am_in5 82 rfl rfl, am_in1 10 rfl rfl, by decide, by decide, by decide +kernel⟩, Or.inl (am_in5 79 rfl rfl), am_in5 81 rfl rfl, am_qM, rfl, am_inS (List.mem_of_getElem? (i := 42) rfl) rfl⟩
theorem v_M_190 : am_CV "FlowFabricModel" 190 y_M_put "(III)V" 3 11 := ⟨⟨am_in5 86 rfl rfl, am_in1 10 rfl rfl, by decide, by decide, by decide +kernel⟩, Or.inl (am_in5 83 rfl rfl), am_in5 85 rfl rfl, am_qM, rfl, am_inS (List.mem_of_getElem? (i := 43) rfl) rfl⟩
theorem v_M_183 : am_CV "FlowFabricModel" 183 y_M_removeRule "(II)V" 2 11 := ⟨⟨am_in5 90 rfl rfl, am_in1 10 rfl rfl, by decide, by decide, by decide +kernel⟩, Or.inl (am_in5 87 rfl rfl), am_in5 89 rfl rfl, am_qM, rfl, am_inS (List.mem_of_getElem? (i := 44) rfl) rfl⟩
theorem v_M_194 : am_CV "FlowFabricModel" 194 y_M_order "(IIIIII)V" 6 11 := ⟨⟨am_in5 98 rfl rfl, am_in1 10 rfl rfl, by decide, by decide, by decide +kernel⟩, Or.inl (am_in5 95 rfl rfl), am_in5 97 rfl rfl, am_qM, rfl, am_inS (List.mem_of_getElem? (i := 45) rfl) rfl⟩
theorem p_M_174 (nm : String) : am_P "FlowFabricModel" nm 11 3 .int := ⟨am_qM, rfl, by decide +kernel, Or.inl rfl⟩
theorem v_M_215 : am_CV "FlowFabricModel" 215 y_M_missed "(IIIII)V" 5 11 := ⟨⟨am_in5 110 rfl rfl, am_in1 10 rfl rfl, by decide, by decide, by decide +kernel⟩, Or.inl (am_in5 107 rfl rfl), am_in5 109 rfl rfl, am_qM, rfl, am_inS (List.mem_of_getElem? (i := 46) rfl) rfl⟩
theorem v_M_218 : am_CV "FlowFabricModel" 218 y_M_seen "(II)V" 2 11 := ⟨⟨am_in5 150 rfl rfl, am_in1 10 rfl rfl, by decide, by decide, by decide +kernel⟩, Or.inl (am_in5 147 rfl rfl), am_in5 149 rfl rfl, am_qM, rfl, am_inS (List.mem_of_getElem? (i := 56) rfl) rfl⟩
theorem v_M_221 : am_CV "FlowFabricModel" 221 y_M_done "(I)V" 1 11 := ⟨⟨am_in5 158 rfl rfl, am_in1 10 rfl rfl, by decide, by decide, by decide +kernel⟩, Or.inl (am_in5 155 rfl rfl), am_in5 157 rfl rfl, am_qM, rfl, am_inS (List.mem_of_getElem? (i := 58) rfl) rfl⟩
theorem v_M_224 : am_CV "FlowFabricModel" 224 y_M_down "(I)V" 1 11 := ⟨⟨am_in5 174 rfl rfl, am_in1 10 rfl rfl, by decide, by decide, by decide +kernel⟩, Or.inl (am_in5 171 rfl rfl), am_in5 173 rfl rfl, am_qM, rfl, am_inS (List.mem_of_getElem? (i := 62) rfl) rfl⟩
theorem v_M_227 : am_CV "FlowFabricModel" 227 y_M_courseOf "(I)I" 1 11 := ⟨⟨am_in5 114 rfl rfl, am_in1 10 rfl rfl, by decide, by decide, by decide +kernel⟩, Or.inl (am_in5 111 rfl rfl), am_in5 113 rfl rfl, am_qM, rfl, am_inS (List.mem_of_getElem? (i := 47) rfl) rfl⟩
theorem v_M_231 : am_CV "FlowFabricModel" 231 y_M_clear "(I)V" 1 11 := ⟨⟨am_in5 122 rfl rfl, am_in1 10 rfl rfl, by decide, by decide, by decide +kernel⟩, Or.inl (am_in5 119 rfl rfl), am_in5 121 rfl rfl, am_qM, rfl, am_inS (List.mem_of_getElem? (i := 49) rfl) rfl⟩
theorem v_M_234 : am_CV "FlowFabricModel" 234 y_M_passes "(II)Z" 2 11 := ⟨⟨am_in5 178 rfl rfl, am_in1 10 rfl rfl, by decide, by decide, by decide +kernel⟩, Or.inl (am_in5 175 rfl rfl), am_in5 177 rfl rfl, am_qM, rfl, am_inS (List.mem_of_getElem? (i := 63) rfl) rfl⟩
theorem v_M_237 : am_CV "FlowFabricModel" 237 y_M_keep "(II)V" 2 11 := ⟨⟨am_in5 118 rfl rfl, am_in1 10 rfl rfl, by decide, by decide, by decide +kernel⟩, Or.inl (am_in5 115 rfl rfl), am_in5 117 rfl rfl, am_qM, rfl, am_inS (List.mem_of_getElem? (i := 48) rfl) rfl⟩
theorem v_M_240 : am_CV "FlowFabricModel" 240 y_M_flood "(IIIII)V" 5 11 := ⟨⟨am_in5 126 rfl rfl, am_in1 10 rfl rfl, by decide, by decide, by decide +kernel⟩, Or.inl (am_in5 123 rfl rfl), am_in5 125 rfl rfl, am_qM, rfl, am_inS (List.mem_of_getElem? (i := 50) rfl) rfl⟩
theorem f_M_206 : am_F "FlowFabricModel" 206 11 32 := ⟨am_qM, "FlowFabricModel", rfl, by decide, Or.inl (am_in4 135 rfl rfl), Or.inl rfl⟩
theorem v_M_243 : am_CV "FlowFabricModel" 243 y_M_search "(I)Z" 1 11 := ⟨⟨am_in5 130 rfl rfl, am_in1 10 rfl rfl, by decide, by decide, by decide +kernel⟩, Or.inl (am_in5 127 rfl rfl), am_in5 129 rfl rfl, am_qM, rfl, am_inS (List.mem_of_getElem? (i := 51) rfl) rfl⟩
theorem p_M_206 (nm : String) : am_P "FlowFabricModel" nm 11 32 .int := ⟨am_qM, rfl, by decide +kernel, Or.inl rfl⟩
theorem v_M_246 : am_CV "FlowFabricModel" 246 y_M_lay "(I)V" 1 11 := ⟨⟨am_in5 142 rfl rfl, am_in1 10 rfl rfl, by decide, by decide, by decide +kernel⟩, Or.inl (am_in5 139 rfl rfl), am_in5 141 rfl rfl, am_qM, rfl, am_inS (List.mem_of_getElem? (i := 54) rfl) rfl⟩
theorem f_M_209 : am_F "FlowFabricModel" 209 11 31 := ⟨am_qM, "FlowFabricModel", rfl, by decide, Or.inl (am_in4 134 rfl rfl), Or.inl rfl⟩
theorem p_M_209 (nm : String) : am_P "FlowFabricModel" nm 11 31 .int := ⟨am_qM, rfl, by decide +kernel, Or.inl rfl⟩
theorem f_M_200 : am_F "FlowFabricModel" 200 11 42 := ⟨am_qM, "FlowFabricModel", rfl, by decide, Or.inl (am_in4 145 rfl rfl), Or.inl rfl⟩
theorem p_M_200 (nm : String) : am_P "FlowFabricModel" nm 11 42 .int := ⟨am_qM, rfl, by decide +kernel, Or.inl rfl⟩
theorem v_M_203 : am_CV "FlowFabricModel" 203 y_M_isWay "(IIII)Z" 4 11 := ⟨⟨am_in5 134 rfl rfl, am_in1 10 rfl rfl, by decide, by decide, by decide +kernel⟩, Or.inl (am_in5 131 rfl rfl), am_in5 133 rfl rfl, am_qM, rfl, am_inS (List.mem_of_getElem? (i := 52) rfl) rfl⟩
theorem v_M_197 : am_CV "FlowFabricModel" 197 y_M_leads "(II)I" 2 11 := ⟨⟨am_in5 138 rfl rfl, am_in1 10 rfl rfl, by decide, by decide, by decide +kernel⟩, Or.inl (am_in5 135 rfl rfl), am_in5 137 rfl rfl, am_qM, rfl, am_inS (List.mem_of_getElem? (i := 53) rfl) rfl⟩
theorem v_M_212 : am_CV "FlowFabricModel" 212 y_M_lead "(II)V" 2 11 := ⟨⟨am_in5 146 rfl rfl, am_in1 10 rfl rfl, by decide, by decide, by decide +kernel⟩, Or.inl (am_in5 143 rfl rfl), am_in5 145 rfl rfl, am_qM, rfl, am_inS (List.mem_of_getElem? (i := 55) rfl) rfl⟩
theorem v_M_249 : am_CV "FlowFabricModel" 249 y_M_portOf "(II)I" 2 11 := ⟨⟨am_in5 154 rfl rfl, am_in1 10 rfl rfl, by decide, by decide, by decide +kernel⟩, Or.inl (am_in5 151 rfl rfl), am_in5 153 rfl rfl, am_qM, rfl, am_inS (List.mem_of_getElem? (i := 57) rfl) rfl⟩
theorem v_M_252 : am_CV "FlowFabricModel" 252 y_M_cleared "(I)V" 1 11 := ⟨⟨am_in5 162 rfl rfl, am_in1 10 rfl rfl, by decide, by decide, by decide +kernel⟩, Or.inl (am_in5 159 rfl rfl), am_in5 161 rfl rfl, am_qM, rfl, am_inS (List.mem_of_getElem? (i := 59) rfl) rfl⟩
theorem v_M_255 : am_CV "FlowFabricModel" 255 y_M_led "(I)V" 1 11 := ⟨⟨am_in5 170 rfl rfl, am_in1 10 rfl rfl, by decide, by decide, by decide +kernel⟩, Or.inl (am_in5 167 rfl rfl), am_in5 169 rfl rfl, am_qM, rfl, am_inS (List.mem_of_getElem? (i := 61) rfl) rfl⟩
theorem v_M_258 : am_CV "FlowFabricModel" 258 y_M_drop "(I)V" 1 11 := ⟨⟨am_in5 166 rfl rfl, am_in1 10 rfl rfl, by decide, by decide, by decide +kernel⟩, Or.inl (am_in5 163 rfl rfl), am_in5 165 rfl rfl, am_qM, rfl, am_inS (List.mem_of_getElem? (i := 60) rfl) rfl⟩
end
