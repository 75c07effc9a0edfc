section
/-- a private method of a class that the tables say can be made, by its rows of tables_1 -/
def lw_okq (q : MethodName × Nat) : Prop := (q.1.cls ≠ "java/lang/invoke/MethodHandle" ∧ q.1.cls ≠ "java/lang/invoke/VarHandle") ∧ Cond.instantiable q.1.cls q.2 ∈ tables_1 ∧ Cond.privateMethod q.1 ∈ tables_1 ∧ Cond.instanceMethod q.1 ∈ tables_1
theorem lw_p0 : lw_okq (⟨"FlowFabric", "isPort", "(II)Z"⟩, 6) := ⟨⟨by decide +kernel, by decide +kernel⟩, List.mem_of_getElem? (i := 23) (by decide +kernel), List.mem_of_getElem? (i := 192) (by decide +kernel), List.mem_of_getElem? (i := 193) (by decide +kernel)⟩
theorem lw_p1 : lw_okq (⟨"FlowFabric", "isSwitch", "(I)Z"⟩, 6) := ⟨⟨by decide +kernel, by decide +kernel⟩, List.mem_of_getElem? (i := 23) (by decide +kernel), List.mem_of_getElem? (i := 196) (by decide +kernel), List.mem_of_getElem? (i := 197) (by decide +kernel)⟩
theorem lw_p2 : lw_okq (⟨"FlowFabric", "isEnd", "(II)Z"⟩, 6) := ⟨⟨by decide +kernel, by decide +kernel⟩, List.mem_of_getElem? (i := 23) (by decide +kernel), List.mem_of_getElem? (i := 250) (by decide +kernel), List.mem_of_getElem? (i := 251) (by decide +kernel)⟩
theorem lw_p3 : lw_okq (⟨"java/util/ArrayList", "add", "(Ljava/lang/Object;[Ljava/lang/Object;I)V"⟩, 3) := ⟨⟨by decide +kernel, by decide +kernel⟩, List.mem_of_getElem? (i := 54) (by decide +kernel), List.mem_of_getElem? (i := 311) (by decide +kernel), List.mem_of_getElem? (i := 312) (by decide +kernel)⟩
theorem lw_p4 : lw_okq (⟨"java/util/ArrayList", "grow", "()[Ljava/lang/Object;"⟩, 3) := ⟨⟨by decide +kernel, by decide +kernel⟩, List.mem_of_getElem? (i := 54) (by decide +kernel), List.mem_of_getElem? (i := 315) (by decide +kernel), List.mem_of_getElem? (i := 316) (by decide +kernel)⟩
theorem lw_p5 : lw_okq (⟨"java/util/ArrayList", "grow", "(I)[Ljava/lang/Object;"⟩, 3) := ⟨⟨by decide +kernel, by decide +kernel⟩, List.mem_of_getElem? (i := 54) (by decide +kernel), List.mem_of_getElem? (i := 319) (by decide +kernel), List.mem_of_getElem? (i := 320) (by decide +kernel)⟩
theorem lw_p6 : lw_okq (⟨"FlowFabric", "isGuard", "(II)Z"⟩, 6) := ⟨⟨by decide +kernel, by decide +kernel⟩, List.mem_of_getElem? (i := 23) (by decide +kernel), List.mem_of_getElem? (i := 402) (by decide +kernel), List.mem_of_getElem? (i := 403) (by decide +kernel)⟩
theorem lw_p7 : lw_okq (⟨"java/util/ArrayList", "fastRemove", "([Ljava/lang/Object;I)V"⟩, 3) := ⟨⟨by decide +kernel, by decide +kernel⟩, List.mem_of_getElem? (i := 54) (by decide +kernel), List.mem_of_getElem? (i := 416) (by decide +kernel), List.mem_of_getElem? (i := 417) (by decide +kernel)⟩
theorem lw_p8 : lw_okq (⟨"FlowFabric", "isHost", "(I)Z"⟩, 6) := ⟨⟨by decide +kernel, by decide +kernel⟩, List.mem_of_getElem? (i := 23) (by decide +kernel), List.mem_of_getElem? (i := 425) (by decide +kernel), List.mem_of_getElem? (i := 426) (by decide +kernel)⟩
theorem lw_p9 : lw_okq (⟨"FlowFabric$Node", "strongestGuard", "(LFlowFabric$Datagram;I)LFlowFabric$Guard;"⟩, 7) := ⟨⟨by decide +kernel, by decide +kernel⟩, List.mem_of_getElem? (i := 41) (by decide +kernel), List.mem_of_getElem? (i := 462) (by decide +kernel), List.mem_of_getElem? (i := 463) (by decide +kernel)⟩
theorem lw_p10 : lw_okq (⟨"FlowFabric$Node", "comeToRules", "(LFlowFabric$Datagram;II)V"⟩, 7) := ⟨⟨by decide +kernel, by decide +kernel⟩, List.mem_of_getElem? (i := 41) (by decide +kernel), List.mem_of_getElem? (i := 511) (by decide +kernel), List.mem_of_getElem? (i := 512) (by decide +kernel)⟩
theorem lw_p11 : lw_okq (⟨"FlowFabric$Node", "addIfOpen", "(LFlowFabric$Message;)V"⟩, 7) := ⟨⟨by decide +kernel, by decide +kernel⟩, List.mem_of_getElem? (i := 41) (by decide +kernel), List.mem_of_getElem? (i := 523) (by decide +kernel), List.mem_of_getElem? (i := 524) (by decide +kernel)⟩
theorem lw_p12 : lw_okq (⟨"FlowFabric$Node", "putRule", "(LFlowFabric$Message;I)V"⟩, 7) := ⟨⟨by decide +kernel, by decide +kernel⟩, List.mem_of_getElem? (i := 41) (by decide +kernel), List.mem_of_getElem? (i := 553) (by decide +kernel), List.mem_of_getElem? (i := 554) (by decide +kernel)⟩
theorem lw_p13 : lw_okq (⟨"FlowFabric$Node", "cutRule", "(II)V"⟩, 7) := ⟨⟨by decide +kernel, by decide +kernel⟩, List.mem_of_getElem? (i := 41) (by decide +kernel), List.mem_of_getElem? (i := 557) (by decide +kernel), List.mem_of_getElem? (i := 558) (by decide +kernel)⟩
theorem lw_p14 : lw_okq (⟨"FlowFabric$Node", "sendOutAt", "(ILFlowFabric$Datagram;)V"⟩, 7) := ⟨⟨by decide +kernel, by decide +kernel⟩, List.mem_of_getElem? (i := 41) (by decide +kernel), List.mem_of_getElem? (i := 602) (by decide +kernel), List.mem_of_getElem? (i := 603) (by decide +kernel)⟩
theorem lw_p15 : lw_okq (⟨"FlowFabric$Node", "sendProbes", "()V"⟩, 7) := ⟨⟨by decide +kernel, by decide +kernel⟩, List.mem_of_getElem? (i := 41) (by decide +kernel), List.mem_of_getElem? (i := 606) (by decide +kernel), List.mem_of_getElem? (i := 607) (by decide +kernel)⟩
def lw_privs_1 : List (MethodName × Nat) := [(⟨"FlowFabric", "isPort", "(II)Z"⟩, 6), (⟨"FlowFabric", "isSwitch", "(I)Z"⟩, 6), (⟨"FlowFabric", "isEnd", "(II)Z"⟩, 6), (⟨"java/util/ArrayList", "add", "(Ljava/lang/Object;[Ljava/lang/Object;I)V"⟩, 3), (⟨"java/util/ArrayList", "grow", "()[Ljava/lang/Object;"⟩, 3), (⟨"java/util/ArrayList", "grow", "(I)[Ljava/lang/Object;"⟩, 3), (⟨"FlowFabric", "isGuard", "(II)Z"⟩, 6), (⟨"java/util/ArrayList", "fastRemove", "([Ljava/lang/Object;I)V"⟩, 3), (⟨"FlowFabric", "isHost", "(I)Z"⟩, 6), (⟨"FlowFabric$Node", "strongestGuard", "(LFlowFabric$Datagram;I)LFlowFabric$Guard;"⟩, 7), (⟨"FlowFabric$Node", "comeToRules", "(LFlowFabric$Datagram;II)V"⟩, 7), (⟨"FlowFabric$Node", "addIfOpen", "(LFlowFabric$Message;)V"⟩, 7), (⟨"FlowFabric$Node", "putRule", "(LFlowFabric$Message;I)V"⟩, 7), (⟨"FlowFabric$Node", "cutRule", "(II)V"⟩, 7), (⟨"FlowFabric$Node", "sendOutAt", "(ILFlowFabric$Datagram;)V"⟩, 7), (⟨"FlowFabric$Node", "sendProbes", "()V"⟩, 7)]
theorem lw_r1 : ∀ q ∈ lw_privs_1, lw_okq q := List.forall_mem_cons.mpr ⟨lw_p0, List.forall_mem_cons.mpr ⟨lw_p1, List.forall_mem_cons.mpr ⟨lw_p2, List.forall_mem_cons.mpr ⟨lw_p3, List.forall_mem_cons.mpr ⟨lw_p4, List.forall_mem_cons.mpr ⟨lw_p5, List.forall_mem_cons.mpr ⟨lw_p6, List.forall_mem_cons.mpr ⟨lw_p7, List.forall_mem_cons.mpr ⟨lw_p8, List.forall_mem_cons.mpr ⟨lw_p9, List.forall_mem_cons.mpr ⟨lw_p10, List.forall_mem_cons.mpr ⟨lw_p11, List.forall_mem_cons.mpr ⟨lw_p12, List.forall_mem_cons.mpr ⟨lw_p13, List.forall_mem_cons.mpr ⟨lw_p14, List.forall_mem_cons.mpr ⟨lw_p15, fun _ h => absurd h List.not_mem_nil⟩⟩⟩⟩⟩⟩⟩⟩⟩⟩⟩⟩⟩⟩⟩⟩
theorem lw_p16 : lw_okq (⟨"FlowFabric$Controller", "handleMiss", "(IILFlowFabric$Datagram;)V"⟩, 7) := ⟨⟨by decide +kernel, by decide +kernel⟩, List.mem_of_getElem? (i := 132) (by decide +kernel), List.mem_of_getElem? (i := 623) (by decide +kernel), List.mem_of_getElem? (i := 624) (by decide +kernel)⟩
theorem lw_p17 : lw_okq (⟨"FlowFabric$Controller", "clearCourse", "(LFlowFabric$Course;)V"⟩, 7) := ⟨⟨by decide +kernel, by decide +kernel⟩, List.mem_of_getElem? (i := 132) (by decide +kernel), List.mem_of_getElem? (i := 635) (by decide +kernel), List.mem_of_getElem? (i := 636) (by decide +kernel)⟩
theorem lw_p18 : lw_okq (⟨"FlowFabric$Controller", "orderOuts", "(IILFlowFabric$Datagram;)V"⟩, 7) := ⟨⟨by decide +kernel, by decide +kernel⟩, List.mem_of_getElem? (i := 132) (by decide +kernel), List.mem_of_getElem? (i := 643) (by decide +kernel), List.mem_of_getElem? (i := 644) (by decide +kernel)⟩
theorem lw_p19 : lw_okq (⟨"FlowFabric$Controller", "makeCourse", "(LFlowFabric$Datagram;)V"⟩, 7) := ⟨⟨by decide +kernel, by decide +kernel⟩, List.mem_of_getElem? (i := 132) (by decide +kernel), List.mem_of_getElem? (i := 648) (by decide +kernel), List.mem_of_getElem? (i := 649) (by decide +kernel)⟩
theorem lw_p20 : lw_okq (⟨"FlowFabric$Controller", "findWay", "(II)[I"⟩, 7) := ⟨⟨by decide +kernel, by decide +kernel⟩, List.mem_of_getElem? (i := 132) (by decide +kernel), List.mem_of_getElem? (i := 652) (by decide +kernel), List.mem_of_getElem? (i := 653) (by decide +kernel)⟩
theorem lw_p21 : lw_okq (⟨"FlowFabric$Controller", "countSteps", "(I)V"⟩, 7) := ⟨⟨by decide +kernel, by decide +kernel⟩, List.mem_of_getElem? (i := 132) (by decide +kernel), List.mem_of_getElem? (i := 658) (by decide +kernel), List.mem_of_getElem? (i := 659) (by decide +kernel)⟩
theorem lw_p22 : lw_okq (⟨"FlowFabric$Controller", "nextEnd", "(I)I"⟩, 7) := ⟨⟨by decide +kernel, by decide +kernel⟩, List.mem_of_getElem? (i := 132) (by decide +kernel), List.mem_of_getElem? (i := 662) (by decide +kernel), List.mem_of_getElem? (i := 663) (by decide +kernel)⟩
theorem lw_p23 : lw_okq (⟨"FlowFabric$Controller", "leadAhead", "(LFlowFabric$Course;)V"⟩, 7) := ⟨⟨by decide +kernel, by decide +kernel⟩, List.mem_of_getElem? (i := 132) (by decide +kernel), List.mem_of_getElem? (i := 712) (by decide +kernel), List.mem_of_getElem? (i := 713) (by decide +kernel)⟩
theorem lw_p24 : lw_okq (⟨"FlowFabric$Controller", "handleSeen", "(II)V"⟩, 7) := ⟨⟨by decide +kernel, by decide +kernel⟩, List.mem_of_getElem? (i := 132) (by decide +kernel), List.mem_of_getElem? (i := 717) (by decide +kernel), List.mem_of_getElem? (i := 718) (by decide +kernel)⟩
theorem lw_p25 : lw_okq (⟨"FlowFabric$Controller", "handleDone", "(I)V"⟩, 7) := ⟨⟨by decide +kernel, by decide +kernel⟩, List.mem_of_getElem? (i := 132) (by decide +kernel), List.mem_of_getElem? (i := 729) (by decide +kernel), List.mem_of_getElem? (i := 730) (by decide +kernel)⟩
theorem lw_p26 : lw_okq (⟨"FlowFabric$Controller", "countDone", "(LFlowFabric$Course;I)V"⟩, 7) := ⟨⟨by decide +kernel, by decide +kernel⟩, List.mem_of_getElem? (i := 132) (by decide +kernel), List.mem_of_getElem? (i := 733) (by decide +kernel), List.mem_of_getElem? (i := 734) (by decide +kernel)⟩
theorem lw_p27 : lw_okq (⟨"FlowFabric$Controller", "finishLaying", "(LFlowFabric$Course;)V"⟩, 7) := ⟨⟨by decide +kernel, by decide +kernel⟩, List.mem_of_getElem? (i := 132) (by decide +kernel), List.mem_of_getElem? (i := 738) (by decide +kernel), List.mem_of_getElem? (i := 739) (by decide +kernel)⟩
theorem lw_p28 : lw_okq (⟨"FlowFabric$Controller", "handleNoRoom", "(II)V"⟩, 7) := ⟨⟨by decide +kernel, by decide +kernel⟩, List.mem_of_getElem? (i := 132) (by decide +kernel), List.mem_of_getElem? (i := 742) (by decide +kernel), List.mem_of_getElem? (i := 743) (by decide +kernel)⟩
theorem lw_p29 : lw_okq (⟨"FlowFabric$Controller", "handleGone", "(III)V"⟩, 7) := ⟨⟨by decide +kernel, by decide +kernel⟩, List.mem_of_getElem? (i := 132) (by decide +kernel), List.mem_of_getElem? (i := 746) (by decide +kernel), List.mem_of_getElem? (i := 747) (by decide +kernel)⟩
theorem lw_p30 : lw_okq (⟨"FlowFabric$Controller", "handleDown", "(I)V"⟩, 7) := ⟨⟨by decide +kernel, by decide +kernel⟩, List.mem_of_getElem? (i := 132) (by decide +kernel), List.mem_of_getElem? (i := 755) (by decide +kernel), List.mem_of_getElem? (i := 756) (by decide +kernel)⟩
theorem lw_p31 : lw_okq (⟨"FlowFabricModel", "isPort", "(II)Z"⟩, 44) := ⟨⟨by decide +kernel, by decide +kernel⟩, List.mem_of_getElem? (i := 815) (by decide +kernel), List.mem_of_getElem? (i := 961) (by decide +kernel), List.mem_of_getElem? (i := 962) (by decide +kernel)⟩
def lw_privs_2 : List (MethodName × Nat) := [(⟨"FlowFabric$Controller", "handleMiss", "(IILFlowFabric$Datagram;)V"⟩, 7), (⟨"FlowFabric$Controller", "clearCourse", "(LFlowFabric$Course;)V"⟩, 7), (⟨"FlowFabric$Controller", "orderOuts", "(IILFlowFabric$Datagram;)V"⟩, 7), (⟨"FlowFabric$Controller", "makeCourse", "(LFlowFabric$Datagram;)V"⟩, 7), (⟨"FlowFabric$Controller", "findWay", "(II)[I"⟩, 7), (⟨"FlowFabric$Controller", "countSteps", "(I)V"⟩, 7), (⟨"FlowFabric$Controller", "nextEnd", "(I)I"⟩, 7), (⟨"FlowFabric$Controller", "leadAhead", "(LFlowFabric$Course;)V"⟩, 7), (⟨"FlowFabric$Controller", "handleSeen", "(II)V"⟩, 7), (⟨"FlowFabric$Controller", "handleDone", "(I)V"⟩, 7), (⟨"FlowFabric$Controller", "countDone", "(LFlowFabric$Course;I)V"⟩, 7), (⟨"FlowFabric$Controller", "finishLaying", "(LFlowFabric$Course;)V"⟩, 7), (⟨"FlowFabric$Controller", "handleNoRoom", "(II)V"⟩, 7), (⟨"FlowFabric$Controller", "handleGone", "(III)V"⟩, 7), (⟨"FlowFabric$Controller", "handleDown", "(I)V"⟩, 7), (⟨"FlowFabricModel", "isPort", "(II)Z"⟩, 44)]
theorem lw_r2 : ∀ q ∈ lw_privs_2, lw_okq q := List.forall_mem_cons.mpr ⟨lw_p16, List.forall_mem_cons.mpr ⟨lw_p17, List.forall_mem_cons.mpr ⟨lw_p18, List.forall_mem_cons.mpr ⟨lw_p19, List.forall_mem_cons.mpr ⟨lw_p20, List.forall_mem_cons.mpr ⟨lw_p21, List.forall_mem_cons.mpr ⟨lw_p22, List.forall_mem_cons.mpr ⟨lw_p23, List.forall_mem_cons.mpr ⟨lw_p24, List.forall_mem_cons.mpr ⟨lw_p25, List.forall_mem_cons.mpr ⟨lw_p26, List.forall_mem_cons.mpr ⟨lw_p27, List.forall_mem_cons.mpr ⟨lw_p28, List.forall_mem_cons.mpr ⟨lw_p29, List.forall_mem_cons.mpr ⟨lw_p30, List.forall_mem_cons.mpr ⟨lw_p31, fun _ h => absurd h List.not_mem_nil⟩⟩⟩⟩⟩⟩⟩⟩⟩⟩⟩⟩⟩⟩⟩⟩
theorem lw_p32 : lw_okq (⟨"FlowFabricModel", "isSwitch", "(I)Z"⟩, 44) := ⟨⟨by decide +kernel, by decide +kernel⟩, List.mem_of_getElem? (i := 815) (by decide +kernel), List.mem_of_getElem? (i := 965) (by decide +kernel), List.mem_of_getElem? (i := 966) (by decide +kernel)⟩
theorem lw_p33 : lw_okq (⟨"FlowFabricModel", "join", "(II)V"⟩, 44) := ⟨⟨by decide +kernel, by decide +kernel⟩, List.mem_of_getElem? (i := 815) (by decide +kernel), List.mem_of_getElem? (i := 973) (by decide +kernel), List.mem_of_getElem? (i := 974) (by decide +kernel)⟩
theorem lw_p34 : lw_okq (⟨"FlowFabricModel", "tell", "(IIIIII)V"⟩, 44) := ⟨⟨by decide +kernel, by decide +kernel⟩, List.mem_of_getElem? (i := 815) (by decide +kernel), List.mem_of_getElem? (i := 981) (by decide +kernel), List.mem_of_getElem? (i := 982) (by decide +kernel)⟩
theorem lw_p35 : lw_okq (⟨"FlowFabricModel", "add", "(IIIIII)V"⟩, 44) := ⟨⟨by decide +kernel, by decide +kernel⟩, List.mem_of_getElem? (i := 815) (by decide +kernel), List.mem_of_getElem? (i := 985) (by decide +kernel), List.mem_of_getElem? (i := 986) (by decide +kernel)⟩
theorem lw_p36 : lw_okq (⟨"FlowFabricModel", "isGuard", "(II)Z"⟩, 44) := ⟨⟨by decide +kernel, by decide +kernel⟩, List.mem_of_getElem? (i := 815) (by decide +kernel), List.mem_of_getElem? (i := 997) (by decide +kernel), List.mem_of_getElem? (i := 998) (by decide +kernel)⟩
theorem lw_p37 : lw_okq (⟨"FlowFabricModel", "isHost", "(I)Z"⟩, 44) := ⟨⟨by decide +kernel, by decide +kernel⟩, List.mem_of_getElem? (i := 815) (by decide +kernel), List.mem_of_getElem? (i := 1009) (by decide +kernel), List.mem_of_getElem? (i := 1010) (by decide +kernel)⟩
theorem lw_p38 : lw_okq (⟨"FlowFabricModel", "comesIn", "(IIIII)V"⟩, 44) := ⟨⟨by decide +kernel, by decide +kernel⟩, List.mem_of_getElem? (i := 815) (by decide +kernel), List.mem_of_getElem? (i := 1013) (by decide +kernel), List.mem_of_getElem? (i := 1014) (by decide +kernel)⟩
theorem lw_p39 : lw_okq (⟨"FlowFabricModel", "out", "(IIII)V"⟩, 44) := ⟨⟨by decide +kernel, by decide +kernel⟩, List.mem_of_getElem? (i := 815) (by decide +kernel), List.mem_of_getElem? (i := 1020) (by decide +kernel), List.mem_of_getElem? (i := 1021) (by decide +kernel)⟩
theorem lw_p40 : lw_okq (⟨"FlowFabricModel", "toRules", "(IIIII)V"⟩, 44) := ⟨⟨by decide +kernel, by decide +kernel⟩, List.mem_of_getElem? (i := 815) (by decide +kernel), List.mem_of_getElem? (i := 1024) (by decide +kernel), List.mem_of_getElem? (i := 1025) (by decide +kernel)⟩
theorem lw_p41 : lw_okq (⟨"FlowFabricModel", "ruleAt", "(II)I"⟩, 44) := ⟨⟨by decide +kernel, by decide +kernel⟩, List.mem_of_getElem? (i := 815) (by decide +kernel), List.mem_of_getElem? (i := 1028) (by decide +kernel), List.mem_of_getElem? (i := 1029) (by decide +kernel)⟩
theorem lw_p42 : lw_okq (⟨"FlowFabricModel", "take", "(I)V"⟩, 44) := ⟨⟨by decide +kernel, by decide +kernel⟩, List.mem_of_getElem? (i := 815) (by decide +kernel), List.mem_of_getElem? (i := 1040) (by decide +kernel), List.mem_of_getElem? (i := 1041) (by decide +kernel)⟩
theorem lw_p43 : lw_okq (⟨"FlowFabricModel", "put", "(III)V"⟩, 44) := ⟨⟨by decide +kernel, by decide +kernel⟩, List.mem_of_getElem? (i := 815) (by decide +kernel), List.mem_of_getElem? (i := 1044) (by decide +kernel), List.mem_of_getElem? (i := 1045) (by decide +kernel)⟩
theorem lw_p44 : lw_okq (⟨"FlowFabricModel", "removeRule", "(II)V"⟩, 44) := ⟨⟨by decide +kernel, by decide +kernel⟩, List.mem_of_getElem? (i := 815) (by decide +kernel), List.mem_of_getElem? (i := 1048) (by decide +kernel), List.mem_of_getElem? (i := 1049) (by decide +kernel)⟩
theorem lw_p45 : lw_okq (⟨"FlowFabricModel", "order", "(IIIIII)V"⟩, 44) := ⟨⟨by decide +kernel, by decide +kernel⟩, List.mem_of_getElem? (i := 815) (by decide +kernel), List.mem_of_getElem? (i := 1056) (by decide +kernel), List.mem_of_getElem? (i := 1057) (by decide +kernel)⟩
theorem lw_p46 : lw_okq (⟨"FlowFabricModel", "missed", "(IIIII)V"⟩, 44) := ⟨⟨by decide +kernel, by decide +kernel⟩, List.mem_of_getElem? (i := 815) (by decide +kernel), List.mem_of_getElem? (i := 1068) (by decide +kernel), List.mem_of_getElem? (i := 1069) (by decide +kernel)⟩
theorem lw_p47 : lw_okq (⟨"FlowFabricModel", "courseOf", "(I)I"⟩, 44) := ⟨⟨by decide +kernel, by decide +kernel⟩, List.mem_of_getElem? (i := 815) (by decide +kernel), List.mem_of_getElem? (i := 1072) (by decide +kernel), List.mem_of_getElem? (i := 1073) (by decide +kernel)⟩
def lw_privs_3 : List (MethodName × Nat) := [(⟨"FlowFabricModel", "isSwitch", "(I)Z"⟩, 44), (⟨"FlowFabricModel", "join", "(II)V"⟩, 44), (⟨"FlowFabricModel", "tell", "(IIIIII)V"⟩, 44), (⟨"FlowFabricModel", "add", "(IIIIII)V"⟩, 44), (⟨"FlowFabricModel", "isGuard", "(II)Z"⟩, 44), (⟨"FlowFabricModel", "isHost", "(I)Z"⟩, 44), (⟨"FlowFabricModel", "comesIn", "(IIIII)V"⟩, 44), (⟨"FlowFabricModel", "out", "(IIII)V"⟩, 44), (⟨"FlowFabricModel", "toRules", "(IIIII)V"⟩, 44), (⟨"FlowFabricModel", "ruleAt", "(II)I"⟩, 44), (⟨"FlowFabricModel", "take", "(I)V"⟩, 44), (⟨"FlowFabricModel", "put", "(III)V"⟩, 44), (⟨"FlowFabricModel", "removeRule", "(II)V"⟩, 44), (⟨"FlowFabricModel", "order", "(IIIIII)V"⟩, 44), (⟨"FlowFabricModel", "missed", "(IIIII)V"⟩, 44), (⟨"FlowFabricModel", "courseOf", "(I)I"⟩, 44)]
theorem lw_r3 : ∀ q ∈ lw_privs_3, lw_okq q := List.forall_mem_cons.mpr ⟨lw_p32, List.forall_mem_cons.mpr ⟨lw_p33, List.forall_mem_cons.mpr ⟨lw_p34, List.forall_mem_cons.mpr ⟨lw_p35, List.forall_mem_cons.mpr ⟨lw_p36, List.forall_mem_cons.mpr ⟨lw_p37, List.forall_mem_cons.mpr ⟨lw_p38, List.forall_mem_cons.mpr ⟨lw_p39, List.forall_mem_cons.mpr ⟨lw_p40, List.forall_mem_cons.mpr ⟨lw_p41, List.forall_mem_cons.mpr ⟨lw_p42, List.forall_mem_cons.mpr ⟨lw_p43, List.forall_mem_cons.mpr ⟨lw_p44, List.forall_mem_cons.mpr ⟨lw_p45, List.forall_mem_cons.mpr ⟨lw_p46, List.forall_mem_cons.mpr ⟨lw_p47, fun _ h => absurd h List.not_mem_nil⟩⟩⟩⟩⟩⟩⟩⟩⟩⟩⟩⟩⟩⟩⟩⟩
theorem lw_p48 : lw_okq (⟨"FlowFabricModel", "keep", "(II)V"⟩, 44) := ⟨⟨by decide +kernel, by decide +kernel⟩, List.mem_of_getElem? (i := 815) (by decide +kernel), List.mem_of_getElem? (i := 1076) (by decide +kernel), List.mem_of_getElem? (i := 1077) (by decide +kernel)⟩
theorem lw_p49 : lw_okq (⟨"FlowFabricModel", "clear", "(I)V"⟩, 44) := ⟨⟨by decide +kernel, by decide +kernel⟩, List.mem_of_getElem? (i := 815) (by decide +kernel), List.mem_of_getElem? (i := 1080) (by decide +kernel), List.mem_of_getElem? (i := 1081) (by decide +kernel)⟩
theorem lw_p50 : lw_okq (⟨"FlowFabricModel", "flood", "(IIIII)V"⟩, 44) := ⟨⟨by decide +kernel, by decide +kernel⟩, List.mem_of_getElem? (i := 815) (by decide +kernel), List.mem_of_getElem? (i := 1084) (by decide +kernel), List.mem_of_getElem? (i := 1085) (by decide +kernel)⟩
theorem lw_p51 : lw_okq (⟨"FlowFabricModel", "search", "(I)Z"⟩, 44) := ⟨⟨by decide +kernel, by decide +kernel⟩, List.mem_of_getElem? (i := 815) (by decide +kernel), List.mem_of_getElem? (i := 1088) (by decide +kernel), List.mem_of_getElem? (i := 1089) (by decide +kernel)⟩
theorem lw_p52 : lw_okq (⟨"FlowFabricModel", "isWay", "(IIII)Z"⟩, 44) := ⟨⟨by decide +kernel, by decide +kernel⟩, List.mem_of_getElem? (i := 815) (by decide +kernel), List.mem_of_getElem? (i := 1092) (by decide +kernel), List.mem_of_getElem? (i := 1093) (by decide +kernel)⟩
theorem lw_p53 : lw_okq (⟨"FlowFabricModel", "leads", "(II)I"⟩, 44) := ⟨⟨by decide +kernel, by decide +kernel⟩, List.mem_of_getElem? (i := 815) (by decide +kernel), List.mem_of_getElem? (i := 1096) (by decide +kernel), List.mem_of_getElem? (i := 1097) (by decide +kernel)⟩
theorem lw_p54 : lw_okq (⟨"FlowFabricModel", "lay", "(I)V"⟩, 44) := ⟨⟨by decide +kernel, by decide +kernel⟩, List.mem_of_getElem? (i := 815) (by decide +kernel), List.mem_of_getElem? (i := 1100) (by decide +kernel), List.mem_of_getElem? (i := 1101) (by decide +kernel)⟩
theorem lw_p55 : lw_okq (⟨"FlowFabricModel", "lead", "(II)V"⟩, 44) := ⟨⟨by decide +kernel, by decide +kernel⟩, List.mem_of_getElem? (i := 815) (by decide +kernel), List.mem_of_getElem? (i := 1104) (by decide +kernel), List.mem_of_getElem? (i := 1105) (by decide +kernel)⟩
theorem lw_p56 : lw_okq (⟨"FlowFabricModel", "seen", "(II)V"⟩, 44) := ⟨⟨by decide +kernel, by decide +kernel⟩, List.mem_of_getElem? (i := 815) (by decide +kernel), List.mem_of_getElem? (i := 1108) (by decide +kernel), List.mem_of_getElem? (i := 1109) (by decide +kernel)⟩
theorem lw_p57 : lw_okq (⟨"FlowFabricModel", "portOf", "(II)I"⟩, 44) := ⟨⟨by decide +kernel, by decide +kernel⟩, List.mem_of_getElem? (i := 815) (by decide +kernel), List.mem_of_getElem? (i := 1112) (by decide +kernel), List.mem_of_getElem? (i := 1113) (by decide +kernel)⟩
theorem lw_p58 : lw_okq (⟨"FlowFabricModel", "done", "(I)V"⟩, 44) := ⟨⟨by decide +kernel, by decide +kernel⟩, List.mem_of_getElem? (i := 815) (by decide +kernel), List.mem_of_getElem? (i := 1116) (by decide +kernel), List.mem_of_getElem? (i := 1117) (by decide +kernel)⟩
theorem lw_p59 : lw_okq (⟨"FlowFabricModel", "cleared", "(I)V"⟩, 44) := ⟨⟨by decide +kernel, by decide +kernel⟩, List.mem_of_getElem? (i := 815) (by decide +kernel), List.mem_of_getElem? (i := 1120) (by decide +kernel), List.mem_of_getElem? (i := 1121) (by decide +kernel)⟩
theorem lw_p60 : lw_okq (⟨"FlowFabricModel", "drop", "(I)V"⟩, 44) := ⟨⟨by decide +kernel, by decide +kernel⟩, List.mem_of_getElem? (i := 815) (by decide +kernel), List.mem_of_getElem? (i := 1124) (by decide +kernel), List.mem_of_getElem? (i := 1125) (by decide +kernel)⟩
theorem lw_p61 : lw_okq (⟨"FlowFabricModel", "led", "(I)V"⟩, 44) := ⟨⟨by decide +kernel, by decide +kernel⟩, List.mem_of_getElem? (i := 815) (by decide +kernel), List.mem_of_getElem? (i := 1128) (by decide +kernel), List.mem_of_getElem? (i := 1129) (by decide +kernel)⟩
theorem lw_p62 : lw_okq (⟨"FlowFabricModel", "down", "(I)V"⟩, 44) := ⟨⟨by decide +kernel, by decide +kernel⟩, List.mem_of_getElem? (i := 815) (by decide +kernel), List.mem_of_getElem? (i := 1132) (by decide +kernel), List.mem_of_getElem? (i := 1133) (by decide +kernel)⟩
theorem lw_p63 : lw_okq (⟨"FlowFabricModel", "passes", "(II)Z"⟩, 44) := ⟨⟨by decide +kernel, by decide +kernel⟩, List.mem_of_getElem? (i := 815) (by decide +kernel), List.mem_of_getElem? (i := 1136) (by decide +kernel), List.mem_of_getElem? (i := 1137) (by decide +kernel)⟩
def lw_privs_4 : List (MethodName × Nat) := [(⟨"FlowFabricModel", "keep", "(II)V"⟩, 44), (⟨"FlowFabricModel", "clear", "(I)V"⟩, 44), (⟨"FlowFabricModel", "flood", "(IIIII)V"⟩, 44), (⟨"FlowFabricModel", "search", "(I)Z"⟩, 44), (⟨"FlowFabricModel", "isWay", "(IIII)Z"⟩, 44), (⟨"FlowFabricModel", "leads", "(II)I"⟩, 44), (⟨"FlowFabricModel", "lay", "(I)V"⟩, 44), (⟨"FlowFabricModel", "lead", "(II)V"⟩, 44), (⟨"FlowFabricModel", "seen", "(II)V"⟩, 44), (⟨"FlowFabricModel", "portOf", "(II)I"⟩, 44), (⟨"FlowFabricModel", "done", "(I)V"⟩, 44), (⟨"FlowFabricModel", "cleared", "(I)V"⟩, 44), (⟨"FlowFabricModel", "drop", "(I)V"⟩, 44), (⟨"FlowFabricModel", "led", "(I)V"⟩, 44), (⟨"FlowFabricModel", "down", "(I)V"⟩, 44), (⟨"FlowFabricModel", "passes", "(II)Z"⟩, 44)]
theorem lw_r4 : ∀ q ∈ lw_privs_4, lw_okq q := List.forall_mem_cons.mpr ⟨lw_p48, List.forall_mem_cons.mpr ⟨lw_p49, List.forall_mem_cons.mpr ⟨lw_p50, List.forall_mem_cons.mpr ⟨lw_p51, List.forall_mem_cons.mpr ⟨lw_p52, List.forall_mem_cons.mpr ⟨lw_p53, List.forall_mem_cons.mpr ⟨lw_p54, List.forall_mem_cons.mpr ⟨lw_p55, List.forall_mem_cons.mpr ⟨lw_p56, List.forall_mem_cons.mpr ⟨lw_p57, List.forall_mem_cons.mpr ⟨lw_p58, List.forall_mem_cons.mpr ⟨lw_p59, List.forall_mem_cons.mpr ⟨lw_p60, List.forall_mem_cons.mpr ⟨lw_p61, List.forall_mem_cons.mpr ⟨lw_p62, List.forall_mem_cons.mpr ⟨lw_p63, fun _ h => absurd h List.not_mem_nil⟩⟩⟩⟩⟩⟩⟩⟩⟩⟩⟩⟩⟩⟩⟩⟩
def lw_privs : List (MethodName × Nat) := lw_privs_1 ++ (lw_privs_2 ++ (lw_privs_3 ++ (lw_privs_4)))
def lw_tbl : List Cond := k2_sels lw_privs ++ tables_1
theorem lw_privs_ok : ∀ q ∈ lw_privs, lw_okq q := by
  show ∀ q ∈ lw_privs_1 ++ (lw_privs_2 ++ (lw_privs_3 ++ (lw_privs_4))), lw_okq q
  exact List.forall_mem_append.mpr ⟨lw_r1, List.forall_mem_append.mpr ⟨lw_r2, List.forall_mem_append.mpr ⟨lw_r3, lw_r4⟩⟩⟩
/-- the words that every call carries on -/
def am_good (w : Cond) : Bool := w.onTables && w.keeps
def am_wz : List Cond := lw_tbl.filter am_good
theorem am_wz_good (w : Cond) (h : w ∈ am_wz) : (w.onTables && w.keeps) = true := (List.mem_filter.mp h).2
theorem am_in {w : Cond} (h : w ∈ tables_1) (hg : am_good w = true) : w ∈ am_wz := List.mem_filter.mpr ⟨List.mem_append_right _ h, hg⟩
theorem am_in1 {w : Cond} (i : Nat) (h : tables_1_1[i]? = some w) (hg : am_good w = true) : w ∈ am_wz := am_in (List.mem_append_left _ (List.mem_of_getElem? h)) hg
theorem am_in2 {w : Cond} (i : Nat) (h : tables_1_2[i]? = some w) (hg : am_good w = true) : w ∈ am_wz := am_in (List.mem_append_right _ (List.mem_append_left _ (List.mem_of_getElem? h))) hg
theorem am_in3 {w : Cond} (i : Nat) (h : tables_1_3[i]? = some w) (hg : am_good w = true) : w ∈ am_wz := am_in (List.mem_append_right _ (List.mem_append_right _ (List.mem_append_left _ (List.mem_of_getElem? h)))) hg
theorem am_in4 {w : Cond} (i : Nat) (h : tables_1_4[i]? = some w) (hg : am_good w = true) : w ∈ am_wz := am_in (List.mem_append_right _ (List.mem_append_right _ (List.mem_append_right _ (List.mem_append_left _ (List.mem_of_getElem? h))))) hg
theorem am_in5 {w : Cond} (i : Nat) (h : tables_1_5[i]? = some w) (hg : am_good w = true) : w ∈ am_wz := am_in (List.mem_append_right _ (List.mem_append_right _ (List.mem_append_right _ (List.mem_append_right _ (List.mem_of_getElem? h))))) hg
theorem am_inS {w : Cond} (h : w ∈ k2_sels lw_privs) (hg : am_good w = true) : w ∈ am_wz := List.mem_filter.mpr ⟨List.mem_append_left _ h, hg⟩
def am_lFF : List (String × String × String × Bool) := [("FlowFabric", "idle", "I", true), ("FlowFabric", "nodes", "[LFlowFabric$Node;", true), ("FlowFabric", "hosts", "[LFlowFabric$Host;", true), ("FlowFabric", "controller", "LFlowFabric$Controller;", true), ("FlowFabric", "hostCount", "I", false), ("FlowFabric", "now", "I", false)]
def am_qFF : vw_C := ("FlowFabric", (fun k => am_lFF.getD k ("", "", "", false)), 6)
abbrev am_cFF : Nat := 0
def am_lNd : List (String × String × String × Bool) := [("FlowFabric$Node", "number", "I", true), ("FlowFabric$Node", "room", "I", true), ("FlowFabric$Node", "ports", "[LFlowFabric$Port;", true), ("FlowFabric$Node", "guards", "Ljava/util/ArrayList;", true), ("FlowFabric$Node", "rules", "Ljava/util/ArrayList;", true), ("FlowFabric$Node", "orders", "Ljava/util/ArrayList;", true), ("FlowFabric$Node", "reports", "Ljava/util/ArrayList;", true)]
def am_qNd : vw_C := ("FlowFabric$Node", (fun k => am_lNd.getD k ("", "", "", false)), 7)
abbrev am_cNd : Nat := 1
def am_lPt : List (String × String × String × Bool) := [("FlowFabric$Port", "wire", "Ljava/util/ArrayList;", true), ("FlowFabric$Port", "host", "LFlowFabric$Host;", false), ("FlowFabric$Port", "otherEnd", "I", false), ("FlowFabric$Port", "up", "Z", false)]
def am_qPt : vw_C := ("FlowFabric$Port", (fun k => am_lPt.getD k ("", "", "", false)), 4)
abbrev am_cPt : Nat := 2
def am_lHo : List (String × String × String × Bool) := [("FlowFabric$Host", "number", "I", true), ("FlowFabric$Host", "node", "I", true), ("FlowFabric$Host", "port", "I", true), ("FlowFabric$Host", "takenCount", "I", false), ("FlowFabric$Host", "latestNumber", "I", false), ("FlowFabric$Host", "latestFrom", "I", false)]
def am_qHo : vw_C := ("FlowFabric$Host", (fun k => am_lHo.getD k ("", "", "", false)), 6)
abbrev am_cHo : Nat := 3
def am_lCt : List (String × String × String × Bool) := [("FlowFabric$Controller", "nodes", "[LFlowFabric$Node;", true), ("FlowFabric$Controller", "otherEnds", "[I", true), ("FlowFabric$Controller", "marked", "[Z", true), ("FlowFabric$Controller", "places", "[I", true), ("FlowFabric$Controller", "courses", "Ljava/util/ArrayList;", true), ("FlowFabric$Controller", "steps", "[I", true), ("FlowFabric$Controller", "waves", "I", false)]
def am_qCt : vw_C := ("FlowFabric$Controller", (fun k => am_lCt.getD k ("", "", "", false)), 7)
abbrev am_cCt : Nat := 4
def am_lCo : List (String × String × String × Bool) := [("FlowFabric$Course", "from", "I", true), ("FlowFabric$Course", "to", "I", true), ("FlowFabric$Course", "state", "I", false), ("FlowFabric$Course", "way", "[I", false), ("FlowFabric$Course", "kept", "LFlowFabric$Datagram;", false), ("FlowFabric$Course", "wave", "I", false), ("FlowFabric$Course", "awaited", "I", false), ("FlowFabric$Course", "ledTo", "I", false)]
def am_qCo : vw_C := ("FlowFabric$Course", (fun k => am_lCo.getD k ("", "", "", false)), 8)
abbrev am_cCo : Nat := 5
def am_lDg : List (String × String × String × Bool) := [("FlowFabric$Datagram", "from", "I", true), ("FlowFabric$Datagram", "to", "I", true), ("FlowFabric$Datagram", "number", "I", true)]
def am_qDg : vw_C := ("FlowFabric$Datagram", (fun k => am_lDg.getD k ("", "", "", false)), 3)
abbrev am_cDg : Nat := 6
def am_lFr : List (String × String × String × Bool) := [("FlowFabric$Frame", "datagram", "LFlowFabric$Datagram;", true), ("FlowFabric$Frame", "origin", "I", true)]
def am_qFr : vw_C := ("FlowFabric$Frame", (fun k => am_lFr.getD k ("", "", "", false)), 2)
abbrev am_cFr : Nat := 7
def am_lGd : List (String × String × String × Bool) := [("FlowFabric$Guard", "priority", "I", true), ("FlowFabric$Guard", "match", "I", true), ("FlowFabric$Guard", "verdict", "I", true), ("FlowFabric$Guard", "hits", "I", false)]
def am_qGd : vw_C := ("FlowFabric$Guard", (fun k => am_lGd.getD k ("", "", "", false)), 4)
abbrev am_cGd : Nat := 8
def am_lMs : List (String × String × String × Bool) := [("FlowFabric$Message", "code", "I", true), ("FlowFabric$Message", "value", "I", true), ("FlowFabric$Message", "from", "I", true), ("FlowFabric$Message", "to", "I", true), ("FlowFabric$Message", "number", "I", true)]
def am_qMs : vw_C := ("FlowFabric$Message", (fun k => am_lMs.getD k ("", "", "", false)), 5)
abbrev am_cMs : Nat := 9
def am_lRl : List (String × String × String × Bool) := [("FlowFabric$Rule", "from", "I", true), ("FlowFabric$Rule", "to", "I", true), ("FlowFabric$Rule", "port", "I", true), ("FlowFabric$Rule", "made", "I", true), ("FlowFabric$Rule", "last", "I", false), ("FlowFabric$Rule", "uses", "I", false)]
def am_qRl : vw_C := ("FlowFabric$Rule", (fun k => am_lRl.getD k ("", "", "", false)), 6)
abbrev am_cRl : Nat := 10
def am_lM : List (String × String × String × Bool) := [("FlowFabricModel", "switches", "I", true), ("FlowFabricModel", "room", "I", true), ("FlowFabricModel", "idle", "I", true), ("FlowFabricModel", "now", "I", false), ("FlowFabricModel", "use", "[I", true), ("FlowFabricModel", "mate", "[I", true), ("FlowFabricModel", "up", "[Z", true), ("FlowFabricModel", "hosts", "I", false), ("FlowFabricModel", "port", "[I", true), ("FlowFabricModel", "took", "[I", true), ("FlowFabricModel", "tookNumber", "[I", true), ("FlowFabricModel", "tookFrom", "[I", true), ("FlowFabricModel", "onWire", "[I", true), ("FlowFabricModel", "wire", "[I", true), ("FlowFabricModel", "guards", "[I", true), ("FlowFabricModel", "priority", "[I", true), ("FlowFabricModel", "match", "[I", true), ("FlowFabricModel", "verdict", "[I", true), ("FlowFabricModel", "hits", "[I", true), ("FlowFabricModel", "rules", "[I", true), ("FlowFabricModel", "rulePair", "[I", true), ("FlowFabricModel", "rulePort", "[I", true), ("FlowFabricModel", "ruleUses", "[I", true), ("FlowFabricModel", "ruleMade", "[I", true), ("FlowFabricModel", "ruleLast", "[I", true), ("FlowFabricModel", "listed", "[I", true), ("FlowFabricModel", "items", "[I", true), ("FlowFabricModel", "item", "[I", true), ("FlowFabricModel", "other", "[I", true), ("FlowFabricModel", "marked", "[Z", true), ("FlowFabricModel", "placeOf", "[I", true), ("FlowFabricModel", "waves", "I", false), ("FlowFabricModel", "courses", "I", false), ("FlowFabricModel", "coursePair", "[I", true), ("FlowFabricModel", "courseState", "[I", true), ("FlowFabricModel", "courseWave", "[I", true), ("FlowFabricModel", "courseWaits", "[I", true), ("FlowFabricModel", "courseLed", "[I", true), ("FlowFabricModel", "courseSize", "[I", true), ("FlowFabricModel", "courseWay", "[I", true), ("FlowFabricModel", "keeps", "[Z", true), ("FlowFabricModel", "keptNumber", "[I", true), ("FlowFabricModel", "found", "I", false), ("FlowFabricModel", "way", "[I", true)]
def am_qM : vw_C := ("FlowFabricModel", (fun k => am_lM.getD k ("", "", "", false)), 44)
abbrev am_cM : Nat := 11
def am_lAL : List (String × String × String × Bool) := [("java/util/AbstractList", "modCount", "I", false), ("java/util/ArrayList", "elementData", "[Ljava/lang/Object;", false), ("java/util/ArrayList", "size", "I", false)]
def am_qAL : vw_C := ("java/util/ArrayList", (fun k => am_lAL.getD k ("", "", "", false)), 3)
abbrev am_cAL : Nat := 12
def am_cl : List vw_C := [am_qFF, am_qNd, am_qPt, am_qHo, am_qCt, am_qCo, am_qDg, am_qFr, am_qGd, am_qMs, am_qRl, am_qM, am_qAL]
/-- a class of the table: its words are there, its fields' types are known, their names differ -/
def am_clOK (q : vw_C) : Prop := (∀ w ∈ u_ws q.1 q.2.1 q.2.2, w ∈ am_wz) ∧ (∀ j, j < q.2.2 → (parseFieldDescriptor (q.2.1 j).2.2.1).isSome = true) ∧ ∀ a, a < q.2.2 → ∀ b, b < q.2.2 → a ≠ b → (q.2.1 a).2.1 ≠ (q.2.1 b).2.1
def am_clB (q : vw_C) : Bool := (u_ws q.1 q.2.1 q.2.2).all (fun w => tables_1.contains w && am_good w) && ((List.range q.2.2).all (fun j => (parseFieldDescriptor (q.2.1 j).2.2.1).isSome) && (List.range q.2.2).all (fun a => (List.range q.2.2).all (fun b => a == b || (q.2.1 a).2.1 != (q.2.1 b).2.1)))
theorem am_clB_ok {q : vw_C} (h : am_clB q = true) : am_clOK q := by
  unfold am_clB at h
  simp only [Bool.and_eq_true, List.all_eq_true, List.mem_range, Bool.or_eq_true, beq_iff_eq, bne_iff_ne] at h
  obtain ⟨h1, h2, h3⟩ := h
  refine ⟨fun w hw => am_in (List.contains_iff_mem.mp (h1 w hw).1) (h1 w hw).2, h2, fun a ha b hb hne => ?_⟩
  rcases h3 a ha b hb with h | h
  · exact absurd h hne
  · exact h
theorem am_okFF : am_clOK am_qFF := am_clB_ok (by decide +kernel)
theorem am_okNd : am_clOK am_qNd := am_clB_ok (by decide +kernel)
theorem am_okPt : am_clOK am_qPt := am_clB_ok (by decide +kernel)
theorem am_okHo : am_clOK am_qHo := am_clB_ok (by decide +kernel)
theorem am_okCt : am_clOK am_qCt := am_clB_ok (by decide +kernel)
theorem am_okCo : am_clOK am_qCo := am_clB_ok (by decide +kernel)
theorem am_okDg : am_clOK am_qDg := am_clB_ok (by decide +kernel)
theorem am_okFr : am_clOK am_qFr := am_clB_ok (by decide +kernel)
theorem am_okGd : am_clOK am_qGd := am_clB_ok (by decide +kernel)
theorem am_okMs : am_clOK am_qMs := am_clB_ok (by decide +kernel)
theorem am_okRl : am_clOK am_qRl := am_clB_ok (by decide +kernel)
theorem am_okM : am_clOK am_qM := am_clB_ok (by decide +kernel)
theorem am_okAL : am_clOK am_qAL := am_clB_ok (by decide +kernel)
theorem am_cl_ok (ci : Nat) (q : vw_C) (h : am_cl[ci]? = some q) : am_clOK q := by
  have hm := List.mem_of_getElem? h
  simp only [am_cl, List.mem_cons, List.not_mem_nil, or_false] at hm
  rcases hm with rfl | rfl | rfl | rfl | rfl | rfl | rfl | rfl | rfl | rfl | rfl | rfl | rfl
  · exact am_okFF
  · exact am_okNd
  · exact am_okPt
  · exact am_okHo
  · exact am_okCt
  · exact am_okCo
  · exact am_okDg
  · exact am_okFr
  · exact am_okGd
  · exact am_okMs
  · exact am_okRl
  · exact am_okM
  · exact am_okAL
def am_ak : List FieldType := [.int, .boolean, .object "java/lang/Object", .object "FlowFabric$Node", .object "FlowFabric$Port", .object "FlowFabric$Host"]
abbrev am_kI : Nat := 0
theorem am_kI_ok : am_ak[am_kI]? = some (.int) := rfl
abbrev am_kZ : Nat := 1
theorem am_kZ_ok : am_ak[am_kZ]? = some (.boolean) := rfl
abbrev am_kO : Nat := 2
theorem am_kO_ok : am_ak[am_kO]? = some (.object "java/lang/Object") := rfl
abbrev am_kN : Nat := 3
theorem am_kN_ok : am_ak[am_kN]? = some (.object "FlowFabric$Node") := rfl
abbrev am_kP : Nat := 4
theorem am_kP_ok : am_ak[am_kP]? = some (.object "FlowFabric$Port") := rfl
abbrev am_kH : Nat := 5
theorem am_kH_ok : am_ak[am_kH]? = some (.object "FlowFabric$Host") := rfl
def am_nF : List (String × Nat × String × String × String × String) := [("FlowFabric$Controller", 176, "FlowFabric", "NO_WAY", "[I", "FlowFabric"), ("FlowFabric$Course", 21, "FlowFabric", "NO_WAY", "[I", "FlowFabric")]
def am_nM : List (String × Nat × MethodName × String) := [("FlowFabric$Node", 187, ⟨"FlowFabric", "endOf", "(II)I"⟩, "FlowFabric"), ("FlowFabric$Controller", 62, ⟨"FlowFabric", "endOf", "(II)I"⟩, "FlowFabric"), ("FlowFabric$Controller", 187, ⟨"FlowFabric", "switchOf", "(I)I"⟩, "FlowFabric"), ("FlowFabric$Controller", 205, ⟨"FlowFabric", "portOf", "(I)I"⟩, "FlowFabric"), ("FlowFabric$Course", 41, ⟨"FlowFabric", "switchOf", "(I)I"⟩, "FlowFabric")]
def am_nC : List (String × String) := [("FlowFabric$Guard", "FlowFabric$Guard"), ("FlowFabric$Rule", "FlowFabric$Rule"), ("FlowFabric$Frame", "FlowFabric$Frame"), ("FlowFabric$Message", "FlowFabric$Message"), ("FlowFabric$Course", "FlowFabric$Course"), ("FlowFabric", "java/lang/Object"), ("FlowFabric$Node", "java/lang/Object"), ("FlowFabric$Port", "java/lang/Object"), ("FlowFabric$Controller", "java/lang/Object"), ("FlowFabricModel", "java/lang/Object"), ("FlowFabric$Host", "java/lang/Object"), ("FlowFabric$Message", "java/lang/Object"), ("FlowFabric$Guard", "java/lang/Object"), ("FlowFabric$Datagram", "java/lang/Object"), ("FlowFabric$Frame", "java/lang/Object"), ("FlowFabric$Rule", "java/lang/Object"), ("FlowFabric$Course", "java/lang/Object")]
def am_nO : List String := ["FlowFabric$Node", "FlowFabric$Port", "FlowFabric$Host", "java/lang/Object"]
end
section
/-! A logic of my own over the kit's W: the heap is seen as a pure store. A cell of the store: an array (number of its kind, its places) or an object (number of its class, its fields). The store: cells by address, and the next free address. Everything below speaks of am_cl (classes), am_ak (kinds of arrays), am_wz (words), am_nF, am_nM, am_nC, am_nO (words that the calls can't carry), which part 01 gives. -/
abbrev am_K : Type := (Nat × List Value) ⊕ (Nat × List Value)
/-- cells by address, each with a ghost tag (0: never written again); the next free address; how many slots were made -/
abbrev am_S : Type := (Nat → Option (Nat × am_K)) × Nat × Nat
/-- fixed for a run: the launch, the layout of objects, the classes of arrays, the heap at the start, what static fields hold, and the class object of Object[] -/
abbrev am_G : Type := Launch × va_G × (Nat → ClassId) × Heap × List (String × String × String × Value) × Nat
abbrev am_G.lay (g : am_G) : va_G := g.2.1
abbrev am_G.arr (g : am_G) : Nat → ClassId := g.2.2.1
abbrev am_G.old (g : am_G) : Heap := g.2.2.2.1
abbrev am_G.sta (g : am_G) : List (String × String × String × Value) := g.2.2.2.2.1
abbrev am_G.mir (g : am_G) : Nat := g.2.2.2.2.2
def am_cell (cA : ClassId) (vs : List Value) : Cell := { cls := cA, slots := vs.toArray, vm := .none }
def am_at (g : am_G) (a : Nat) (x : am_K) (H : Heap) : Prop := match x with
  | .inl r => H[a]? = some (am_cell (g.arr r.1) r.2)
  | .inr o => ∃ q : vw_C, am_cl[o.1]? = some q ∧ o.2.length = q.2.2 ∧ t_OB a (g.lay.1 o.1) q.2.2 (g.lay.2 o.1) H (vp_V o.2)
def am_R (g : am_G) (S : am_S) (H : Heap) : Prop := H.size = S.2.1 ∧ g.old.size ≤ H.size ∧ (∀ q : Nat, q < g.old.size → H[q]? = g.old[q]?) ∧ (∀ (a t : Nat) (x : am_K), S.1 a = some (t, x) → am_at g a x H) ∧ ∀ (a t : Nat) (x : am_K), S.1 a = some (t, x) → t ≠ 0 → g.old.size ≤ a
def am_up (S : am_S) (a t : Nat) (x : am_K) : am_S := (fun q => if q = a then some (t, x) else S.1 q, S.2)
def am_mk (S : am_S) (t z : Nat) (x : am_K) : am_S := (fun q => if q = S.2.1 then some (t, x) else S.1 q, S.2.1 + 1, S.2.2 + z)
theorem am_up_at (S : am_S) (a t : Nat) (x : am_K) : (am_up S a t x).1 a = some (t, x) := by simp [am_up]
theorem am_up_ne (S : am_S) {a q : Nat} (t : Nat) (x : am_K) (h : q ≠ a) : (am_up S a t x).1 q = S.1 q := by simp [am_up, h]
theorem am_mk_at (S : am_S) (t z : Nat) (x : am_K) : (am_mk S t z x).1 S.2.1 = some (t, x) := by simp [am_mk]
theorem am_mk_ne (S : am_S) {q : Nat} (t z : Nat) (x : am_K) (h : q ≠ S.2.1) : (am_mk S t z x).1 q = S.1 q := by simp [am_mk, h]
theorem am_at.lt {g : am_G} {a : Nat} {x : am_K} {H : Heap} (h : am_at g a x H) : a < H.size := by
  cases x with
  | inl r => exact (Array.getElem?_eq_some_iff.mp h).1
  | inr o =>
    obtain ⟨q, -, -, cell, h1, -⟩ := h
    exact (Array.getElem?_eq_some_iff.mp h1).1
theorem am_at.kept {g : am_G} {a : Nat} {x : am_K} {H H1 : Heap} (h : am_at g a x H) (e : H1[a]? = H[a]?) : am_at g a x H1 := by
  cases x with
  | inl r => exact e.trans h
  | inr o =>
    obtain ⟨q, h1, h2, h3⟩ := h
    exact ⟨q, h1, h2, h3.kept e⟩
/-- one cell has changed -/
theorem am_R.put {g : am_G} {S : am_S} {H H1 : Heap} {a : Nat} (t : Nat) {x : am_K} (h : am_R g S H) (ha : g.old.size ≤ a) (z : H1.size = H.size) (hq : ∀ q : Nat, q ≠ a → H1[q]? = H[q]?) (hx : am_at g a x H1) : am_R g (am_up S a t x) H1 := by
  obtain ⟨h1, h2, h3, h4, h5⟩ := h
  refine ⟨by rw [z]; exact h1, by rw [z]; exact h2, fun q hl => ?_, fun q u y hy => ?_, fun q u y hy hu => ?_⟩
  · rw [hq q (by omega)]; exact h3 q hl
  · by_cases e : q = a
    · subst e
      rw [am_up_at] at hy
      cases hy
      exact hx
    · rw [am_up_ne S t x e] at hy
      exact (h4 q u y hy).kept (hq q e)
  · by_cases e : q = a
    · subst e; exact ha
    · rw [am_up_ne S t x e] at hy
      exact h5 q u y hy hu
/-- one cell is new -/
theorem am_R.push {g : am_G} {S : am_S} {H H1 : Heap} (t n : Nat) {x : am_K} (h : am_R g S H) (z : H1.size = H.size + 1) (hq : ∀ q : Nat, q < H.size → H1[q]? = H[q]?) (hx : am_at g S.2.1 x H1) : am_R g (am_mk S t n x) H1 := by
  obtain ⟨h1, h2, h3, h4, h5⟩ := h
  refine ⟨by rw [z, h1]; rfl, by omega, fun q hl => ?_, fun q u y hy => ?_, fun q u y hy hu => ?_⟩
  · rw [hq q (by omega)]; exact h3 q hl
  · by_cases e : q = S.2.1
    · subst e
      rw [am_mk_at] at hy
      cases hy
      exact hx
    · rw [am_mk_ne S t n x e] at hy
      exact (h4 q u y hy).kept (hq q (h4 q u y hy).lt)
  · by_cases e : q = S.2.1
    · subst e; rw [← h1]; exact h2
    · rw [am_mk_ne S t n x e] at hy
      exact h5 q u y hy hu
/-- another tag -/
theorem am_R.tag {g : am_G} {S : am_S} {H : Heap} {a t : Nat} (t' : Nat) {x : am_K} (h : am_R g S H) (ha : S.1 a = some (t, x)) (ht : t ≠ 0) : am_R g (am_up S a t' x) H :=
  h.put t' (h.2.2.2.2 a t x ha ht) rfl (fun _ _ => rfl) (h.2.2.2.1 a t x ha)
/-- what is known of the tables at a state -/
def am_T (g : am_G) (U : State) : Prop :=
  (∀ w ∈ am_wz, va_Nw w U) ∧ (∀ x ∈ am_nF, va_Nw (.fieldLinkNest x.1 x.2.1 x.2.2.1 x.2.2.2.1 x.2.2.2.2.1 x.2.2.2.2.2) U) ∧ (∀ x ∈ am_nM, va_Nw (.methodLinkNest x.1 x.2.1 x.2.2.1 x.2.2.2) U) ∧ (∀ x ∈ am_nC, va_Nw (.castable x.1 x.2) U) ∧ (∀ x ∈ am_nO, va_AO x U) ∧
  (∀ (c : Nat) (q : vw_C), am_cl[c]? = some q → u_Kn U q.1 q.2.1 q.2.2 (g.lay.1 c) (g.lay.2 c)) ∧ (∀ (t : Nat) (ty : FieldType), am_ak[t]? = some ty → ArrOfT U (g.arr t) ty ∧ va_RA U (g.arr t) ty) ∧
  (∀ x ∈ g.sta, va_Z x.1 x.2.1 x.2.2.1 x.2.2.2 (fun q => g.old.size ≤ q) U g.old) ∧ va_Mi "[Ljava/lang/Object;" g.mir U ∧ va_Dc U
theorem am_T.warm {g : am_G} {s U : State} (hW : s.WarmedH U.vm) (h : am_T g s) : am_T g U := by
  obtain ⟨h1, h2, h3, h4, h5, h6, h7, h8, h9, h10⟩ := h
  refine ⟨fun w hw => ?_, fun x hx => (h2 x hx).warmF hW, fun x hx => (h3 x hx).warmM hW, fun x hx => (h4 x hx).warmC hW, fun x hx => (h5 x hx).moved hW.alike, fun c q hc => u_Kn_moved hW.alike (h6 c q hc), fun t ty ht => ⟨arrOfT_moved hW.alike (h7 t ty ht).1, (h7 t ty ht).2.moved hW.alike⟩, fun x hx => (h8 x hx).moved hW.alike, h9.moved hW.alike, h10.moved hW.alike⟩
  exact word_at (args := #[]) (a' := #[]) hW (Or.inl (am_wz_good w hw)) (h1 w hw)
theorem am_T.calling {g : am_G} {U : State} (h : am_T g U) (f : JFrame) (mk : MethodId) (a : Array Value) : am_T g (U.calling f mk a) := by
  obtain ⟨h1, h2, h3, h4, h5, h6, h7, h8, h9, h10⟩ := h
  have hA : U.vm.Alike (U.calling f mk a).vm := Vm.Alike.refl U.vm
  refine ⟨fun w hw => ?_, fun x hx => va_Nw.same rfl rfl (h2 x hx), fun x hx => va_Nw.same rfl rfl (h3 x hx), fun x hx => va_Nw.same rfl rfl (h4 x hx), fun x hx => (h5 x hx).moved hA, fun c q hc => u_Kn_moved hA (h6 c q hc), fun t ty ht => ⟨arrOfT_moved hA (h7 t ty ht).1, (h7 t ty ht).2.moved hA⟩, fun x hx => (h8 x hx).moved hA, h9.moved hA, h10.moved hA⟩
  have hg := am_wz_good w hw
  simp only [Bool.and_eq_true] at hg
  exact va_Nw.same (u := U) hg.1 rfl (h1 w hw)
theorem am_T.word {g : am_G} {s : State} (h : am_T g s) (args : Array Value) {w : Cond} (hw : w ∈ am_wz) : w.before args s = true := by
  have hg := am_wz_good w hw
  simp only [Bool.and_eq_true] at hg
  exact va_Nw.use hg.1 (h.1 w hw)
/-! locals: a list, a place for each -/
def am_L (ls : Array Slot) (nL : Nat) (L : List (Option Value)) : Prop := ls.size = nL ∧ lv_wf ls ∧ L.length = nL ∧ ∀ (i : Nat) (v : Value), L[i]? = some (some v) → ls[i]? = some (.val v) ∧ v.category = 1
def am_al (L : List (Option Value)) : List (Nat × Value) := (List.range L.length).filterMap (fun j => (L[j]?.join).map (fun v => (j, v)))
theorem am_al_mem {L : List (Option Value)} {j : Nat} {v : Value} : (j, v) ∈ am_al L ↔ L[j]? = some (some v) := by
  unfold am_al
  rw [List.mem_filterMap]
  constructor
  · rintro ⟨i, -, h⟩
    rw [Option.map_eq_some_iff] at h
    obtain ⟨w, h1, h2⟩ := h
    have e1 : i = j := congrArg Prod.fst h2
    have e2 : w = v := congrArg Prod.snd h2
    subst e1
    subst e2
    cases h3 : L[i]? with
    | none => rw [h3] at h1; cases h1
    | some o => rw [h3] at h1; exact congrArg some h1
  · intro h
    refine ⟨j, List.mem_range.mpr (List.getElem?_eq_some_iff.mp h).1, ?_⟩
    rw [h]; rfl
theorem am_L.has {ls : Array Slot} {nL : Nat} {L : List (Option Value)} (h : am_L ls nL L) : lv_has ls nL (am_al L) :=
  ⟨h.1, h.2.1, fun q hq => (h.2.2.2 q.1 q.2 (am_al_mem.mp hq)).1⟩
theorem am_L.st {ls ls' : Array Slot} {nL : Nat} {L : List (Option Value)} {i : Nat} {v : Value} (h : am_L ls nL L) (hi : i < nL) (hc : v.category = 1)
    (h' : lv_has ls' nL ((i, v) :: (am_al L).filter (fun q => !(q.1 == i) && !(q.1 + 1 == i && q.2.category == 2)))) : am_L ls' nL (L.set i (some v)) := by
  refine ⟨h'.1, h'.2.1, by rw [List.length_set]; exact h.2.2.1, fun j w hj => ?_⟩
  by_cases e : j = i
  · subst e
    rw [List.getElem?_set_self (by rw [h.2.2.1]; exact hi)] at hj
    cases hj
    exact ⟨h'.2.2 (j, v) List.mem_cons_self, hc⟩
  · rw [List.getElem?_set_ne (Ne.symm e)] at hj
    have hw := (h.2.2.2 j w hj).2
    refine ⟨h'.2.2 (j, w) (List.mem_cons_of_mem _ (List.mem_filter.mpr ⟨am_al_mem.mpr hj, ?_⟩)), hw⟩
    simp [e, hw]
/-- a reference or null -/
def am_rv (v : Value) : Prop := v = .null ∨ ∃ a, v = .ref a
theorem am_rvN : am_rv .null := Or.inl rfl
theorem am_rvR (a : Nat) : am_rv (.ref a) := Or.inr ⟨a, rfl⟩
/-- the end of a method -/
def am_Q (g : am_G) (v : Option Value) (S' : am_S) : Array Value → State → Outcome → State → Prop := fun _ _ o t => o = .returned v ∧ am_R g S' t.heap
/-- a method's constants: class, name, code, locals, answer -/
abbrev am_N : Type := String × String × ByteArray × Nat × Option FieldType
/-- all that a row knows: hexec, code, maxLocals, answer, no lock, own class, name; the tables; the budgets; what was written; the store; the locals -/
def am_Y (g : am_G) (y : am_N) (k n : Nat) (L : List (Option Value)) (S : am_S) (p : Program) (s : State) (m : MethodId) (meth : Method) (c : Code) (H : Heap) (locs : List Loc) (cells slots mc ms : Nat) (ls : Array Slot) : Prop :=
  p.tables.exec = Jvm.exec ∧ c.code = y.2.2.1 ∧ c.maxLocals = y.2.2.2.1 ∧ meth.sig.returnType = y.2.2.2.2 ∧ meth.locks = false ∧ s.vm.findClass y.1 = some m.cls ∧ meth.name = y.2.1 ∧ am_T g s ∧ cells + k ≤ mc ∧ slots + n ≤ ms ∧ (∀ q ∈ locs, g.old.size ≤ q.base) ∧ am_R g S H ∧ am_L ls y.2.2.2.1 L
/-- from here the method ends with this answer and this store, within k cells and n slots -/
def am_V (g : am_G) (y : am_N) (d lo k n : Nat) (v : Option Value) (S' : am_S) (pc : Nat) (L : List (Option Value)) (st : List Value) (S : am_S) : Prop :=
  ∀ (p : Program) (e : Env) (s : State) (m : MethodId) (args : Array Value) (below : List Frame) (meth : Method) (c : Code) (H : Heap) (locs : List Loc) (cells slots mc ms : Nat) (ls : Array Slot), am_Y g y k n L S p s m meth c H locs cells slots mc ms ls →
    W p g.1 e { frames := d, cells := mc, slots := ms, locals := lo } s m args below meth c H locs cells slots (MQ below (am_Q g v S') args s mc ms (fun q => g.old.size ≤ q)) (F0 m pc ls st)
/-- a method's contract at these arguments and this store: this answer, this store, within k cells and n slots -/
def am_N0 (g : am_G) (y : am_N) (desc : String) (d lo k n : Nat) (vs : List Value) (S : am_S) (v : Option Value) (S' : am_S) : Prop :=
  Met g.1 ⟨y.1, y.2.1, desc⟩ [.code ⟨y.1, y.2.1, desc⟩ y.2.2.1 y.2.2.2.1 y.2.2.2.2] { frames := d, cells := k, slots := n, locals := lo } (va_Pc vs (fun U => am_T g U ∧ am_R g S U.heap)) (am_Q g v S') k n (fun q => g.old.size ≤ q)
/-- the judgement: from here the method ends, with 'post' of its answer and of the store; what it makes is what the store's counters say -/
def am_W (g : am_G) (y : am_N) (d lo : Nat) (post : Option Value → am_S → Prop) (pc : Nat) (L : List (Option Value)) (st : List Value) (S : am_S) : Prop :=
  ∃ (v : Option Value) (S' : am_S), S.2.1 ≤ S'.2.1 ∧ S.2.2 ≤ S'.2.2 ∧ am_V g y d lo (S'.2.1 - S.2.1) (S'.2.2 - S.2.2) v S' pc L st S ∧ post v S'
def am_M (g : am_G) (y : am_N) (desc : String) (d lo : Nat) (vs : List Value) (S : am_S) (post : Option Value → am_S → Prop) : Prop :=
  ∃ (v : Option Value) (S' : am_S), S.2.1 ≤ S'.2.1 ∧ S.2.2 ≤ S'.2.2 ∧ am_N0 g y desc d lo (S'.2.1 - S.2.1) (S'.2.2 - S.2.2) vs S v S' ∧ post v S'
/-- the locals as a method begins -/
def am_L0 (vs : List Value) (nL : Nat) : List (Option Value) := vs.map some ++ List.replicate (nL - vs.length) none
theorem am_L.entry (vs : List Value) {nL : Nat} (hc : ∀ v ∈ vs, v.category = 1) (h : vs.length ≤ nL) : am_L ((vs.map Slot.val ++ List.replicate (nL - vs.length) Slot.unset).toArray) nL (am_L0 vs nL) := by
  have e : lg_sl vs = vs.map Slot.val := by
    unfold lg_sl
    induction vs with
    | nil => rfl
    | cons v vs ih =>
      have h1 : ¬ v.category = 2 := by rw [hc v List.mem_cons_self]; decide
      rw [List.flatMap_cons, if_neg h1, ih (fun w hw => hc w (List.mem_cons_of_mem _ hw)) (by simp at h; omega)]
      rfl
  have hl : (lg_sl vs).length ≤ nL := by rw [e, List.length_map]; exact h
  obtain ⟨h1, h2, -⟩ := lv_entry vs hl
  rw [e, List.length_map] at h1 h2
  refine ⟨h1, h2, by simp [am_L0]; omega, fun i v hi => ?_⟩
  unfold am_L0 at hi
  by_cases hlt : i < vs.length
  · rw [List.getElem?_append_left (by simpa using hlt), List.getElem?_map] at hi
    cases hv : vs[i]? with
    | none => rw [hv] at hi; cases hi
    | some w =>
      rw [hv] at hi
      cases hi
      refine ⟨?_, hc _ (List.mem_of_getElem? hv)⟩
      rw [List.getElem?_toArray, List.getElem?_append_left (by simpa using hlt), List.getElem?_map, hv]
      rfl
  · rw [List.getElem?_append_right (by simpa using Nat.not_lt.mp hlt)] at hi
    have := List.mem_of_getElem? hi
    rw [List.mem_replicate] at this
    cases this.2
theorem am_M.of {g : am_G} {y : am_N} {desc : String} {d lo : Nat} {vs : List Value} {S : am_S} {post : Option Value → am_S → Prop} (hy : plainName y.1 = true) (hc : ∀ v ∈ vs, v.category = 1) (hl : vs.length ≤ y.2.2.2.1)
    (h : am_W g y d lo post 0 (am_L0 vs y.2.2.2.1) [] S) : am_M g y desc d lo vs S post := by
  obtain ⟨v, S', h1, h2, h3, h4⟩ := h
  refine ⟨v, S', h1, h2, ?_, h4⟩
  unfold am_N0
  refine Met.ofW (cc := y.2.2.1) (maxL := y.2.2.2.1) (ret := y.2.2.2.2) hy rfl ?_
  intro p e s m args below meth c s₁ B hml hv
  obtain ⟨rfl, hT, hR⟩ := hv
  rw [entry_eq m vs hc]
  exact h3 p e s m _ below meth c s.heap [] 0 0 _ _ _ ⟨B.exec, B.bytes, hml, B.returns, B.notSynchronized, findClass_of_methodNamed B.named, (name_of_methodNamed B.named B.method).1, hT, by omega, by omega, (fun _ h => by cases h), hR, am_L.entry vs hc hl⟩
theorem am_M.post {g : am_G} {y : am_N} {desc : String} {d lo : Nat} {vs : List Value} {S : am_S} {post post' : Option Value → am_S → Prop} (hp : ∀ v S', post v S' → post' v S') (h : am_M g y desc d lo vs S post) : am_M g y desc d lo vs S post' := by
  obtain ⟨v, S', h1, h2, h3, h4⟩ := h
  exact ⟨v, S', h1, h2, h3, hp v S' h4⟩
section AML
variable {g : am_G} {y : am_N} {d lo : Nat} {post post' : Option Value → am_S → Prop} {pc pc1 : Nat} {L L1 : List (Option Value)} {st st1 : List Value} {S S1 : am_S}
theorem am_post (hp : ∀ v S', post v S' → post' v S') (h : am_W g y d lo post pc L st S) : am_W g y d lo post' pc L st S := by
  obtain ⟨v, S', h1, h2, h3, h4⟩ := h
  exact ⟨v, S', h1, h2, h3, hp v S' h4⟩
/-- a row that makes nothing -/
theorem am_lift (e : S1.2 = S.2) (f : ∀ k n v S', am_V g y d lo k n v S' pc1 L1 st1 S1 → am_V g y d lo k n v S' pc L st S) (h : am_W g y d lo post pc1 L1 st1 S1) : am_W g y d lo post pc L st S := by
  obtain ⟨v, S', h1, h2, h3, h4⟩ := h
  rw [e] at h1 h2 h3
  exact ⟨v, S', h1, h2, f _ _ _ _ h3, h4⟩
/-- a row that makes a cell of z slots -/
theorem am_liftN {z : Nat} (e1 : S1.2.1 = S.2.1 + 1) (e2 : S1.2.2 = S.2.2 + z) (f : ∀ k n v S', am_V g y d lo k n v S' pc1 L1 st1 S1 → am_V g y d lo (k + 1) (n + z) v S' pc L st S) (h : am_W g y d lo post pc1 L1 st1 S1) : am_W g y d lo post pc L st S := by
  obtain ⟨v, S', h1, h2, h3, h4⟩ := h
  have h5 := f _ _ _ _ h3
  have a1 : S'.2.1 - S1.2.1 + 1 = S'.2.1 - S.2.1 := by omega
  have a2 : S'.2.2 - S1.2.2 + z = S'.2.2 - S.2.2 := by omega
  rw [a1, a2] at h5
  exact ⟨v, S', by omega, by omega, h5, h4⟩
/-- the end -/
theorem am_end {v : Option Value} (h : am_V g y d lo 0 0 v S pc L st S) (hp : post v S) : am_W g y d lo post pc L st S := by
  refine ⟨v, S, Nat.le_refl _, Nat.le_refl _, ?_, hp⟩
  rw [Nat.sub_self, Nat.sub_self]
  exact h
/-- what is forgotten of the locals -/
theorem am_drop (hl : L1.length = L.length) (hL : ∀ (i : Nat) (v : Value), L1[i]? = some (some v) → L[i]? = some (some v)) (h : am_W g y d lo post pc L1 st S) : am_W g y d lo post pc L st S := by
  refine am_lift rfl (fun k n v S' h => ?_) h
  intro p e s m args below meth c H locs cells slots mc ms ls Y
  obtain ⟨y1, y2, y3, y4, y5, y6, y7, y8, y9, y10, y11, y12, z1, z2, z3, z4⟩ := Y
  exact h p e s m args below meth c H locs cells slots mc ms ls ⟨y1, y2, y3, y4, y5, y6, y7, y8, y9, y10, y11, y12, z1, z2, by rw [hl]; exact z3, fun i v hi => z4 i v (hL i v hi)⟩
/-- a cell gets another tag -/
theorem am_retag {a t : Nat} {x : am_K} (t' : Nat) (ha : S.1 a = some (t, x)) (ht : t ≠ 0) (h : am_W g y d lo post pc L st (am_up S a t' x)) : am_W g y d lo post pc L st S := by
  refine am_lift (S1 := am_up S a t' x) rfl (fun k n v S' h => ?_) h
  intro p e s m args below meth c H locs cells slots mc ms ls Y
  obtain ⟨y1, y2, y3, y4, y5, y6, y7, y8, y9, y10, y11, y12, z⟩ := Y
  exact h p e s m args below meth c H locs cells slots mc ms ls ⟨y1, y2, y3, y4, y5, y6, y7, y8, y9, y10, y11, y12.tag t' ha ht, z⟩
end AML
/-- the instruction at a place, its length, and the place behind it -/
def am_D (c : ByteArray) (pc : Nat) (i : Instr) (len pc1 : Nat) : Prop := decode c pc = .ok (i, len) ∧ pc + len = pc1
section AMR
variable {g : am_G} {y : am_N} {d lo : Nat} {post : Option Value → am_S → Prop} {pc pc1 : Nat} {L L1 : List (Option Value)} {st : List Value} {S : am_S}
theorem am_iconst {z : Int} {v : Int32} (hd : am_D y.2.2.1 pc (.iconst z) 1 pc1) (hv : Int32.ofInt z = v) (h : am_W g y d lo post pc1 L (.int v :: st) S) : am_W g y d lo post pc L (st) S := by
  obtain ⟨hd, rfl⟩ := hd
  refine am_lift rfl (fun k n rv RS h => ?_) h
  intro p e s m args below meth c H locs cells slots mc ms ls Y
  exact lv_iconst Y.1 Y.2.1 hd hv (h p e s m args below meth c H locs cells slots mc ms ls Y)
theorem am_bipush {z : Int} {v : Int32} (hd : am_D y.2.2.1 pc (.bipush z) 2 pc1) (hv : (Int8.ofInt z).toInt32 = v) (h : am_W g y d lo post pc1 L (.int v :: st) S) : am_W g y d lo post pc L (st) S := by
  obtain ⟨hd, rfl⟩ := hd
  refine am_lift rfl (fun k n rv RS h => ?_) h
  intro p e s m args below meth c H locs cells slots mc ms ls Y
  exact lv_bipush Y.1 Y.2.1 hd hv (h p e s m args below meth c H locs cells slots mc ms ls Y)
theorem am_sipush {z : Int} {v : Int32} (hd : am_D y.2.2.1 pc (.sipush z) 3 pc1) (hv : (Int16.ofInt z).toInt32 = v) (h : am_W g y d lo post pc1 L (.int v :: st) S) : am_W g y d lo post pc L (st) S := by
  obtain ⟨hd, rfl⟩ := hd
  refine am_lift rfl (fun k n rv RS h => ?_) h
  intro p e s m args below meth c H locs cells slots mc ms ls Y
  exact lv_sipush Y.1 Y.2.1 hd hv (h p e s m args below meth c H locs cells slots mc ms ls Y)
theorem am_null (hd : am_D y.2.2.1 pc (.aconst_null) 1 pc1) (h : am_W g y d lo post pc1 L (.null :: st) S) : am_W g y d lo post pc L (st) S := by
  obtain ⟨hd, rfl⟩ := hd
  refine am_lift rfl (fun k n rv RS h => ?_) h
  intro p e s m args below meth c H locs cells slots mc ms ls Y
  exact lv_null Y.1 Y.2.1 hd (h p e s m args below meth c H locs cells slots mc ms ls Y)
theorem am_iload_n {j : Fin 4} {x : Int32} (hd : am_D y.2.2.1 pc (.iload_n j) 1 pc1) (hl : L[(j : Nat)]? = some (some (.int x))) (h : am_W g y d lo post pc1 L (.int x :: st) S) : am_W g y d lo post pc L st S := by
  obtain ⟨hd, rfl⟩ := hd
  refine am_lift rfl (fun k n rv RS h => ?_) h
  intro p e s m args below meth c H locs cells slots mc ms ls Y
  exact lv_iload_n Y.1 Y.2.1 hd rfl (Y.2.2.2.2.2.2.2.2.2.2.2.2.2.2.2 _ _ hl).1 (h p e s m args below meth c H locs cells slots mc ms ls Y)
theorem am_iload {j : Nat} {x : Int32} (hd : am_D y.2.2.1 pc (.iload j) 2 pc1) (hl : L[j]? = some (some (.int x))) (h : am_W g y d lo post pc1 L (.int x :: st) S) : am_W g y d lo post pc L st S := by
  obtain ⟨hd, rfl⟩ := hd
  refine am_lift rfl (fun k n rv RS h => ?_) h
  intro p e s m args below meth c H locs cells slots mc ms ls Y
  exact lv_iload Y.1 Y.2.1 hd (Y.2.2.2.2.2.2.2.2.2.2.2.2.2.2.2 _ _ hl).1 (h p e s m args below meth c H locs cells slots mc ms ls Y)
theorem am_aload_n {j : Fin 4} {v : Value} (hd : am_D y.2.2.1 pc (.aload_n j) 1 pc1) (hl : L[(j : Nat)]? = some (some v)) (hv : am_rv v) (h : am_W g y d lo post pc1 L (v :: st) S) : am_W g y d lo post pc L st S := by
  obtain ⟨hd, rfl⟩ := hd
  refine am_lift rfl (fun k n rv RS h => ?_) h
  intro p e s m args below meth c H locs cells slots mc ms ls Y
  rcases hv with rfl | ⟨a, rfl⟩
  · exact lv_aload_nN Y.1 Y.2.1 hd rfl (Y.2.2.2.2.2.2.2.2.2.2.2.2.2.2.2 _ _ hl).1 (h p e s m args below meth c H locs cells slots mc ms ls Y)
  · exact lv_aload_n Y.1 Y.2.1 hd rfl (Y.2.2.2.2.2.2.2.2.2.2.2.2.2.2.2 _ _ hl).1 (h p e s m args below meth c H locs cells slots mc ms ls Y)
theorem am_aload {j : Nat} {v : Value} (hd : am_D y.2.2.1 pc (.aload j) 2 pc1) (hl : L[j]? = some (some v)) (hv : am_rv v) (h : am_W g y d lo post pc1 L (v :: st) S) : am_W g y d lo post pc L st S := by
  obtain ⟨hd, rfl⟩ := hd
  refine am_lift rfl (fun k n rv RS h => ?_) h
  intro p e s m args below meth c H locs cells slots mc ms ls Y
  rcases hv with rfl | ⟨a, rfl⟩
  · exact lv_aloadN Y.1 Y.2.1 hd (Y.2.2.2.2.2.2.2.2.2.2.2.2.2.2.2 _ _ hl).1 (h p e s m args below meth c H locs cells slots mc ms ls Y)
  · exact lv_aload Y.1 Y.2.1 hd (Y.2.2.2.2.2.2.2.2.2.2.2.2.2.2.2 _ _ hl).1 (h p e s m args below meth c H locs cells slots mc ms ls Y)
theorem am_istore_n {j : Fin 4} {x : Int32} (hd : am_D y.2.2.1 pc (.istore_n j) 1 pc1) (hj : (j : Nat) < y.2.2.2.1) (hL : L.set (j : Nat) (some (.int x)) = L1) (h : am_W g y d lo post pc1 L1 st S) : am_W g y d lo post pc L (.int x :: st) S := by
  obtain ⟨hd, rfl⟩ := hd
  subst hL
  refine am_lift rfl (fun k n rv RS h => ?_) h
  intro p e s m args below meth c H locs cells slots mc ms ls Y
  refine lv_istore_n Y.1 Y.2.1 hd rfl Y.2.2.2.2.2.2.2.2.2.2.2.2.has hj rfl (fun ls' h' => ?_)
  exact h p e s m args below meth c H locs cells slots mc ms ls' ⟨Y.1, Y.2.1, Y.2.2.1, Y.2.2.2.1, Y.2.2.2.2.1, Y.2.2.2.2.2.1, Y.2.2.2.2.2.2.1, Y.2.2.2.2.2.2.2.1, Y.2.2.2.2.2.2.2.2.1, Y.2.2.2.2.2.2.2.2.2.1, Y.2.2.2.2.2.2.2.2.2.2.1, Y.2.2.2.2.2.2.2.2.2.2.2.1, (Y.2.2.2.2.2.2.2.2.2.2.2.2.st hj rfl h')⟩
theorem am_istore {j : Nat} {x : Int32} (hd : am_D y.2.2.1 pc (.istore j) 2 pc1) (hj : j < y.2.2.2.1) (hL : L.set j (some (.int x)) = L1) (h : am_W g y d lo post pc1 L1 st S) : am_W g y d lo post pc L (.int x :: st) S := by
  obtain ⟨hd, rfl⟩ := hd
  subst hL
  refine am_lift rfl (fun k n rv RS h => ?_) h
  intro p e s m args below meth c H locs cells slots mc ms ls Y
  refine lv_istore Y.1 Y.2.1 hd Y.2.2.2.2.2.2.2.2.2.2.2.2.has hj rfl (fun ls' h' => ?_)
  exact h p e s m args below meth c H locs cells slots mc ms ls' ⟨Y.1, Y.2.1, Y.2.2.1, Y.2.2.2.1, Y.2.2.2.2.1, Y.2.2.2.2.2.1, Y.2.2.2.2.2.2.1, Y.2.2.2.2.2.2.2.1, Y.2.2.2.2.2.2.2.2.1, Y.2.2.2.2.2.2.2.2.2.1, Y.2.2.2.2.2.2.2.2.2.2.1, Y.2.2.2.2.2.2.2.2.2.2.2.1, (Y.2.2.2.2.2.2.2.2.2.2.2.2.st hj rfl h')⟩
theorem am_astore_n {j : Fin 4} {v : Value} (hd : am_D y.2.2.1 pc (.astore_n j) 1 pc1) (hj : (j : Nat) < y.2.2.2.1) (hv : am_rv v) (hL : L.set (j : Nat) (some v) = L1) (h : am_W g y d lo post pc1 L1 st S) : am_W g y d lo post pc L (v :: st) S := by
  obtain ⟨hd, rfl⟩ := hd
  subst hL
  refine am_lift rfl (fun k n rv RS h => ?_) h
  intro p e s m args below meth c H locs cells slots mc ms ls Y
  rcases hv with rfl | ⟨a, rfl⟩
  · refine lv_astore_nN Y.1 Y.2.1 hd rfl Y.2.2.2.2.2.2.2.2.2.2.2.2.has hj rfl (fun ls' h' => ?_)
    exact h p e s m args below meth c H locs cells slots mc ms ls' ⟨Y.1, Y.2.1, Y.2.2.1, Y.2.2.2.1, Y.2.2.2.2.1, Y.2.2.2.2.2.1, Y.2.2.2.2.2.2.1, Y.2.2.2.2.2.2.2.1, Y.2.2.2.2.2.2.2.2.1, Y.2.2.2.2.2.2.2.2.2.1, Y.2.2.2.2.2.2.2.2.2.2.1, Y.2.2.2.2.2.2.2.2.2.2.2.1, (Y.2.2.2.2.2.2.2.2.2.2.2.2.st hj rfl h')⟩
  · refine lv_astore_n Y.1 Y.2.1 hd rfl Y.2.2.2.2.2.2.2.2.2.2.2.2.has hj rfl (fun ls' h' => ?_)
    exact h p e s m args below meth c H locs cells slots mc ms ls' ⟨Y.1, Y.2.1, Y.2.2.1, Y.2.2.2.1, Y.2.2.2.2.1, Y.2.2.2.2.2.1, Y.2.2.2.2.2.2.1, Y.2.2.2.2.2.2.2.1, Y.2.2.2.2.2.2.2.2.1, Y.2.2.2.2.2.2.2.2.2.1, Y.2.2.2.2.2.2.2.2.2.2.1, Y.2.2.2.2.2.2.2.2.2.2.2.1, (Y.2.2.2.2.2.2.2.2.2.2.2.2.st hj rfl h')⟩
theorem am_astore {j : Nat} {v : Value} (hd : am_D y.2.2.1 pc (.astore j) 2 pc1) (hj : j < y.2.2.2.1) (hv : am_rv v) (hL : L.set j (some v) = L1) (h : am_W g y d lo post pc1 L1 st S) : am_W g y d lo post pc L (v :: st) S := by
  obtain ⟨hd, rfl⟩ := hd
  subst hL
  refine am_lift rfl (fun k n rv RS h => ?_) h
  intro p e s m args below meth c H locs cells slots mc ms ls Y
  rcases hv with rfl | ⟨a, rfl⟩
  · refine lv_astoreN Y.1 Y.2.1 hd Y.2.2.2.2.2.2.2.2.2.2.2.2.has hj rfl (fun ls' h' => ?_)
    exact h p e s m args below meth c H locs cells slots mc ms ls' ⟨Y.1, Y.2.1, Y.2.2.1, Y.2.2.2.1, Y.2.2.2.2.1, Y.2.2.2.2.2.1, Y.2.2.2.2.2.2.1, Y.2.2.2.2.2.2.2.1, Y.2.2.2.2.2.2.2.2.1, Y.2.2.2.2.2.2.2.2.2.1, Y.2.2.2.2.2.2.2.2.2.2.1, Y.2.2.2.2.2.2.2.2.2.2.2.1, (Y.2.2.2.2.2.2.2.2.2.2.2.2.st hj rfl h')⟩
  · refine lv_astore Y.1 Y.2.1 hd Y.2.2.2.2.2.2.2.2.2.2.2.2.has hj rfl (fun ls' h' => ?_)
    exact h p e s m args below meth c H locs cells slots mc ms ls' ⟨Y.1, Y.2.1, Y.2.2.1, Y.2.2.2.1, Y.2.2.2.2.1, Y.2.2.2.2.2.1, Y.2.2.2.2.2.2.1, Y.2.2.2.2.2.2.2.1, Y.2.2.2.2.2.2.2.2.1, Y.2.2.2.2.2.2.2.2.2.1, Y.2.2.2.2.2.2.2.2.2.2.1, Y.2.2.2.2.2.2.2.2.2.2.2.1, (Y.2.2.2.2.2.2.2.2.2.2.2.2.st hj rfl h')⟩
theorem am_iinc {j : Nat} {z : Int} {x v : Int32} (hd : am_D y.2.2.1 pc (.iinc j z) 3 pc1) (hl : L[j]? = some (some (.int x))) (hv : x + Int32.ofInt z = v) (hj : j < y.2.2.2.1) (hL : L.set j (some (.int v)) = L1) (h : am_W g y d lo post pc1 L1 st S) : am_W g y d lo post pc L st S := by
  obtain ⟨hd, rfl⟩ := hd
  subst hL
  refine am_lift rfl (fun k n rv RS h => ?_) h
  intro p e s m args below meth c H locs cells slots mc ms ls Y
  obtain ⟨i, hi⟩ := List.getElem?_of_mem (am_al_mem.mpr hl)
  refine lv_iinc Y.1 Y.2.1 hd Y.2.2.2.2.2.2.2.2.2.2.2.2.has hi hv hj rfl (fun ls' h' => ?_)
  exact h p e s m args below meth c H locs cells slots mc ms ls' ⟨Y.1, Y.2.1, Y.2.2.1, Y.2.2.2.1, Y.2.2.2.2.1, Y.2.2.2.2.2.1, Y.2.2.2.2.2.2.1, Y.2.2.2.2.2.2.2.1, Y.2.2.2.2.2.2.2.2.1, Y.2.2.2.2.2.2.2.2.2.1, Y.2.2.2.2.2.2.2.2.2.2.1, Y.2.2.2.2.2.2.2.2.2.2.2.1, (Y.2.2.2.2.2.2.2.2.2.2.2.2.st hj rfl h')⟩
theorem am_iadd {x z : Int32} (hd : am_D y.2.2.1 pc (.iadd) 1 pc1) (h : am_W g y d lo post pc1 L (.int (x + z) :: st) S) : am_W g y d lo post pc L (.int z :: .int x :: st) S := by
  obtain ⟨hd, rfl⟩ := hd
  refine am_lift rfl (fun k n rv RS h => ?_) h
  intro p e s m args below meth c H locs cells slots mc ms ls Y
  exact lv_iadd Y.1 Y.2.1 hd (h p e s m args below meth c H locs cells slots mc ms ls Y)
theorem am_isub {x z : Int32} (hd : am_D y.2.2.1 pc (.isub) 1 pc1) (h : am_W g y d lo post pc1 L (.int (x - z) :: st) S) : am_W g y d lo post pc L (.int z :: .int x :: st) S := by
  obtain ⟨hd, rfl⟩ := hd
  refine am_lift rfl (fun k n rv RS h => ?_) h
  intro p e s m args below meth c H locs cells slots mc ms ls Y
  exact lv_isub Y.1 Y.2.1 hd (h p e s m args below meth c H locs cells slots mc ms ls Y)
theorem am_imul {x z : Int32} (hd : am_D y.2.2.1 pc (.imul) 1 pc1) (h : am_W g y d lo post pc1 L (.int (x * z) :: st) S) : am_W g y d lo post pc L (.int z :: .int x :: st) S := by
  obtain ⟨hd, rfl⟩ := hd
  refine am_lift rfl (fun k n rv RS h => ?_) h
  intro p e s m args below meth c H locs cells slots mc ms ls Y
  exact lv_imul Y.1 Y.2.1 hd (h p e s m args below meth c H locs cells slots mc ms ls Y)
theorem am_iand {x z : Int32} (hd : am_D y.2.2.1 pc (.iand) 1 pc1) (h : am_W g y d lo post pc1 L (.int (x &&& z) :: st) S) : am_W g y d lo post pc L (.int z :: .int x :: st) S := by
  obtain ⟨hd, rfl⟩ := hd
  refine am_lift rfl (fun k n rv RS h => ?_) h
  intro p e s m args below meth c H locs cells slots mc ms ls Y
  exact lv_iand Y.1 Y.2.1 hd (h p e s m args below meth c H locs cells slots mc ms ls Y)
theorem am_ior {x z : Int32} (hd : am_D y.2.2.1 pc (.ior) 1 pc1) (h : am_W g y d lo post pc1 L (.int (x ||| z) :: st) S) : am_W g y d lo post pc L (.int z :: .int x :: st) S := by
  obtain ⟨hd, rfl⟩ := hd
  refine am_lift rfl (fun k n rv RS h => ?_) h
  intro p e s m args below meth c H locs cells slots mc ms ls Y
  exact lv_ior Y.1 Y.2.1 hd (h p e s m args below meth c H locs cells slots mc ms ls Y)
theorem am_ixor {x z : Int32} (hd : am_D y.2.2.1 pc (.ixor) 1 pc1) (h : am_W g y d lo post pc1 L (.int (x ^^^ z) :: st) S) : am_W g y d lo post pc L (.int z :: .int x :: st) S := by
  obtain ⟨hd, rfl⟩ := hd
  refine am_lift rfl (fun k n rv RS h => ?_) h
  intro p e s m args below meth c H locs cells slots mc ms ls Y
  exact lv_ixor Y.1 Y.2.1 hd (h p e s m args below meth c H locs cells slots mc ms ls Y)
theorem am_ishl {x z : Int32} (hd : am_D y.2.2.1 pc (.ishl) 1 pc1) (h : am_W g y d lo post pc1 L (.int (x <<< (z &&& 31)) :: st) S) : am_W g y d lo post pc L (.int z :: .int x :: st) S := by
  obtain ⟨hd, rfl⟩ := hd
  refine am_lift rfl (fun k n rv RS h => ?_) h
  intro p e s m args below meth c H locs cells slots mc ms ls Y
  exact lv_ishl Y.1 Y.2.1 hd (h p e s m args below meth c H locs cells slots mc ms ls Y)
theorem am_ishr {x z : Int32} (hd : am_D y.2.2.1 pc (.ishr) 1 pc1) (h : am_W g y d lo post pc1 L (.int (x >>> (z &&& 31)) :: st) S) : am_W g y d lo post pc L (.int z :: .int x :: st) S := by
  obtain ⟨hd, rfl⟩ := hd
  refine am_lift rfl (fun k n rv RS h => ?_) h
  intro p e s m args below meth c H locs cells slots mc ms ls Y
  exact lv_ishr Y.1 Y.2.1 hd (h p e s m args below meth c H locs cells slots mc ms ls Y)
theorem am_idiv {x z : Int32} (hd : am_D y.2.2.1 pc (.idiv) 1 pc1) (hz : ¬ z = 0) (h : am_W g y d lo post pc1 L (.int (x / z) :: st) S) : am_W g y d lo post pc L (.int z :: .int x :: st) S := by
  obtain ⟨hd, rfl⟩ := hd
  refine am_lift rfl (fun k n rv RS h => ?_) h
  intro p e s m args below meth c H locs cells slots mc ms ls Y
  exact lv_idiv Y.1 Y.2.1 hd hz (h p e s m args below meth c H locs cells slots mc ms ls Y)
theorem am_irem {x z : Int32} (hd : am_D y.2.2.1 pc (.irem) 1 pc1) (hz : ¬ z = 0) (h : am_W g y d lo post pc1 L (.int (x - x / z * z) :: st) S) : am_W g y d lo post pc L (.int z :: .int x :: st) S := by
  obtain ⟨hd, rfl⟩ := hd
  refine am_lift rfl (fun k n rv RS h => ?_) h
  intro p e s m args below meth c H locs cells slots mc ms ls Y
  exact lv_irem Y.1 Y.2.1 hd hz (h p e s m args below meth c H locs cells slots mc ms ls Y)
theorem am_iushr {x z v : Int32} (hd : am_D y.2.2.1 pc (.iushr) 1 pc1) (hv : (x.toUInt32 >>> (z.toUInt32 &&& Int32.toUInt32 31)).toInt32 = v) (h : am_W g y d lo post pc1 L (.int v :: st) S) : am_W g y d lo post pc L (.int z :: .int x :: st) S := by
  obtain ⟨hd, rfl⟩ := hd
  refine am_lift rfl (fun k n rv RS h => ?_) h
  intro p e s m args below meth c H locs cells slots mc ms ls Y
  exact lv_iushr Y.1 Y.2.1 hd hv (h p e s m args below meth c H locs cells slots mc ms ls Y)
theorem am_ineg {x : Int32} (hd : am_D y.2.2.1 pc (.ineg) 1 pc1) (h : am_W g y d lo post pc1 L (.int (-x) :: st) S) : am_W g y d lo post pc L (.int x :: st) S := by
  obtain ⟨hd, rfl⟩ := hd
  refine am_lift rfl (fun k n rv RS h => ?_) h
  intro p e s m args below meth c H locs cells slots mc ms ls Y
  exact lv_ineg Y.1 Y.2.1 hd (h p e s m args below meth c H locs cells slots mc ms ls Y)
theorem am_dup {v : Value} (hd : am_D y.2.2.1 pc (.dup) 1 pc1) (hv : v.category = 1) (h : am_W g y d lo post pc1 L (v :: v :: st) S) : am_W g y d lo post pc L (v :: st) S := by
  obtain ⟨hd, rfl⟩ := hd
  refine am_lift rfl (fun k n rv RS h => ?_) h
  intro p e s m args below meth c H locs cells slots mc ms ls Y
  exact lv_dup Y.1 Y.2.1 hd hv (h p e s m args below meth c H locs cells slots mc ms ls Y)
theorem am_pop {v : Value} (hd : am_D y.2.2.1 pc (.pop) 1 pc1) (hv : v.category = 1) (h : am_W g y d lo post pc1 L (st) S) : am_W g y d lo post pc L (v :: st) S := by
  obtain ⟨hd, rfl⟩ := hd
  refine am_lift rfl (fun k n rv RS h => ?_) h
  intro p e s m args below meth c H locs cells slots mc ms ls Y
  exact lv_pop Y.1 Y.2.1 hd hv (h p e s m args below meth c H locs cells slots mc ms ls Y)
theorem am_dup_x1 {v u : Value} (hd : am_D y.2.2.1 pc (.dup_x1) 1 pc1) (hv : v.category = 1) (hu : u.category = 1) (h : am_W g y d lo post pc1 L (v :: u :: v :: st) S) : am_W g y d lo post pc L (v :: u :: st) S := by
  obtain ⟨hd, rfl⟩ := hd
  refine am_lift rfl (fun k n rv RS h => ?_) h
  intro p e s m args below meth c H locs cells slots mc ms ls Y
  exact lv_dup_x1 Y.1 Y.2.1 hd hv hu (h p e s m args below meth c H locs cells slots mc ms ls Y)
theorem am_dup_x2 {v u t : Value} (hd : am_D y.2.2.1 pc (.dup_x2) 1 pc1) (hv : v.category = 1) (hu : u.category = 1) (ht : t.category = 1) (h : am_W g y d lo post pc1 L (v :: u :: t :: v :: st) S) : am_W g y d lo post pc L (v :: u :: t :: st) S := by
  obtain ⟨hd, rfl⟩ := hd
  refine am_lift rfl (fun k n rv RS h => ?_) h
  intro p e s m args below meth c H locs cells slots mc ms ls Y
  exact lv_dup_x2 Y.1 Y.2.1 hd hv hu ht (h p e s m args below meth c H locs cells slots mc ms ls Y)
theorem am_dup2 {v u : Value} (hd : am_D y.2.2.1 pc (.dup2) 1 pc1) (hv : v.category = 1) (hu : u.category = 1) (h : am_W g y d lo post pc1 L (v :: u :: v :: u :: st) S) : am_W g y d lo post pc L (v :: u :: st) S := by
  obtain ⟨hd, rfl⟩ := hd
  refine am_lift rfl (fun k n rv RS h => ?_) h
  intro p e s m args below meth c H locs cells slots mc ms ls Y
  exact lv_dup2_11 Y.1 Y.2.1 hd hv hu (h p e s m args below meth c H locs cells slots mc ms ls Y)
theorem am_if_eq {x : Int32} {off : Int} {tgt : Nat} (hd : am_D y.2.2.1 pc (.ifCond .eq off) 3 pc1) (ht : (pc : Int) + off = (tgt : Int)) (kt : x = 0 → am_W g y d lo post tgt L st S) (kf : ¬ x = 0 → am_W g y d lo post pc1 L st S) : am_W g y d lo post pc L (.int x :: st) S := by
  obtain ⟨hd, rfl⟩ := hd
  by_cases q : x = 0
  · refine am_lift rfl (fun k n rv RS h => ?_) (kt q)
    intro p e s m args below meth c H locs cells slots mc ms ls Y
    exact lv_if_eq Y.1 Y.2.1 hd ht (fun _ => h p e s m args below meth c H locs cells slots mc ms ls Y) (fun z => absurd q z)
  · refine am_lift rfl (fun k n rv RS h => ?_) (kf q)
    intro p e s m args below meth c H locs cells slots mc ms ls Y
    exact lv_if_eq Y.1 Y.2.1 hd ht (fun z => absurd z q) (fun _ => h p e s m args below meth c H locs cells slots mc ms ls Y)
theorem am_icmp_eq {x z : Int32} {off : Int} {tgt : Nat} (hd : am_D y.2.2.1 pc (.if_icmp .eq off) 3 pc1) (ht : (pc : Int) + off = (tgt : Int)) (kt : x = z → am_W g y d lo post tgt L st S) (kf : ¬ x = z → am_W g y d lo post pc1 L st S) : am_W g y d lo post pc L (.int z :: .int x :: st) S := by
  obtain ⟨hd, rfl⟩ := hd
  by_cases q : x = z
  · refine am_lift rfl (fun k n rv RS h => ?_) (kt q)
    intro p e s m args below meth c H locs cells slots mc ms ls Y
    exact lv_icmp_eq Y.1 Y.2.1 hd ht (fun _ => h p e s m args below meth c H locs cells slots mc ms ls Y) (fun z => absurd q z)
  · refine am_lift rfl (fun k n rv RS h => ?_) (kf q)
    intro p e s m args below meth c H locs cells slots mc ms ls Y
    exact lv_icmp_eq Y.1 Y.2.1 hd ht (fun z => absurd z q) (fun _ => h p e s m args below meth c H locs cells slots mc ms ls Y)
theorem am_if_ne {x : Int32} {off : Int} {tgt : Nat} (hd : am_D y.2.2.1 pc (.ifCond .ne off) 3 pc1) (ht : (pc : Int) + off = (tgt : Int)) (kt : ¬ x = 0 → am_W g y d lo post tgt L st S) (kf : x = 0 → am_W g y d lo post pc1 L st S) : am_W g y d lo post pc L (.int x :: st) S := by
  obtain ⟨hd, rfl⟩ := hd
  by_cases q : ¬ x = 0
  · refine am_lift rfl (fun k n rv RS h => ?_) (kt q)
    intro p e s m args below meth c H locs cells slots mc ms ls Y
    exact lv_if_ne Y.1 Y.2.1 hd ht (fun _ => h p e s m args below meth c H locs cells slots mc ms ls Y) (fun z => absurd z q)
  · refine am_lift rfl (fun k n rv RS h => ?_) (kf (Classical.not_not.mp q))
    intro p e s m args below meth c H locs cells slots mc ms ls Y
    exact lv_if_ne Y.1 Y.2.1 hd ht (fun z => absurd z q) (fun _ => h p e s m args below meth c H locs cells slots mc ms ls Y)
theorem am_icmp_ne {x z : Int32} {off : Int} {tgt : Nat} (hd : am_D y.2.2.1 pc (.if_icmp .ne off) 3 pc1) (ht : (pc : Int) + off = (tgt : Int)) (kt : ¬ x = z → am_W g y d lo post tgt L st S) (kf : x = z → am_W g y d lo post pc1 L st S) : am_W g y d lo post pc L (.int z :: .int x :: st) S := by
  obtain ⟨hd, rfl⟩ := hd
  by_cases q : ¬ x = z
  · refine am_lift rfl (fun k n rv RS h => ?_) (kt q)
    intro p e s m args below meth c H locs cells slots mc ms ls Y
    exact lv_icmp_ne Y.1 Y.2.1 hd ht (fun _ => h p e s m args below meth c H locs cells slots mc ms ls Y) (fun z => absurd z q)
  · refine am_lift rfl (fun k n rv RS h => ?_) (kf (Classical.not_not.mp q))
    intro p e s m args below meth c H locs cells slots mc ms ls Y
    exact lv_icmp_ne Y.1 Y.2.1 hd ht (fun z => absurd z q) (fun _ => h p e s m args below meth c H locs cells slots mc ms ls Y)
theorem am_if_lt {x : Int32} {off : Int} {tgt : Nat} (hd : am_D y.2.2.1 pc (.ifCond .lt off) 3 pc1) (ht : (pc : Int) + off = (tgt : Int)) (kt : x < 0 → am_W g y d lo post tgt L st S) (kf : ¬ x < 0 → am_W g y d lo post pc1 L st S) : am_W g y d lo post pc L (.int x :: st) S := by
  obtain ⟨hd, rfl⟩ := hd
  by_cases q : x < 0
  · refine am_lift rfl (fun k n rv RS h => ?_) (kt q)
    intro p e s m args below meth c H locs cells slots mc ms ls Y
    exact lv_if_lt Y.1 Y.2.1 hd ht (fun _ => h p e s m args below meth c H locs cells slots mc ms ls Y) (fun z => absurd q z)
  · refine am_lift rfl (fun k n rv RS h => ?_) (kf q)
    intro p e s m args below meth c H locs cells slots mc ms ls Y
    exact lv_if_lt Y.1 Y.2.1 hd ht (fun z => absurd z q) (fun _ => h p e s m args below meth c H locs cells slots mc ms ls Y)
theorem am_icmp_lt {x z : Int32} {off : Int} {tgt : Nat} (hd : am_D y.2.2.1 pc (.if_icmp .lt off) 3 pc1) (ht : (pc : Int) + off = (tgt : Int)) (kt : x < z → am_W g y d lo post tgt L st S) (kf : ¬ x < z → am_W g y d lo post pc1 L st S) : am_W g y d lo post pc L (.int z :: .int x :: st) S := by
  obtain ⟨hd, rfl⟩ := hd
  by_cases q : x < z
  · refine am_lift rfl (fun k n rv RS h => ?_) (kt q)
    intro p e s m args below meth c H locs cells slots mc ms ls Y
    exact lv_icmp_lt Y.1 Y.2.1 hd ht (fun _ => h p e s m args below meth c H locs cells slots mc ms ls Y) (fun z => absurd q z)
  · refine am_lift rfl (fun k n rv RS h => ?_) (kf q)
    intro p e s m args below meth c H locs cells slots mc ms ls Y
    exact lv_icmp_lt Y.1 Y.2.1 hd ht (fun z => absurd z q) (fun _ => h p e s m args below meth c H locs cells slots mc ms ls Y)
theorem am_if_ge {x : Int32} {off : Int} {tgt : Nat} (hd : am_D y.2.2.1 pc (.ifCond .ge off) 3 pc1) (ht : (pc : Int) + off = (tgt : Int)) (kt : 0 ≤ x → am_W g y d lo post tgt L st S) (kf : ¬ 0 ≤ x → am_W g y d lo post pc1 L st S) : am_W g y d lo post pc L (.int x :: st) S := by
  obtain ⟨hd, rfl⟩ := hd
  by_cases q : 0 ≤ x
  · refine am_lift rfl (fun k n rv RS h => ?_) (kt q)
    intro p e s m args below meth c H locs cells slots mc ms ls Y
    exact lv_if_ge Y.1 Y.2.1 hd ht (fun _ => h p e s m args below meth c H locs cells slots mc ms ls Y) (fun z => absurd q z)
  · refine am_lift rfl (fun k n rv RS h => ?_) (kf q)
    intro p e s m args below meth c H locs cells slots mc ms ls Y
    exact lv_if_ge Y.1 Y.2.1 hd ht (fun z => absurd z q) (fun _ => h p e s m args below meth c H locs cells slots mc ms ls Y)
theorem am_icmp_ge {x z : Int32} {off : Int} {tgt : Nat} (hd : am_D y.2.2.1 pc (.if_icmp .ge off) 3 pc1) (ht : (pc : Int) + off = (tgt : Int)) (kt : z ≤ x → am_W g y d lo post tgt L st S) (kf : ¬ z ≤ x → am_W g y d lo post pc1 L st S) : am_W g y d lo post pc L (.int z :: .int x :: st) S := by
  obtain ⟨hd, rfl⟩ := hd
  by_cases q : z ≤ x
  · refine am_lift rfl (fun k n rv RS h => ?_) (kt q)
    intro p e s m args below meth c H locs cells slots mc ms ls Y
    exact lv_icmp_ge Y.1 Y.2.1 hd ht (fun _ => h p e s m args below meth c H locs cells slots mc ms ls Y) (fun z => absurd q z)
  · refine am_lift rfl (fun k n rv RS h => ?_) (kf q)
    intro p e s m args below meth c H locs cells slots mc ms ls Y
    exact lv_icmp_ge Y.1 Y.2.1 hd ht (fun z => absurd z q) (fun _ => h p e s m args below meth c H locs cells slots mc ms ls Y)
theorem am_if_gt {x : Int32} {off : Int} {tgt : Nat} (hd : am_D y.2.2.1 pc (.ifCond .gt off) 3 pc1) (ht : (pc : Int) + off = (tgt : Int)) (kt : 0 < x → am_W g y d lo post tgt L st S) (kf : ¬ 0 < x → am_W g y d lo post pc1 L st S) : am_W g y d lo post pc L (.int x :: st) S := by
  obtain ⟨hd, rfl⟩ := hd
  by_cases q : 0 < x
  · refine am_lift rfl (fun k n rv RS h => ?_) (kt q)
    intro p e s m args below meth c H locs cells slots mc ms ls Y
    exact lv_if_gt Y.1 Y.2.1 hd ht (fun _ => h p e s m args below meth c H locs cells slots mc ms ls Y) (fun z => absurd q z)
  · refine am_lift rfl (fun k n rv RS h => ?_) (kf q)
    intro p e s m args below meth c H locs cells slots mc ms ls Y
    exact lv_if_gt Y.1 Y.2.1 hd ht (fun z => absurd z q) (fun _ => h p e s m args below meth c H locs cells slots mc ms ls Y)
theorem am_icmp_gt {x z : Int32} {off : Int} {tgt : Nat} (hd : am_D y.2.2.1 pc (.if_icmp .gt off) 3 pc1) (ht : (pc : Int) + off = (tgt : Int)) (kt : z < x → am_W g y d lo post tgt L st S) (kf : ¬ z < x → am_W g y d lo post pc1 L st S) : am_W g y d lo post pc L (.int z :: .int x :: st) S := by
  obtain ⟨hd, rfl⟩ := hd
  by_cases q : z < x
  · refine am_lift rfl (fun k n rv RS h => ?_) (kt q)
    intro p e s m args below meth c H locs cells slots mc ms ls Y
    exact lv_icmp_gt Y.1 Y.2.1 hd ht (fun _ => h p e s m args below meth c H locs cells slots mc ms ls Y) (fun z => absurd q z)
  · refine am_lift rfl (fun k n rv RS h => ?_) (kf q)
    intro p e s m args below meth c H locs cells slots mc ms ls Y
    exact lv_icmp_gt Y.1 Y.2.1 hd ht (fun z => absurd z q) (fun _ => h p e s m args below meth c H locs cells slots mc ms ls Y)
theorem am_if_le {x : Int32} {off : Int} {tgt : Nat} (hd : am_D y.2.2.1 pc (.ifCond .le off) 3 pc1) (ht : (pc : Int) + off = (tgt : Int)) (kt : x ≤ 0 → am_W g y d lo post tgt L st S) (kf : ¬ x ≤ 0 → am_W g y d lo post pc1 L st S) : am_W g y d lo post pc L (.int x :: st) S := by
  obtain ⟨hd, rfl⟩ := hd
  by_cases q : x ≤ 0
  · refine am_lift rfl (fun k n rv RS h => ?_) (kt q)
    intro p e s m args below meth c H locs cells slots mc ms ls Y
    exact lv_if_le Y.1 Y.2.1 hd ht (fun _ => h p e s m args below meth c H locs cells slots mc ms ls Y) (fun z => absurd q z)
  · refine am_lift rfl (fun k n rv RS h => ?_) (kf q)
    intro p e s m args below meth c H locs cells slots mc ms ls Y
    exact lv_if_le Y.1 Y.2.1 hd ht (fun z => absurd z q) (fun _ => h p e s m args below meth c H locs cells slots mc ms ls Y)
theorem am_icmp_le {x z : Int32} {off : Int} {tgt : Nat} (hd : am_D y.2.2.1 pc (.if_icmp .le off) 3 pc1) (ht : (pc : Int) + off = (tgt : Int)) (kt : x ≤ z → am_W g y d lo post tgt L st S) (kf : ¬ x ≤ z → am_W g y d lo post pc1 L st S) : am_W g y d lo post pc L (.int z :: .int x :: st) S := by
  obtain ⟨hd, rfl⟩ := hd
  by_cases q : x ≤ z
  · refine am_lift rfl (fun k n rv RS h => ?_) (kt q)
    intro p e s m args below meth c H locs cells slots mc ms ls Y
    exact lv_icmp_le Y.1 Y.2.1 hd ht (fun _ => h p e s m args below meth c H locs cells slots mc ms ls Y) (fun z => absurd q z)
  · refine am_lift rfl (fun k n rv RS h => ?_) (kf q)
    intro p e s m args below meth c H locs cells slots mc ms ls Y
    exact lv_icmp_le Y.1 Y.2.1 hd ht (fun z => absurd z q) (fun _ => h p e s m args below meth c H locs cells slots mc ms ls Y)
theorem am_acmp_eq {rx ry : Option Nat} {off : Int} {tgt : Nat} (hd : am_D y.2.2.1 pc (.if_acmp .eq off) 3 pc1) (ht : (pc : Int) + off = (tgt : Int)) (kt : rx = ry → am_W g y d lo post tgt L st S) (kf : ¬ rx = ry → am_W g y d lo post pc1 L st S) : am_W g y d lo post pc L (va_rf ry :: va_rf rx :: st) S := by
  obtain ⟨hd, rfl⟩ := hd
  by_cases q : rx = ry
  · refine am_lift rfl (fun k n rv RS h => ?_) (kt q)
    intro p e s m args below meth c H locs cells slots mc ms ls Y
    exact lv_acmp_eq Y.1 Y.2.1 hd ht (fun _ => h p e s m args below meth c H locs cells slots mc ms ls Y) (fun z => absurd q z)
  · refine am_lift rfl (fun k n rv RS h => ?_) (kf q)
    intro p e s m args below meth c H locs cells slots mc ms ls Y
    exact lv_acmp_eq Y.1 Y.2.1 hd ht (fun z => absurd z q) (fun _ => h p e s m args below meth c H locs cells slots mc ms ls Y)
theorem am_acmp_ne {rx ry : Option Nat} {off : Int} {tgt : Nat} (hd : am_D y.2.2.1 pc (.if_acmp .ne off) 3 pc1) (ht : (pc : Int) + off = (tgt : Int)) (kt : ¬ rx = ry → am_W g y d lo post tgt L st S) (kf : rx = ry → am_W g y d lo post pc1 L st S) : am_W g y d lo post pc L (va_rf ry :: va_rf rx :: st) S := by
  obtain ⟨hd, rfl⟩ := hd
  by_cases q : ¬ rx = ry
  · refine am_lift rfl (fun k n rv RS h => ?_) (kt q)
    intro p e s m args below meth c H locs cells slots mc ms ls Y
    exact lv_acmp_ne Y.1 Y.2.1 hd ht (fun _ => h p e s m args below meth c H locs cells slots mc ms ls Y) (fun z => absurd z q)
  · refine am_lift rfl (fun k n rv RS h => ?_) (kf (Classical.not_not.mp q))
    intro p e s m args below meth c H locs cells slots mc ms ls Y
    exact lv_acmp_ne Y.1 Y.2.1 hd ht (fun z => absurd z q) (fun _ => h p e s m args below meth c H locs cells slots mc ms ls Y)
theorem am_ifnonnull {a : Nat} {off : Int} {tgt : Nat} (hd : am_D y.2.2.1 pc (.ifnonnull off) 3 pc1) (ht : (pc : Int) + off = (tgt : Int)) (h : am_W g y d lo post tgt L st S) : am_W g y d lo post pc L (.ref a :: st) S := by
  obtain ⟨hd, rfl⟩ := hd
  refine am_lift rfl (fun k n rv RS h => ?_) h
  intro p e s m args below meth c H locs cells slots mc ms ls Y
  exact lv_ifnonnull Y.1 Y.2.1 hd ht (h p e s m args below meth c H locs cells slots mc ms ls Y)
theorem am_ifnonnullN {off : Int} (hd : am_D y.2.2.1 pc (.ifnonnull off) 3 pc1) (h : am_W g y d lo post pc1 L st S) : am_W g y d lo post pc L (.null :: st) S := by
  obtain ⟨hd, rfl⟩ := hd
  refine am_lift rfl (fun k n rv RS h => ?_) h
  intro p e s m args below meth c H locs cells slots mc ms ls Y
  exact lv_ifnonnullN Y.1 Y.2.1 hd (h p e s m args below meth c H locs cells slots mc ms ls Y)
theorem am_ifnull {a : Nat} {off : Int} (hd : am_D y.2.2.1 pc (.ifnull off) 3 pc1) (h : am_W g y d lo post pc1 L st S) : am_W g y d lo post pc L (.ref a :: st) S := by
  obtain ⟨hd, rfl⟩ := hd
  refine am_lift rfl (fun k n rv RS h => ?_) h
  intro p e s m args below meth c H locs cells slots mc ms ls Y
  exact lv_ifnull Y.1 Y.2.1 hd (h p e s m args below meth c H locs cells slots mc ms ls Y)
theorem am_ifnullN {off : Int} {tgt : Nat} (hd : am_D y.2.2.1 pc (.ifnull off) 3 pc1) (ht : (pc : Int) + off = (tgt : Int)) (h : am_W g y d lo post tgt L st S) : am_W g y d lo post pc L (.null :: st) S := by
  obtain ⟨hd, rfl⟩ := hd
  refine am_lift rfl (fun k n rv RS h => ?_) h
  intro p e s m args below meth c H locs cells slots mc ms ls Y
  exact lv_ifnullN Y.1 Y.2.1 hd ht (h p e s m args below meth c H locs cells slots mc ms ls Y)
theorem am_goto {off : Int} {tgt : Nat} (hd : am_D y.2.2.1 pc (.goto off) 3 pc1) (ht : (pc : Int) + off = (tgt : Int)) (h : am_W g y d lo post tgt L st S) : am_W g y d lo post pc L (st) S := by
  obtain ⟨hd, rfl⟩ := hd
  refine am_lift rfl (fun k n rv RS h => ?_) h
  intro p e s m args below meth c H locs cells slots mc ms ls Y
  exact lv_goto Y.1 Y.2.1 hd ht (h p e s m args below meth c H locs cells slots mc ms ls Y)
theorem am_lookup {dflt : Int} {ps : Array (Int × Int)} {len : Nat} {x : Int32} {off : Int} {tgt : Nat} (hd : am_D y.2.2.1 pc (.lookupswitch dflt ps) len pc1) (hp : (ps.toList.zip (ps.toList.drop 1)).all (fun (a, next) => a.1 < next.1) = true) (ho : Op.lookupswitch.offset ps.toList dflt x.toInt = off) (ht : (pc : Int) + off = (tgt : Int)) (h : am_W g y d lo post tgt L st S) : am_W g y d lo post pc L (.int x :: st) S := by
  obtain ⟨hd, rfl⟩ := hd
  refine am_lift rfl (fun k n rv RS h => ?_) h
  intro p e s m args below meth c H locs cells slots mc ms ls Y
  exact lv_lookup Y.1 Y.2.1 hd hp ho ht (h p e s m args below meth c H locs cells slots mc ms ls Y)
theorem am_tableOut {dflt tl th : Int} {offs : Array Int} {len : Nat} {x : Int32} {tgt : Nat} (hd : am_D y.2.2.1 pc (.tableswitch dflt tl th offs) len pc1) (hx : x.toInt < tl ∨ th < x.toInt) (ht : (pc : Int) + dflt = (tgt : Int)) (h : am_W g y d lo post tgt L st S) : am_W g y d lo post pc L (.int x :: st) S := by
  obtain ⟨hd, rfl⟩ := hd
  refine am_lift rfl (fun k n rv RS h => ?_) h
  intro p e s m args below meth c H locs cells slots mc ms ls Y
  exact lv_tableOut Y.1 Y.2.1 hd hx ht (h p e s m args below meth c H locs cells slots mc ms ls Y)
theorem am_tableIn {dflt tl th : Int} {offs : Array Int} {len : Nat} {x : Int32} {off : Int} {tgt : Nat} (hd : am_D y.2.2.1 pc (.tableswitch dflt tl th offs) len pc1) (h1 : ¬ x.toInt < tl) (h2 : ¬ th < x.toInt) (ho : offs[(x.toInt - tl).toNat]? = some off) (ht : (pc : Int) + off = (tgt : Int)) (h : am_W g y d lo post tgt L st S) : am_W g y d lo post pc L (.int x :: st) S := by
  obtain ⟨hd, rfl⟩ := hd
  refine am_lift rfl (fun k n rv RS h => ?_) h
  intro p e s m args below meth c H locs cells slots mc ms ls Y
  exact lv_tableIn Y.1 Y.2.1 hd h1 h2 ho ht (h p e s m args below meth c H locs cells slots mc ms ls Y)
theorem am_iaddN {a b : Nat} (hd : am_D y.2.2.1 pc (.iadd) 1 pc1) (h : am_W g y d lo post pc1 L (.int (nI (a + b)) :: st) S) : am_W g y d lo post pc L (.int (nI b) :: .int (nI a) :: st) S := am_iadd hd (by rw [nI_add]; exact h)
theorem am_imulN {a b : Nat} (hd : am_D y.2.2.1 pc (.imul) 1 pc1) (h : am_W g y d lo post pc1 L (.int (nI (a * b)) :: st) S) : am_W g y d lo post pc L (.int (nI b) :: .int (nI a) :: st) S := am_imul hd (by rw [pk_mul]; exact h)
theorem am_isubN {a b : Nat} (hd : am_D y.2.2.1 pc (.isub) 1 pc1) (hb : b ≤ a) (h : am_W g y d lo post pc1 L (.int (nI (a - b)) :: st) S) : am_W g y d lo post pc L (.int (nI b) :: .int (nI a) :: st) S := am_isub hd (by rw [pk_sub hb]; exact h)
theorem am_idivN {a b : Nat} (hd : am_D y.2.2.1 pc (.idiv) 1 pc1) (ha : a < 2 ^ 31) (h0 : 0 < b) (hb : b < 2 ^ 31) (h : am_W g y d lo post pc1 L (.int (nI (a / b)) :: st) S) : am_W g y d lo post pc L (.int (nI b) :: .int (nI a) :: st) S := am_idiv hd (nI_ne0 h0 hb) (by rw [pk_div ha h0 hb]; exact h)
theorem am_iremN {a b : Nat} (hd : am_D y.2.2.1 pc (.irem) 1 pc1) (ha : a < 2 ^ 31) (h0 : 0 < b) (hb : b < 2 ^ 31) (h : am_W g y d lo post pc1 L (.int (nI (a % b)) :: st) S) : am_W g y d lo post pc L (.int (nI b) :: .int (nI a) :: st) S := am_irem hd (nI_ne0 h0 hb) (by rw [pk_rem ha h0 hb]; exact h)
theorem am_iincN {j a b : Nat} {z : Int} (hd : am_D y.2.2.1 pc (.iinc j z) 3 pc1) (hl : L[j]? = some (some (.int (nI a)))) (hz : Int32.ofInt z = nI b) (hj : j < y.2.2.2.1) (hL : L.set j (some (.int (nI (a + b)))) = L1) (h : am_W g y d lo post pc1 L1 st S) : am_W g y d lo post pc L st S := am_iinc hd hl (by rw [hz, nI_add]) hj hL h
theorem am_icmp_eqN {a b : Nat} {off : Int} {tgt : Nat} (hd : am_D y.2.2.1 pc (.if_icmp .eq off) 3 pc1) (ht : (pc : Int) + off = (tgt : Int)) (ha : a < 2 ^ 31) (hb : b < 2 ^ 31) (kt : a = b → am_W g y d lo post tgt L st S) (kf : a ≠ b → am_W g y d lo post pc1 L st S) : am_W g y d lo post pc L (.int (nI b) :: .int (nI a) :: st) S := by
  have e := nI_eq ha hb
  refine am_icmp_eq hd ht (fun q => kt ?_) (fun q => kf ?_)
  · rw [e] at q; omega
  · rw [e] at q; omega
theorem am_if_eqN {a : Nat} {off : Int} {tgt : Nat} (hd : am_D y.2.2.1 pc (.ifCond .eq off) 3 pc1) (ht : (pc : Int) + off = (tgt : Int)) (ha : a < 2 ^ 31) (kt : a = 0 → am_W g y d lo post tgt L st S) (kf : a ≠ 0 → am_W g y d lo post pc1 L st S) : am_W g y d lo post pc L (.int (nI a) :: st) S := by
  have e := nI_eq ha (by decide : 0 < 2 ^ 31)
  rw [nI_0] at e
  refine am_if_eq hd ht (fun q => kt ?_) (fun q => kf ?_)
  · rw [e] at q; omega
  · rw [e] at q; omega
theorem am_icmp_neN {a b : Nat} {off : Int} {tgt : Nat} (hd : am_D y.2.2.1 pc (.if_icmp .ne off) 3 pc1) (ht : (pc : Int) + off = (tgt : Int)) (ha : a < 2 ^ 31) (hb : b < 2 ^ 31) (kt : a ≠ b → am_W g y d lo post tgt L st S) (kf : a = b → am_W g y d lo post pc1 L st S) : am_W g y d lo post pc L (.int (nI b) :: .int (nI a) :: st) S := by
  have e := nI_eq ha hb
  refine am_icmp_ne hd ht (fun q => kt ?_) (fun q => kf ?_)
  · rw [e] at q; omega
  · rw [e] at q; omega
theorem am_if_neN {a : Nat} {off : Int} {tgt : Nat} (hd : am_D y.2.2.1 pc (.ifCond .ne off) 3 pc1) (ht : (pc : Int) + off = (tgt : Int)) (ha : a < 2 ^ 31) (kt : a ≠ 0 → am_W g y d lo post tgt L st S) (kf : a = 0 → am_W g y d lo post pc1 L st S) : am_W g y d lo post pc L (.int (nI a) :: st) S := by
  have e := nI_eq ha (by decide : 0 < 2 ^ 31)
  rw [nI_0] at e
  refine am_if_ne hd ht (fun q => kt ?_) (fun q => kf ?_)
  · rw [e] at q; omega
  · rw [e] at q; omega
theorem am_icmp_ltN {a b : Nat} {off : Int} {tgt : Nat} (hd : am_D y.2.2.1 pc (.if_icmp .lt off) 3 pc1) (ht : (pc : Int) + off = (tgt : Int)) (ha : a < 2 ^ 31) (hb : b < 2 ^ 31) (kt : a < b → am_W g y d lo post tgt L st S) (kf : b ≤ a → am_W g y d lo post pc1 L st S) : am_W g y d lo post pc L (.int (nI b) :: .int (nI a) :: st) S := by
  have e := nI_ltI ha hb
  refine am_icmp_lt hd ht (fun q => kt ?_) (fun q => kf ?_)
  · rw [e] at q; omega
  · rw [e] at q; omega
theorem am_if_ltN {a : Nat} {off : Int} {tgt : Nat} (hd : am_D y.2.2.1 pc (.ifCond .lt off) 3 pc1) (ht : (pc : Int) + off = (tgt : Int)) (ha : a < 2 ^ 31) (kt : a < 0 → am_W g y d lo post tgt L st S) (kf : 0 ≤ a → am_W g y d lo post pc1 L st S) : am_W g y d lo post pc L (.int (nI a) :: st) S := by
  have e := nI_ltI ha (by decide : 0 < 2 ^ 31)
  rw [nI_0] at e
  refine am_if_lt hd ht (fun q => kt ?_) (fun q => kf ?_)
  · rw [e] at q; omega
  · rw [e] at q; omega
theorem am_icmp_geN {a b : Nat} {off : Int} {tgt : Nat} (hd : am_D y.2.2.1 pc (.if_icmp .ge off) 3 pc1) (ht : (pc : Int) + off = (tgt : Int)) (ha : a < 2 ^ 31) (hb : b < 2 ^ 31) (kt : b ≤ a → am_W g y d lo post tgt L st S) (kf : a < b → am_W g y d lo post pc1 L st S) : am_W g y d lo post pc L (.int (nI b) :: .int (nI a) :: st) S := by
  have e := nI_leI hb ha
  refine am_icmp_ge hd ht (fun q => kt ?_) (fun q => kf ?_)
  · rw [e] at q; omega
  · rw [e] at q; omega
theorem am_if_geN {a : Nat} {off : Int} {tgt : Nat} (hd : am_D y.2.2.1 pc (.ifCond .ge off) 3 pc1) (ht : (pc : Int) + off = (tgt : Int)) (ha : a < 2 ^ 31) (kt : 0 ≤ a → am_W g y d lo post tgt L st S) (kf : a < 0 → am_W g y d lo post pc1 L st S) : am_W g y d lo post pc L (.int (nI a) :: st) S := by
  have e := nI_leI (by decide : 0 < 2 ^ 31) ha
  rw [nI_0] at e
  refine am_if_ge hd ht (fun q => kt ?_) (fun q => kf ?_)
  · rw [e] at q; omega
  · rw [e] at q; omega
theorem am_icmp_gtN {a b : Nat} {off : Int} {tgt : Nat} (hd : am_D y.2.2.1 pc (.if_icmp .gt off) 3 pc1) (ht : (pc : Int) + off = (tgt : Int)) (ha : a < 2 ^ 31) (hb : b < 2 ^ 31) (kt : b < a → am_W g y d lo post tgt L st S) (kf : a ≤ b → am_W g y d lo post pc1 L st S) : am_W g y d lo post pc L (.int (nI b) :: .int (nI a) :: st) S := by
  have e := nI_ltI hb ha
  refine am_icmp_gt hd ht (fun q => kt ?_) (fun q => kf ?_)
  · rw [e] at q; omega
  · rw [e] at q; omega
theorem am_if_gtN {a : Nat} {off : Int} {tgt : Nat} (hd : am_D y.2.2.1 pc (.ifCond .gt off) 3 pc1) (ht : (pc : Int) + off = (tgt : Int)) (ha : a < 2 ^ 31) (kt : 0 < a → am_W g y d lo post tgt L st S) (kf : a ≤ 0 → am_W g y d lo post pc1 L st S) : am_W g y d lo post pc L (.int (nI a) :: st) S := by
  have e := nI_ltI (by decide : 0 < 2 ^ 31) ha
  rw [nI_0] at e
  refine am_if_gt hd ht (fun q => kt ?_) (fun q => kf ?_)
  · rw [e] at q; omega
  · rw [e] at q; omega
theorem am_icmp_leN {a b : Nat} {off : Int} {tgt : Nat} (hd : am_D y.2.2.1 pc (.if_icmp .le off) 3 pc1) (ht : (pc : Int) + off = (tgt : Int)) (ha : a < 2 ^ 31) (hb : b < 2 ^ 31) (kt : a ≤ b → am_W g y d lo post tgt L st S) (kf : b < a → am_W g y d lo post pc1 L st S) : am_W g y d lo post pc L (.int (nI b) :: .int (nI a) :: st) S := by
  have e := nI_leI ha hb
  refine am_icmp_le hd ht (fun q => kt ?_) (fun q => kf ?_)
  · rw [e] at q; omega
  · rw [e] at q; omega
theorem am_if_leN {a : Nat} {off : Int} {tgt : Nat} (hd : am_D y.2.2.1 pc (.ifCond .le off) 3 pc1) (ht : (pc : Int) + off = (tgt : Int)) (ha : a < 2 ^ 31) (kt : a ≤ 0 → am_W g y d lo post tgt L st S) (kf : 0 < a → am_W g y d lo post pc1 L st S) : am_W g y d lo post pc L (.int (nI a) :: st) S := by
  have e := nI_leI ha (by decide : 0 < 2 ^ 31)
  rw [nI_0] at e
  refine am_if_le hd ht (fun q => kt ?_) (fun q => kf ?_)
  · rw [e] at q; omega
  · rw [e] at q; omega
/-- a truth value as a number -/
def am_b (c : Bool) : Int32 := if c = true then 1 else 0
theorem am_b_t : am_b true = 1 := rfl
theorem am_b_f : am_b false = 0 := rfl
theorem am_b_nar (c : Bool) : narrow .boolean (.int (am_b c)) = .int (am_b c) := by cases c <;> rfl
theorem am_b_fit (c : Bool) : fits .boolean (.int (am_b c)) = true := by cases c <;> rfl
theorem am_if_eqB {c : Bool} {off : Int} {tgt : Nat} (hd : am_D y.2.2.1 pc (.ifCond .eq off) 3 pc1) (ht : (pc : Int) + off = (tgt : Int)) (kt : c = false → am_W g y d lo post tgt L st S) (kf : c = true → am_W g y d lo post pc1 L st S) : am_W g y d lo post pc L (.int (am_b c) :: st) S := by
  cases c
  · exact am_if_eq hd ht (fun _ => kt rfl) (fun q => absurd rfl q)
  · exact am_if_eq hd ht (fun q => absurd q (by decide)) (fun _ => kf rfl)
theorem am_if_neB {c : Bool} {off : Int} {tgt : Nat} (hd : am_D y.2.2.1 pc (.ifCond .ne off) 3 pc1) (ht : (pc : Int) + off = (tgt : Int)) (kt : c = true → am_W g y d lo post tgt L st S) (kf : c = false → am_W g y d lo post pc1 L st S) : am_W g y d lo post pc L (.int (am_b c) :: st) S := by
  cases c
  · exact am_if_ne hd ht (fun q => absurd rfl q) (fun _ => kf rfl)
  · exact am_if_ne hd ht (fun _ => kt rfl) (fun q => absurd q (by decide))
end AMR
/-! the store: what stays -/
def am_ok (S : am_S) : Prop := ∀ (a : Nat) (c : Nat × am_K), S.1 a = some c → a < S.2.1
/-- but for cells whose tag is in X, what lies there stays -/
def am_fr (X : Nat → Prop) (S S' : am_S) : Prop := (∀ (a t : Nat) (x : am_K), S.1 a = some (t, x) → ¬ X t → S'.1 a = some (t, x)) ∧ S.2.1 ≤ S'.2.1 ∧ S.2.2 ≤ S'.2.2 ∧ (am_ok S → am_ok S')
/-- at most c cells and n slots are new -/
def am_co (c n : Nat) (S S' : am_S) : Prop := S'.2.1 ≤ S.2.1 + c ∧ S'.2.2 ≤ S.2.2 + n
theorem am_fr.refl (X : Nat → Prop) (S : am_S) : am_fr X S S := ⟨fun _ _ _ h _ => h, Nat.le_refl _, Nat.le_refl _, fun h => h⟩
theorem am_fr.trans {X : Nat → Prop} {S S1 S2 : am_S} (h : am_fr X S S1) (h' : am_fr X S1 S2) : am_fr X S S2 :=
  ⟨fun a t x hx ht => h'.1 a t x (h.1 a t x hx ht) ht, Nat.le_trans h.2.1 h'.2.1, Nat.le_trans h.2.2.1 h'.2.2.1, fun o => h'.2.2.2 (h.2.2.2 o)⟩
theorem am_fr.mono {X Y : Nat → Prop} {S S1 : am_S} (h : am_fr X S S1) (hX : ∀ t, X t → Y t) : am_fr Y S S1 :=
  ⟨fun a t x hx ht => h.1 a t x hx (fun q => ht (hX t q)), h.2⟩
theorem am_fr.keep {X : Nat → Prop} {S S1 : am_S} (h : am_fr X S S1) {a t : Nat} {x : am_K} (hx : S.1 a = some (t, x)) (ht : ¬ X t) : S1.1 a = some (t, x) := h.1 a t x hx ht
theorem am_ok.up {S : am_S} {a t t' : Nat} {x x' : am_K} (h : am_ok S) (ha : S.1 a = some (t, x)) : am_ok (am_up S a t' x') := by
  intro q c hq
  by_cases e : q = a
  · subst e; exact h q _ ha
  · rw [am_up_ne S t' x' e] at hq
    exact h q c hq
theorem am_ok.mk {S : am_S} (t z : Nat) (x : am_K) (h : am_ok S) : am_ok (am_mk S t z x) := by
  intro q c hq
  show q < S.2.1 + 1
  by_cases e : q = S.2.1
  · omega
  · rw [am_mk_ne S t z x e] at hq
    have := h q c hq
    omega
theorem am_fr.up {X : Nat → Prop} {S : am_S} {a t t' : Nat} {x x' : am_K} (ha : S.1 a = some (t, x)) (hX : X t) : am_fr X S (am_up S a t' x') :=
  ⟨fun q u z hq hu => by
    by_cases e : q = a
    · subst e
      rw [ha] at hq
      cases hq
      exact absurd hX hu
    · rw [am_up_ne S t' x' e]; exact hq, Nat.le_refl _, Nat.le_refl _, fun o => o.up ha⟩
theorem am_fr.mk (X : Nat → Prop) {S : am_S} (t z : Nat) (x : am_K) (o : am_ok S) : am_fr X S (am_mk S t z x) :=
  ⟨fun q u w hq _ => by rw [am_mk_ne S t z x (Nat.ne_of_lt (o q _ hq))]; exact hq, Nat.le_succ _, Nat.le_add_right _ _, fun o => o.mk t z x⟩
theorem am_co.refl (S : am_S) : am_co 0 0 S S := ⟨Nat.le_refl _, Nat.le_refl _⟩
theorem am_co.trans {c n c' n' : Nat} {S S1 S2 : am_S} (h : am_co c n S S1) (h' : am_co c' n' S1 S2) : am_co (c + c') (n + n') S S2 := by
  obtain ⟨h1, h2⟩ := h
  obtain ⟨h3, h4⟩ := h'
  exact ⟨by omega, by omega⟩
theorem am_co.mono {c n c' n' : Nat} {S S1 : am_S} (h : am_co c n S S1) (hc : c ≤ c') (hn : n ≤ n') : am_co c' n' S S1 := by
  obtain ⟨h1, h2⟩ := h
  exact ⟨by omega, by omega⟩
theorem am_co.up (S : am_S) (a t : Nat) (x : am_K) : am_co 0 0 S (am_up S a t x) := ⟨Nat.le_refl _, Nat.le_refl _⟩
theorem am_co.mk (S : am_S) (t z : Nat) (x : am_K) : am_co 1 z S (am_mk S t z x) := ⟨Nat.le_refl _, Nat.le_refl _⟩
/-- cells of different tags lie apart -/
theorem am_ne {S : am_S} {a b t u : Nat} {x z : am_K} (ha : S.1 a = some (t, x)) (hb : S.1 b = some (u, z)) (h : t ≠ u) : b ≠ a := by
  intro e
  subst e
  rw [ha] at hb
  cases hb
  exact h rfl
theorem am_up_tag {S : am_S} {a b t t' u : Nat} {x x' z : am_K} (hb : S.1 b = some (u, z)) (ha : S.1 a = some (t, x)) (h : t ≠ u) : (am_up S a t' x').1 b = some (u, z) := by
  rw [am_up_ne S t' x' (am_ne ha hb h)]
  exact hb
theorem am_mk_old {S : am_S} {b u t n : Nat} {x z : am_K} (hb : S.1 b = some (u, z)) (o : am_ok S) : (am_mk S t n x).1 b = some (u, z) := by
  rw [am_mk_ne S t n x (Nat.ne_of_lt (o b _ hb))]
  exact hb
theorem am_up_up (S : am_S) (a t t' : Nat) (x x' : am_K) : am_up (am_up S a t x) a t' x' = am_up S a t' x' := by
  unfold am_up
  congr 1
  funext q
  by_cases e : q = a <;> simp [e]
theorem am_up_mk (S : am_S) (t t' n : Nat) (x x' : am_K) : am_up (am_mk S t n x) S.2.1 t' x' = am_mk S t' n x' := by
  unfold am_up am_mk
  congr 1
  funext q
  by_cases e : q = S.2.1 <;> simp [e]
end
section
/-! rows of the logic that read or write cells -/
/-- the field that an instruction names: class number, place -/
def am_F (own : String) (idx ci j : Nat) : Prop := ∃ (q : vw_C) (ref : String), am_cl[ci]? = some q ∧ j < q.2.2 ∧ ((Cond.fieldLink own idx ref (q.2.1 j).2.1 (q.2.1 j).2.2.1 ∈ am_wz) ∨ ∃ host, (own, idx, ref, (q.2.1 j).2.1, (q.2.1 j).2.2.1, host) ∈ am_nF) ∧ (ref = (q.2.1 j).1 ∨ Cond.sameField ref (q.2.1 j).1 (q.2.1 j).2.1 (q.2.1 j).2.2.1 ∈ am_wz)
theorem am_same {g : am_G} {s : State} (hT : am_T g s) {q : vw_C} {j : Nat} {ref : String} (h : ref = (q.2.1 j).1 ∨ Cond.sameField ref (q.2.1 j).1 (q.2.1 j).2.1 (q.2.1 j).2.2.1 ∈ am_wz) (x : ClassId × Class × Nat × Field) (hx : s.fieldFound? (q.2.1 j).1 (q.2.1 j).2.1 (q.2.1 j).2.2.1 = some x) : s.fieldFound? ref (q.2.1 j).2.1 (q.2.1 j).2.2.1 = some x := by
  rcases h with rfl | h
  · exact hx
  · exact u_same (hT.word #[] h) x hx
theorem am_apart {g : am_G} {s : State} (hT : am_T g s) {ci : Nat} {q : vw_C} (hc : am_cl[ci]? = some q) (hq : am_clOK q) : ∀ x z, x < q.2.2 → z < q.2.2 → x ≠ z → (g.lay.2 ci) x ≠ (g.lay.2 ci) z := by
  intro x z hx hz hne
  obtain ⟨hS, -⟩ := hT.2.2.2.2.2.1 ci q hc
  obtain ⟨_, _, _, fa, hia, ea⟩ := hS x hx
  obtain ⟨_, _, _, fb, hib, eb⟩ := hS z hz
  have hts : ∀ w ∈ am_wz, w.before #[] s = true := fun w hw => hT.word #[] hw
  rw [← ea, ← eb]
  refine u_apart (u_lays hts hq.1 hx) (u_lays hts hq.1 hz) hia hib ?_
  obtain ⟨tx, htx⟩ := Option.isSome_iff_exists.mp (hq.2.1 x hx)
  obtain ⟨tz, htz⟩ := Option.isSome_iff_exists.mp (hq.2.1 z hz)
  rw [(State.fieldFound?_type hia htx).1, (State.fieldFound?_type hib htz).1]
  exact hq.2.2 x hx z hz hne
/-- what a write of a field must know: its type; it is not final, or this is the constructor of its class -/
def am_P (own nm : String) (ci j : Nat) (ty : FieldType) : Prop := ∃ q : vw_C, am_cl[ci]? = some q ∧ parseFieldDescriptor (q.2.1 j).2.2.1 = some ty ∧ ((q.2.1 j).2.2.2 = false ∨ ((q.2.1 j).2.2.2 = true ∧ (q.2.1 j).1 = own ∧ nm = "<init>"))
section AMH
variable {g : am_G} {y : am_N} {d lo : Nat} {post : Option Value → am_S → Prop} {pc pc1 : Nat} {L : List (Option Value)} {st : List Value} {S : am_S}
theorem am_get {idx ci j a t : Nat} {fs : List Value} {v : Value} (hd : am_D y.2.2.1 pc (.getfield idx) 3 pc1) (hF : am_F y.1 idx ci j) (ha : S.1 a = some (t, .inr (ci, fs))) (hv : fs[j]? = some v) (h : am_W g y d lo post pc1 L (v :: st) S) : am_W g y d lo post pc L (.ref a :: st) S := by
  obtain ⟨hd, rfl⟩ := hd
  refine am_lift (by rfl) (fun k n rv RS h => ?_) h
  intro p e s m args below meth c H locs cells slots mc ms ls Y
  have W1 := h p e s m args below meth c H locs cells slots mc ms ls Y
  obtain ⟨y1, y2, -, -, -, y6, -, hT, -, -, -, hR, -⟩ := Y
  obtain ⟨q, ref, hc, hj, hlink, hsame⟩ := hF
  have hq := am_cl_ok ci q hc
  obtain ⟨q', h1, hlen, cell, q1, q2, q3, q4⟩ := hR.2.2.2.1 a _ _ ha
  cases h1.symm.trans hc
  obtain ⟨hS, hfc, kC, hkC, hkind⟩ := hT.2.2.2.2.2.1 ci q hc
  obtain ⟨cf, kf, fi, f, hi, hsl⟩ := hS j hj
  have hts : ∀ w ∈ am_wz, w.before args s = true := fun w hw => hT.word args hw
  have hst := (u_facts hfc hkC (u_lays hts hq.1 hj) hi).1
  have hval : cell.slots[f.slot]? = some v := by
    rw [hsl, q4 j hj]
    simp [vp_V, hv]
  rcases hlink with hl | ⟨host, hl⟩
  · exact W.getf y1 y2 y6 (hts _ hl) (am_same hT hsame _ hi) hst q1 (by rw [q3]; exact fun z => by cases z) hval rfl rfl hd W1
  · exact va_Wgetf y1 y2 y6 (va_Nw.use rfl (hT.2.1 _ hl)) (am_same hT hsame _ hi) hst q1 (by rw [q3]; exact fun z => by cases z) hval rfl rfl hd W1
/-- the field is written: it isn't final, or it is and this is its class's constructor -/
theorem am_put {idx ci j a t : Nat} {fs : List Value} {v : Value} (ty : FieldType) (hd : am_D y.2.2.1 pc (.putfield idx) 3 pc1) (hF : am_F y.1 idx ci j) (hP : am_P y.1 y.2.1 ci j ty) (ha : S.1 a = some (t, .inr (ci, fs))) (ht0 : t ≠ 0) (hn : narrow ty v = v) (hfit : fits ty v = true) (h : am_W g y d lo post pc1 L st (am_up S a t (.inr (ci, fs.set j v)))) : am_W g y d lo post pc L (v :: .ref a :: st) S := by
  obtain ⟨hd, rfl⟩ := hd
  refine am_lift (by rfl) (fun k n rv RS h => ?_) h
  intro p e s m args below meth c H locs cells slots mc ms ls Y
  obtain ⟨y1, y2, y3, y4, y5, y6, y7, hT, y9, y10, y11, hR, hL⟩ := Y
  obtain ⟨q, ref, hc, hj, hlink, hsame⟩ := hF
  obtain ⟨q2', hc2, hty, hfin⟩ := hP
  have ho := hR.2.2.2.2 a _ _ ha ht0
  cases hc2.symm.trans hc
  have hq := am_cl_ok ci q hc
  have hap := am_apart hT hc hq
  obtain ⟨q', h1, hlen, cell, q1, q2, q3, q4⟩ := hR.2.2.2.1 a _ _ ha
  cases h1.symm.trans hc
  obtain ⟨hS, hfc, kC, hkC, hkind⟩ := hT.2.2.2.2.2.1 ci q hc
  obtain ⟨cf, kf, fi, f, hi, hsl⟩ := hS j hj
  have hts : ∀ w ∈ am_wz, w.before args s = true := fun w hw => hT.word args hw
  have hst := (u_facts hfc hkC (u_lays hts hq.1 hj) hi).1
  have hft := u_fits hfc hkC hkind (u_lays hts hq.1 hj) hi hty hn hfit
  have hlay := hts _ (hq.1 _ (u_in_lay hj))
  have hf2 : hasFlag f.accessFlags Acc.final = false ∨ (m.cls = cf ∧ meth.name = "<init>") := by
    unfold u_lay at hlay
    rcases hfin with hf | ⟨hf, hown, hin⟩
    · rw [if_neg (by rw [hf]; decide)] at hlay
      exact Or.inl (u_store hfc hkC hkind hlay hi hty hn hfit).1
    · rw [if_pos hf] at hlay
      refine Or.inr ⟨?_, by rw [y7]; exact hin⟩
      obtain ⟨_, _, c', _, _, _, -, -, hf', -, -, -, hown2, -⟩ := Cond.laysFinal_spec hlay
      have e1 : c' = cf := by have := hi.symm.trans hf'; simp at this; exact this.1.symm
      rw [hown] at hown2
      rw [← e1]; exact Option.some.inj (y6.symm.trans hown2)
  have hlt : f.slot < cell.slots.size := by rw [hsl]; exact k2_hasslot (q4 j hj)
  have hA : a < H.size := (Array.getElem?_eq_some_iff.mp q1).1
  have key : W p g.1 e { frames := d, cells := mc, slots := ms, locals := lo } s m args below meth c (H.setIfInBounds a (cell.setSlot f.slot v)) (locs ++ [⟨a, f.slot⟩]) cells slots (MQ below (am_Q g rv RS) args s mc ms (fun q => g.old.size ≤ q)) (F0 m (pc + 3) ls st) := by
    refine h p e s m args below meth c _ _ cells slots mc ms ls ⟨y1, y2, y3, y4, y5, y6, y7, hT, y9, y10, ?_, ?_, hL⟩
    · intro x hx
      rcases List.mem_append.mp hx with hx | hx
      · exact y11 x hx
      · rw [List.mem_singleton.mp hx]; exact ho
    · refine hR.put t ho (by simp) (fun q hq => by simp [Array.getElem?_setIfInBounds, Ne.symm hq]) ?_
      refine ⟨q, hc, by rw [List.length_set]; exact hlen, t_OB.to (V := updV (vp_V fs) j v) ⟨cell.setSlot f.slot v, by simp [Array.getElem?_setIfInBounds, hA], q2, q3, ?_⟩ (fun i _ => vp_updV_set (by rw [hlen]; exact hj) v i)⟩
      rw [hsl]
      exact t_set q4 hap hj v
  rcases hlink with hl | ⟨host, hl⟩
  · exact W.putf y1 y2 y6 (hts _ hl) (am_same hT hsame _ hi) hst hf2 q1 (by rw [q3]; exact fun z => by cases z) hlt hft.1 (by rw [q2, q3]; exact hft.2) rfl rfl hd key
  · exact va_Wputf y1 y2 y6 (va_Nw.use rfl (hT.2.1 _ hl)) (am_same hT hsame _ hi) hst hf2 q1 (by rw [q3]; exact fun z => by cases z) hlt hft.1 (by rw [q2, q3]; exact hft.2) rfl rfl hd key
/-- a static field that nobody writes -/
theorem am_gets {idx : Nat} {C nm ds ref : String} {v : Value} (hd : am_D y.2.2.1 pc (.getstatic idx) 3 pc1) (hl : Cond.fieldLink y.1 idx ref nm ds ∈ am_wz) (hs : ref = C ∨ Cond.sameField ref C nm ds ∈ am_wz) (hz : (C, nm, ds, v) ∈ g.sta) (h : am_W g y d lo post pc1 L (v :: st) S) : am_W g y d lo post pc L st S := by
  obtain ⟨hd, rfl⟩ := hd
  refine am_lift (by rfl) (fun k n rv RS h => ?_) h
  intro p e s m args below meth c H locs cells slots mc ms ls Y
  have W1 := h p e s m args below meth c H locs cells slots mc ms ls Y
  obtain ⟨y1, y2, -, -, -, y6, -, hT, -, -, -, hR, -⟩ := Y
  obtain ⟨cf, kf, fi, f, a, cell, h1, h2, h3, h4, h5, h6, h7, h8⟩ := hT.2.2.2.2.2.2.2.1 _ hz
  have hsame : s.fieldFound? ref nm ds = some (cf, kf, fi, f) := by
    rcases hs with rfl | hs
    · exact h1
    · exact u_same (hT.word #[] hs) _ h1
  exact W.gets y1 y2 y6 (hT.word args hl) hsame h2 h3 h4 (by rw [hR.2.2.1 a (Nat.not_le.mp h8)]; exact h5) (fun z => by rw [z] at h6; cases h6) h7 rfl hd W1
/-- a new object -/
theorem am_new {idx ci : Nat} (t : Nat) {q : vw_C} {fs : List Value} (hd : am_D y.2.2.1 pc (.new idx) 3 pc1) (hc : am_cl[ci]? = some q) (hl : Cond.classLink y.1 idx q.1 ∈ am_wz) (hi : Cond.instantiable q.1 q.2.2 ∈ am_wz) (hini : Cond.initialized q.1 ∈ am_wz) (hlen : fs.length = q.2.2) (hfs : ∀ j, j < q.2.2 → ∃ ty, parseFieldDescriptor (q.2.1 j).2.2.1 = some ty ∧ defaultValue ty = vp_V fs j)
    (h : am_W g y d lo post pc1 L (.ref S.2.1 :: st) (am_mk S t q.2.2 (.inr (ci, fs)))) : am_W g y d lo post pc L st S := by
  obtain ⟨hd, rfl⟩ := hd
  refine am_liftN (by rfl) (by rfl) (fun k n rv RS h => ?_) h
  intro p e s m args below meth c H locs cells slots mc ms ls Y
  obtain ⟨y1, y2, y3, y4, y5, y6, y7, hT, y9, y10, y11, hR, hL⟩ := Y
  have hts : ∀ w ∈ am_wz, w.before args s = true := fun w hw => hT.word args hw
  have hq := am_cl_ok ci q hc
  have hKn := hT.2.2.2.2.2.1 ci q hc
  refine W.newcK y1 y2 y6 (hts _ hl) (hts _ hi) (hts _ hini) rfl hd (by show cells + 1 ≤ mc; omega) (by show slots + q.2.2 ≤ ms; omega) hKn.2.1 (h := S.2.1) hR.1 fun H1 kC hkC e1 z1 o1 => ?_
  refine h p e s m args below meth c H1 locs (cells + 1) (slots + q.2.2) mc ms ls ⟨y1, y2, y3, y4, y5, y6, y7, hT, by omega, by omega, y11, ?_, hL⟩
  refine hR.push _ _ (by rw [hR.1]; exact z1) (fun x hx => o1 x (by rw [← hR.1]; exact hx)) ⟨q, hc, hlen, ?_⟩
  have hty : ∀ j, j < q.2.2 → parseFieldDescriptor (q.2.1 j).2.2.1 = some ((parseFieldDescriptor (q.2.1 j).2.2.1).getD .int) := fun j hj => by
    obtain ⟨ty, h1, -⟩ := hfs j hj
    rw [h1]; rfl
  refine (u_born (fun j => (parseFieldDescriptor (q.2.1 j).2.2.1).getD .int) hts hq.1 hKn hkC e1 hty).to (fun j hj => ?_)
  obtain ⟨ty, h1, h2⟩ := hfs j hj
  rw [h1]; exact h2
theorem am_newcell (cA : ClassId) (N : Nat) (v : Value) : arrV cA N (fun _ => v) = am_cell cA (List.replicate N v) := by
  rw [← arrV_new]
  unfold am_cell
  rw [List.toArray_replicate]
/-- a new array of numbers -/
theorem am_newa {t : Nat} (tg : Nat) {atype : ArrayType} {x : Int32} {N : Nat} {v : Value} (hd : am_D y.2.2.1 pc (.newarray atype) 2 pc1) (ht : am_ak[t]? = some (newarray.typeOf atype)) (hw : Cond.arrayClass (newarray.typeOf atype) ∈ am_wz) (hx : ¬ x < 0) (hN : x.toNatClampNeg = N) (hbytes : N * componentBytes (newarray.typeOf atype) ≤ 536870912) (hv : defaultValue (newarray.typeOf atype) = v)
    (h : am_W g y d lo post pc1 L (.ref S.2.1 :: st) (am_mk S tg N (.inl (t, List.replicate N v)))) : am_W g y d lo post pc L (.int x :: st) S := by
  obtain ⟨hd, rfl⟩ := hd
  refine am_liftN (by rfl) (by rfl) (fun k n rv RS h => ?_) h
  intro p e s m args below meth c H locs cells slots mc ms ls Y
  obtain ⟨y1, y2, y3, y4, y5, y6, y7, hT, y9, y10, y11, hR, hL⟩ := Y
  subst hv
  refine va_newaK y1 y2 (hT.word args hw) rfl hd rfl hx hN hbytes (by show cells + 1 ≤ mc; omega) (by show slots + N ≤ ms; omega) (h := S.2.1) hR.1 fun H1 cA e1 z1 o1 hAr hNm => ?_
  have hcA : cA = g.arr t := by
    have h1 := (hT.2.2.2.2.2.2.1 t _ ht).2
    have h2 : s.vm.findClass ("[" ++ (newarray.typeOf atype).toString) = some (g.arr t) := by cases atype <;> exact h1
    exact Option.some.inj (hNm.symm.trans h2)
  refine h p e s m args below meth c H1 locs (cells + 1) (slots + N) mc ms ls ⟨y1, y2, y3, y4, y5, y6, y7, hT, by omega, by omega, y11, ?_, hL⟩
  refine hR.push _ _ (by rw [hR.1]; exact z1) (fun x hx => o1 x (by rw [← hR.1]; exact hx)) ?_
  show H1[S.2.1]? = some (am_cell (g.arr t) (List.replicate N _))
  rw [← hcA, ← am_newcell]
  exact e1
/-- a new array of references -/
theorem am_newq {idx t : Nat} (tg : Nat) {C : String} {x : Int32} {N : Nat} (hd : am_D y.2.2.1 pc (.anewarray idx) 3 pc1) (ht : am_ak[t]? = some (.object C)) (hl : Cond.classLink y.1 idx C ∈ am_wz) (hO : C ∈ am_nO) (hx : ¬ x < 0) (hN : x.toNatClampNeg = N) (hbytes : N * 4 ≤ 536870912)
    (h : am_W g y d lo post pc1 L (.ref S.2.1 :: st) (am_mk S tg N (.inl (t, List.replicate N .null)))) : am_W g y d lo post pc L (.int x :: st) S := by
  obtain ⟨hd, rfl⟩ := hd
  refine am_liftN (by rfl) (by rfl) (fun k n rv RS h => ?_) h
  intro p e s m args below meth c H locs cells slots mc ms ls Y
  obtain ⟨y1, y2, y3, y4, y5, y6, y7, hT, y9, y10, y11, hR, hL⟩ := Y
  subst hN
  refine W.anew y1 y2 y6 (hT.word args hl) (va_AO.use (hT.2.2.2.2.1 _ hO)) rfl hd rfl hx hbytes (by show cells + 1 ≤ mc; omega) (by show slots + _ ≤ ms; omega) fun cA kA comp f1 f2 f3 f4 => ?_
  have hcA : cA = g.arr t := by
    obtain ⟨kA', comp', k1, k2, k3, k4⟩ := (hT.2.2.2.2.2.2.1 t _ ht).2
    exact Option.some.inj (f1.symm.trans k4)
  subst hcA
  have e2 : (.ref H.size : Value) = .ref S.2.1 := by rw [hR.1]
  rw [e2]
  refine h p e s m args below meth c _ locs (cells + 1) _ mc ms ls ⟨y1, y2, y3, y4, y5, y6, y7, hT, by omega, by omega, y11, ?_, hL⟩
  refine hR.push _ _ (Array.size_push _) (fun x hx => by rw [Array.getElem?_push, if_neg (Nat.ne_of_lt hx)]) ?_
  show (H.push _)[S.2.1]? = some (am_cell (g.arr t) (List.replicate _ _))
  rw [← hR.1, Array.getElem?_push_size]
  unfold am_cell
  rw [List.toArray_replicate]
theorem am_isArr {s : State} {cA : ClassId} {ty : FieldType} (h : ArrOfT s cA ty) (vs : List Value) : s.isArrayOf (am_cell cA vs) ty := by
  have e : am_cell cA vs = arrV cA vs.length (fun j => vs.getD j .null) := by
    unfold am_cell arrV
    congr 1
    apply Array.ext
    · simp
    · intro i h1 h2
      simp at h1
      simp [h1]
  rw [e]
  exact h _ _
theorem am_alen {tg t a : Nat} {vs : List Value} {v : Int32} {ty : FieldType} (hd : am_D y.2.2.1 pc (.arraylength) 1 pc1) (ht : am_ak[t]? = some ty) (ha : S.1 a = some (tg, .inl (t, vs))) (hv : Int32.ofNat vs.length = v) (h : am_W g y d lo post pc1 L (.int v :: st) S) : am_W g y d lo post pc L (.ref a :: st) S := by
  obtain ⟨hd, rfl⟩ := hd
  refine am_lift (by rfl) (fun k n rv RS h => ?_) h
  intro p e s m args below meth c H locs cells slots mc ms ls Y
  have W1 := h p e s m args below meth c H locs cells slots mc ms ls Y
  obtain ⟨y1, y2, -, -, -, y6, -, hT, -, -, -, hR, -⟩ := Y
  exact W.alen (n := v) y1 y2 (hR.2.2.2.1 a _ _ ha) (am_isArr (hT.2.2.2.2.2.2.1 t _ ht).1 vs) (by rw [← hv]; simp [am_cell]) rfl rfl hd W1
/-- reading: int, boolean, reference -/
theorem am_inb {cA : ClassId} {vs : List Value} {x : Int32} {j : Nat} (hx : x = nI j) (hj : j < vs.length) (hl : vs.length < 2 ^ 31) : ¬ (x < 0 ∨ (am_cell cA vs).slots.size ≤ x.toNatClampNeg) ∧ x.toNatClampNeg = j := by
  subst hx
  have e := nI_clamp (n := j) (by omega)
  refine ⟨fun h => ?_, e⟩
  rcases h with h | h
  · exact nI_pos (by omega) h
  · rw [e] at h
    simp [am_cell] at h
    omega
theorem am_iald {tg t a j : Nat} {vs : List Value} {x : Int32} {v : Value} (hd : am_D y.2.2.1 pc (.iaload) 1 pc1) (ht : am_ak[t]? = some .int) (ha : S.1 a = some (tg, .inl (t, vs))) (hx : x = nI j) (hv : vs[j]? = some v) (hl : vs.length < 2 ^ 31) (h : am_W g y d lo post pc1 L (v :: st) S) : am_W g y d lo post pc L (.int x :: .ref a :: st) S := by
  obtain ⟨hd, rfl⟩ := hd
  refine am_lift (by rfl) (fun k n rv RS h => ?_) h
  intro p e s m args below meth c H locs cells slots mc ms ls Y
  have W1 := h p e s m args below meth c H locs cells slots mc ms ls Y
  obtain ⟨y1, y2, -, -, -, y6, -, hT, -, -, -, hR, -⟩ := Y
  obtain ⟨hin, hc⟩ := am_inb (cA := g.arr t) hx (List.getElem?_eq_some_iff.mp hv).1 hl
  exact W.iald (v := v) y1 y2 (hR.2.2.2.1 a _ _ ha) (am_isArr (hT.2.2.2.2.2.2.1 t _ ht).1 vs) (fun z => by cases z) hin (by rw [hc]; simpa [am_cell] using hv) rfl rfl hd W1
theorem am_zald {tg t a j : Nat} {vs : List Value} {x : Int32} {v : Value} (hd : am_D y.2.2.1 pc (.baload) 1 pc1) (ht : am_ak[t]? = some .boolean) (ha : S.1 a = some (tg, .inl (t, vs))) (hx : x = nI j) (hv : vs[j]? = some v) (hl : vs.length < 2 ^ 31) (h : am_W g y d lo post pc1 L (v :: st) S) : am_W g y d lo post pc L (.int x :: .ref a :: st) S := by
  obtain ⟨hd, rfl⟩ := hd
  refine am_lift (by rfl) (fun k n rv RS h => ?_) h
  intro p e s m args below meth c H locs cells slots mc ms ls Y
  have W1 := h p e s m args below meth c H locs cells slots mc ms ls Y
  obtain ⟨y1, y2, -, -, -, y6, -, hT, -, -, -, hR, -⟩ := Y
  obtain ⟨hin, hc⟩ := am_inb (cA := g.arr t) hx (List.getElem?_eq_some_iff.mp hv).1 hl
  exact W.zald (v := v) y1 y2 (hR.2.2.2.1 a _ _ ha) (am_isArr (hT.2.2.2.2.2.2.1 t _ ht).1 vs) (fun z => by cases z) hin (by rw [hc]; simpa [am_cell] using hv) rfl rfl hd W1
theorem am_aald {tg t a j : Nat} {vs : List Value} {x : Int32} {v : Value} {ty : FieldType} (hd : am_D y.2.2.1 pc (.aaload) 1 pc1) (ht : am_ak[t]? = some ty) (hr : ty.isReference = true) (ha : S.1 a = some (tg, .inl (t, vs))) (hx : x = nI j) (hv : vs[j]? = some v) (hl : vs.length < 2 ^ 31) (h : am_W g y d lo post pc1 L (v :: st) S) : am_W g y d lo post pc L (.int x :: .ref a :: st) S := by
  obtain ⟨hd, rfl⟩ := hd
  refine am_lift (by rfl) (fun k n rv RS h => ?_) h
  intro p e s m args below meth c H locs cells slots mc ms ls Y
  have W1 := h p e s m args below meth c H locs cells slots mc ms ls Y
  obtain ⟨y1, y2, -, -, -, y6, -, hT, -, -, -, hR, -⟩ := Y
  obtain ⟨hin, hc⟩ := am_inb (cA := g.arr t) hx (List.getElem?_eq_some_iff.mp hv).1 hl
  exact W.aald (v := v) y1 y2 (hR.2.2.2.1 a _ _ ha) (am_isArr (hT.2.2.2.2.2.2.1 t _ ht).1 vs) hr (fun z => by cases z) hin (by rw [hc]; simpa [am_cell] using hv) rfl rfl hd W1
theorem am_cellset (cA : ClassId) (vs : List Value) (j : Nat) (v : Value) : (am_cell cA vs).setSlot j v = am_cell cA (vs.set j v) := by
  simp [am_cell, Cell.setSlot]
/-- what is common to writes into an array -/
theorem am_wrote {k n : Nat} {rv : Option Value} {RS : am_S} {tg t a j : Nat} {vs : List Value} {v : Value} {p : Program} {e : Env} {s : State} {m : MethodId} {args : Array Value} {below : List Frame} {meth : Method} {c : Code} {H H1 : Heap} {locs : List Loc} {cells slots mc ms : Nat} {ls : Array Slot} (Y : am_Y g y k n L S p s m meth c H locs cells slots mc ms ls) (ho : g.old.size ≤ a) (h : am_V g y d lo k n rv RS pc L st (am_up S a tg (.inl (t, vs.set j v))))
    (e1 : H1[a]? = some ((am_cell (g.arr t) vs).setSlot j v)) (z : H1.size = H.size) (oq : ∀ q : Nat, q ≠ a → H1[q]? = H[q]?) :
    W p g.1 e { frames := d, cells := mc, slots := ms, locals := lo } s m args below meth c H1 (locs ++ [⟨a, j⟩]) cells slots (MQ below (am_Q g rv RS) args s mc ms (fun q => g.old.size ≤ q)) (F0 m pc ls st) := by
  obtain ⟨y1, y2, y3, y4, y5, y6, y7, hT, y9, y10, y11, hR, hL⟩ := Y
  refine h p e s m args below meth c H1 _ cells slots mc ms ls ⟨y1, y2, y3, y4, y5, y6, y7, hT, y9, y10, ?_, hR.put tg ho z oq ?_, hL⟩
  · intro x hx
    rcases List.mem_append.mp hx with hx | hx
    · exact y11 x hx
    · rw [List.mem_singleton.mp hx]; exact ho
  · show H1[a]? = some (am_cell (g.arr t) (vs.set j v))
    rw [e1, am_cellset]
theorem am_iast {tg t a j : Nat} {vs : List Value} {x v : Int32} (hd : am_D y.2.2.1 pc (.iastore) 1 pc1) (ht : am_ak[t]? = some .int) (ha : S.1 a = some (tg, .inl (t, vs))) (ht0 : tg ≠ 0) (hx : x = nI j) (hj : j < vs.length) (hl : vs.length < 2 ^ 31) (h : am_W g y d lo post pc1 L st (am_up S a tg (.inl (t, vs.set j (.int v))))) : am_W g y d lo post pc L (.int v :: .int x :: .ref a :: st) S := by
  obtain ⟨hd, rfl⟩ := hd
  refine am_lift (by rfl) (fun k n rv RS h => ?_) h
  intro p e s m args below meth c H locs cells slots mc ms ls Y
  obtain ⟨hin, hc⟩ := am_inb (cA := g.arr t) hx hj hl
  refine W.iast Y.1 Y.2.1 (Y.2.2.2.2.2.2.2.2.2.2.2.1.2.2.2.1 a _ _ ha) (am_isArr (Y.2.2.2.2.2.2.2.1.2.2.2.2.2.2.1 t _ ht).1 vs) (fun z => by cases z) hin rfl rfl hd fun H1 e1 z oq => ?_
  rw [hc] at e1 ⊢
  exact am_wrote Y (Y.2.2.2.2.2.2.2.2.2.2.2.1.2.2.2.2 a _ _ ha ht0) h e1 z oq
theorem am_aastN {tg t a j : Nat} {vs : List Value} {x : Int32} {C : String} (hd : am_D y.2.2.1 pc (.aastore) 1 pc1) (ht : am_ak[t]? = some (.object C)) (ha : S.1 a = some (tg, .inl (t, vs))) (ht0 : tg ≠ 0) (hx : x = nI j) (hj : j < vs.length) (hl : vs.length < 2 ^ 31) (h : am_W g y d lo post pc1 L st (am_up S a tg (.inl (t, vs.set j .null)))) : am_W g y d lo post pc L (.null :: .int x :: .ref a :: st) S := by
  obtain ⟨hd, rfl⟩ := hd
  refine am_lift (by rfl) (fun k n rv RS h => ?_) h
  intro p e s m args below meth c H locs cells slots mc ms ls Y
  obtain ⟨hin, hc⟩ := am_inb (cA := g.arr t) hx hj hl
  refine va_WaastN (C := C) Y.1 Y.2.1 (Y.2.2.2.2.2.2.2.2.2.2.2.1.2.2.2.1 a _ _ ha) (am_isArr (Y.2.2.2.2.2.2.2.1.2.2.2.2.2.2.1 t _ ht).1 vs) (fun z => by cases z) hin rfl rfl hd fun H1 e1 z oq => ?_
  rw [hc] at e1 ⊢
  exact am_wrote Y (Y.2.2.2.2.2.2.2.2.2.2.2.1.2.2.2.2 a _ _ ha ht0) h e1 z oq
end AMH
/-! rows of the logic: ends of methods, calls -/
section AME
variable {g : am_G} {y : am_N} {d lo : Nat} {post : Option Value → am_S → Prop} {pc pc1 : Nat} {L : List (Option Value)} {st : List Value} {S : am_S}
theorem am_iret {x : Int32} {ty : FieldType} (hd : am_D y.2.2.1 pc (.ireturn) 1 pc1) (hr : y.2.2.2.2 = some ty) (hn : narrow ty (.int x) = .int x) (hp : post (some (.int x)) S) : am_W g y d lo post pc L [.int x] S := by
  obtain ⟨hd, rfl⟩ := hd
  refine am_end ?_ hp
  intro p e s m args below meth c H locs cells slots mc ms ls Y
  obtain ⟨y1, y2, y3, y4, y5, y6, y7, hT, y9, y10, y11, hR, hL⟩ := Y
  refine W.widen (k := mc) (n := ms) (by omega) (by omega) ?_
  exact W.zret y1 y2 (y4.trans hr) hn (fun t ht _ => ⟨rfl, by rw [ht]; exact hR⟩) y11 hd y5
theorem am_vret (hd : am_D y.2.2.1 pc (.return_) 1 pc1) (hr : y.2.2.2.2 = none) (hp : post none S) : am_W g y d lo post pc L [] S := by
  obtain ⟨hd, rfl⟩ := hd
  refine am_end ?_ hp
  intro p e s m args below meth c H locs cells slots mc ms ls Y
  obtain ⟨y1, y2, y3, y4, y5, y6, y7, hT, y9, y10, y11, hR, hL⟩ := Y
  refine W.widen (k := mc) (n := ms) (by omega) (by omega) ?_
  exact W.vret y1 y2 (y4.trans hr) (fun t ht _ => ⟨rfl, by rw [ht]; exact hR⟩) y11 hd y5
theorem am_aret {v : Value} {ty : FieldType} (hd : am_D y.2.2.1 pc (.areturn) 1 pc1) (hr : y.2.2.2.2 = some ty) (hrt : (∃ nm, ty = .object nm) ∨ ∃ t, ty = .array t) (hv : am_rv v) (hp : post (some v) S) : am_W g y d lo post pc L [v] S := by
  obtain ⟨hd, rfl⟩ := hd
  refine am_end ?_ hp
  intro p e s m args below meth c H locs cells slots mc ms ls Y
  obtain ⟨y1, y2, y3, y4, y5, y6, y7, hT, y9, y10, y11, hR, hL⟩ := Y
  refine W.widen (k := mc) (n := ms) (by omega) (by omega) ?_
  exact W.aret y1 y2 (y4.trans hr) hrt hv (fun t ht _ => ⟨rfl, by rw [ht]; exact hR⟩) y11 hd y5
/-- the link of a call, plain or across the nest -/
def am_ML (own : String) (idx : Nat) (x : MethodName) : Prop := Cond.methodLink own idx x ∈ am_wz ∨ ∃ host, (own, idx, x, host) ∈ am_nM
/-- what every call asks of the callee's name: its code's word, its class, the number of its parameters -/
def am_CY (yc : am_N) (desc : String) (np : Nat) : Prop := Cond.code ⟨yc.1, yc.2.1, desc⟩ yc.2.2.1 yc.2.2.2.1 yc.2.2.2.2 ∈ am_wz ∧ Cond.initialized yc.1 ∈ am_wz ∧ yc.1 ≠ "java/lang/invoke/MethodHandle" ∧ yc.1 ≠ "java/lang/invoke/VarHandle" ∧ (parseMethodDescriptor desc).map (fun x => x.parameters.length) = some np
theorem am_blind (g : am_G) (vs : List Value) (S : am_S) : FrameBlind (va_Pc vs (fun U => am_T g U ∧ am_R g S U.heap)) := fun a _ f mk q => ⟨q.1, q.2.1.calling f mk a, q.2.2⟩
theorem am_preS {s : State} {H : Heap} (hT : am_T g s) (hR : am_R g S H) (vs : List Value) : PreS s H (va_Pc vs (fun U => am_T g U ∧ am_R g S U.heap)) vs :=
  ⟨am_blind g vs S, fun U hU hW => ⟨rfl, hT.warm hW, by rw [hU]; exact hR⟩⟩
/-- behind a call -/
theorem am_after {p : Program} {e : Env} {R : Room} {s : State} {m : MethodId} {args A : Array Value} {below : List Frame} {meth : Method} {c : Code} {H : Heap} {locs : List Loc} {cells slots kc nc : Nat} {ls : Array Slot} {st0 rest : List Value} {Q : State → Prop} {v : Option Value} {S1 : am_S} (y11 : ∀ q ∈ locs, g.old.size ≤ q.base)
    (hr : va_Run p g.1 e R s m args below meth c H locs cells slots kc nc (F0 m pc ls st0) rest (am_Q g v S1 A) (fun q => g.old.size ≤ q))
    (kk : ∀ (H1 : Heap) (locs1 : List Loc), am_R g S1 H1 → (∀ q ∈ locs1, g.old.size ≤ q.base) → W p g.1 e R s m args below meth c H1 locs1 (cells + kc) (slots + nc) Q (F0 m (pc + 3) ls (v.toList ++ rest))) : W p g.1 e R s m args below meth c H locs cells slots Q (F0 m pc ls st0) := by
  intro T hT X
  obtain ⟨v', st₀, t, T', L', h0, X', hL, e1, e2, ⟨hv, hR⟩, stp⟩ := hr T hT X
  cases hv
  obtain ⟨t2, a1, b1⟩ := kk T'.heap (locs ++ L') (by rw [e1]; exact hR) (fun q hq => by
    rcases List.mem_append.mp hq with h | h
    · exact y11 q h
    · exact hL q h) T' rfl X'
  exact ⟨t2, stp t2 a1, b1⟩
/-- a call, as the judgement sees it -/
theorem am_liftC {dc lc : Nat} {yc : am_N} {desc : String} {vs stk : List Value} {postc : Option Value → am_S → Prop} (hc : am_M g yc desc dc lc vs S postc)
    (f : ∀ k n kc nc v S1 rv RS, am_N0 g yc desc dc lc kc nc vs S v S1 → am_V g y d lo k n rv RS (pc + 3) L (v.toList ++ st) S1 → am_V g y d lo (k + kc) (n + nc) rv RS pc L stk S)
    (h : ∀ v S', postc v S' → am_W g y d lo post (pc + 3) L (v.toList ++ st) S') : am_W g y d lo post pc L stk S := by
  obtain ⟨v, S1, m1, m2, hN, hp⟩ := hc
  obtain ⟨rv, RS, w1, w2, w3, w4⟩ := h v S1 hp
  have h5 := f _ _ _ _ _ _ _ _ hN w3
  have a1 : RS.2.1 - S1.2.1 + (S1.2.1 - S.2.1) = RS.2.1 - S.2.1 := by omega
  have a2 : RS.2.2 - S1.2.2 + (S1.2.2 - S.2.2) = RS.2.2 - S.2.2 := by omega
  rw [a1, a2] at h5
  exact ⟨rv, RS, by omega, by omega, h5, w4⟩
theorem am_rest {m : MethodId} {ls : Array Slot} {st0 rest : List Value} (h : (rest.map fun v => v.category).sum ≤ 8) : 2 * (F0 m pc ls st0).monitorRoom + (rest.map fun v => v.category).sum ≤ 8 := by
  show 2 * 0 + _ ≤ 8
  omega
section
variable {idx np dc lc : Nat} {yc : am_N} {desc : String} {vs stk : List Value} {postc : Option Value → am_S → Prop}
theorem am_warmC {s : State} {np : Nat} {yc : am_N} {desc : String} (hT : am_T g s) (hC : am_CY yc desc np) : ∀ w ∈ [Cond.code ⟨yc.1, yc.2.1, desc⟩ yc.2.2.1 yc.2.2.2.1 yc.2.2.2.2], ∀ (a' : Array Value) (U : State), s.WarmedH U.vm → w.before a' U = true := fun w hw a' U hW => by
  rw [List.mem_singleton.mp hw]
  exact (hT.warm hW).word a' hC.1
theorem am_np (hC : am_CY yc desc np) : ∀ sig, parseMethodDescriptor desc = some sig → np = sig.parameters.length := fun sig h => by
  have h2 := hC.2.2.2.2
  rw [h] at h2
  exact (Option.some.inj h2).symm
/-- a call of a static method -/
theorem am_callS (hd : am_D y.2.2.1 pc (.invokestatic idx) 3 pc1) (hC : am_CY yc desc np) (hM : am_ML y.1 idx ⟨yc.1, yc.2.1, desc⟩) (hs : Cond.static ⟨yc.1, yc.2.1, desc⟩ ∈ am_wz) (hst : stk = vs.reverse ++ st) (hn : vs.length = np) (hc : am_M g yc desc dc lc vs S postc) (hr : dc + 1 ≤ d ∧ 8 + (yc.2.2.2.1 + 11) + lc ≤ lo) (h8 : (st.map fun v => v.category).sum ≤ 8)
    (h : ∀ v S', postc v S' → am_W g y d lo post pc1 L (v.toList ++ st) S') : am_W g y d lo post pc L stk S := by
  obtain ⟨hd, rfl⟩ := hd
  refine am_liftC hc (fun k n kc nc v S1 rv RS hc h => ?_) h
  intro p e s m args below meth c H locs cells slots mc ms ls Y
  obtain ⟨y1, y2, y3, y4, y5, y6, y7, hT, y9, y10, y11, hR, hL⟩ := Y
  refine am_after (A := vs.toArray) (rest := st) (kc := kc) (nc := nc) y11 ?_ (fun H1 locs1 hR' hl' => h p e s m args below meth c H1 locs1 (cells + kc) (slots + nc) mc ms ls ⟨y1, y2, y3, y4, y5, y6, y7, hT, by omega, by omega, hl', hR', hL⟩)
  have hfix : CallFix p m c y.2.2.1 y.2.2.2.1 s args am_wz y.1 := ⟨y1, y2, y3, y6, fun w hw => hT.word args hw⟩
  rcases hM with hl | ⟨host, hl⟩
  · exact va_runS (n := np) hfix hc ⟨⟨rfl, rfl, hr.1, hr.2, am_warmC hT hC, List.mem_singleton_self _, hT.word args hC.1, hT.word args hC.2.1, ⟨hC.2.2.1, hC.2.2.2.1⟩, am_np hC, hT.word args hl⟩, hT.word args hs⟩ (am_preS hT hR vs) rfl hn hL.1 hst (am_rest h8) hd ⟨by show cells + kc ≤ mc; omega, by show slots + nc ≤ ms; omega⟩
  · exact va_runSN (n := np) hfix hc ⟨⟨⟨rfl, rfl, hr.1, hr.2, am_warmC hT hC, List.mem_singleton_self _⟩, hT.word args hC.1, hT.word args hC.2.1, ⟨hC.2.2.1, hC.2.2.2.1⟩, am_np hC, va_Nw.use rfl (hT.2.2.1 _ hl)⟩, hT.word args hs, trivial⟩ (am_preS hT hR vs) rfl hn hL.1 hst (am_rest h8) hd ⟨by show cells + kc ≤ mc; omega, by show slots + nc ≤ ms; omega⟩
/-- a call of a constructor -/
theorem am_callI {b : Nat} (hd : am_D y.2.2.1 pc (.invokespecial idx) 3 pc1) (hC : am_CY yc desc np) (hin : yc.2.1 = "<init>") (hre : yc.2.2.2.2 = none) (hM : am_ML y.1 idx ⟨yc.1, yc.2.1, desc⟩) (hs : Cond.instanceMethod ⟨yc.1, yc.2.1, desc⟩ ∈ am_wz) (hst : stk = vs.reverse ++ .ref b :: st) (hn : vs.length = np) (hc : am_M g yc desc dc lc (.ref b :: vs) S postc) (hr : dc + 1 ≤ d ∧ 8 + (yc.2.2.2.1 + 11) + lc ≤ lo) (h8 : (st.map fun v => v.category).sum ≤ 8)
    (h : ∀ v S', postc v S' → am_W g y d lo post pc1 L (v.toList ++ st) S') : am_W g y d lo post pc L stk S := by
  obtain ⟨hd, rfl⟩ := hd
  refine am_liftC hc (fun k n kc nc v S1 rv RS hc h => ?_) h
  intro p e s m args below meth c H locs cells slots mc ms ls Y
  obtain ⟨y1, y2, y3, y4, y5, y6, y7, hT, y9, y10, y11, hR, hL⟩ := Y
  obtain ⟨ycl, ynm, ybt, yml, yrt⟩ := yc
  simp only at hre hin
  subst hre
  refine am_after (A := (Value.ref b :: vs).toArray) (rest := st) (kc := kc) (nc := nc) y11 ?_ (fun H1 locs1 hR' hl' => h p e s m args below meth c H1 locs1 (cells + kc) (slots + nc) mc ms ls ⟨y1, y2, y3, y4, y5, y6, y7, hT, by omega, by omega, hl', hR', hL⟩)
  have hfix : CallFix p m c y.2.2.1 y.2.2.2.1 s args am_wz y.1 := ⟨y1, y2, y3, y6, fun w hw => hT.word args hw⟩
  rcases hM with hl | ⟨host, hl⟩
  · exact va_runI (n := np) hfix hc ⟨⟨rfl, rfl, hr.1, hr.2, am_warmC hT hC, List.mem_singleton_self _, hT.word args hC.1, hT.word args hC.2.1, ⟨hC.2.2.1, hC.2.2.2.1⟩, am_np hC, hT.word args hl⟩, hin, hT.word args hs⟩ (am_preS hT hR (.ref b :: vs)) rfl hn hL.1 hst (am_rest h8) hd ⟨by show cells + kc ≤ mc; omega, by show slots + nc ≤ ms; omega⟩
  · exact va_runIN (n := np) hfix hc ⟨⟨⟨rfl, rfl, hr.1, hr.2, am_warmC hT hC, List.mem_singleton_self _⟩, hT.word args hC.1, hT.word args hC.2.1, ⟨hC.2.2.1, hC.2.2.2.1⟩, am_np hC, va_Nw.use rfl (hT.2.2.1 _ hl)⟩, hin, hT.word args hs⟩ (am_preS hT hR (.ref b :: vs)) rfl hn hL.1 hst (am_rest h8) hd ⟨by show cells + kc ≤ mc; omega, by show slots + nc ≤ ms; omega⟩
/-- the object at an address, as calls and casts ask for it -/
theorem am_recv {s : State} {H : Heap} {b ci tb : Nat} {q : vw_C} {fs : List Value} (hT : am_T g s) (hR : am_R g S H) (hb : S.1 b = some (tb, .inr (ci, fs))) (hq : am_cl[ci]? = some q) : ∃ cell : Cell, H[b]? = some cell ∧ cell.vm.isStatics = false ∧ s.vm.findClass q.1 = some cell.cls := by
  obtain ⟨q', h1, -, cell, q1, q2, q3, -⟩ := hR.2.2.2.1 b _ _ hb
  cases h1.symm.trans hq
  exact ⟨cell, q1, by rw [q3]; rfl, by rw [q2]; exact (hT.2.2.2.2.2.1 ci q hq).2.1⟩
/-- a call of an object's method -/
theorem am_callV {b ci tb : Nat} {q : vw_C} {fs : List Value} (hd : am_D y.2.2.1 pc (.invokevirtual idx) 3 pc1) (hC : am_CY yc desc np) (hM : am_ML y.1 idx ⟨yc.1, yc.2.1, desc⟩) (hs : Cond.instanceMethod ⟨yc.1, yc.2.1, desc⟩ ∈ am_wz) (hq : am_cl[ci]? = some q) (hsel : Cond.selects q.1 ⟨yc.1, yc.2.1, desc⟩ ⟨yc.1, yc.2.1, desc⟩ ∈ am_wz) (hb : S.1 b = some (tb, .inr (ci, fs))) (hst : stk = vs.reverse ++ .ref b :: st) (hn : vs.length = np) (hc : am_M g yc desc dc lc (.ref b :: vs) S postc) (hr : dc + 1 ≤ d ∧ 8 + (yc.2.2.2.1 + 11) + lc ≤ lo) (h8 : (st.map fun v => v.category).sum ≤ 8)
    (h : ∀ v S', postc v S' → am_W g y d lo post pc1 L (v.toList ++ st) S') : am_W g y d lo post pc L stk S := by
  obtain ⟨hd, rfl⟩ := hd
  refine am_liftC hc (fun k n kc nc v S1 rv RS hc h => ?_) h
  intro p e s m args below meth c H locs cells slots mc ms ls Y
  obtain ⟨y1, y2, y3, y4, y5, y6, y7, hT, y9, y10, y11, hR, hL⟩ := Y
  refine am_after (A := (Value.ref b :: vs).toArray) (rest := st) (kc := kc) (nc := nc) y11 ?_ (fun H1 locs1 hR' hl' => h p e s m args below meth c H1 locs1 (cells + kc) (slots + nc) mc ms ls ⟨y1, y2, y3, y4, y5, y6, y7, hT, by omega, by omega, hl', hR', hL⟩)
  have hfix : CallFix p m c y.2.2.1 y.2.2.2.1 s args am_wz y.1 := ⟨y1, y2, y3, y6, fun w hw => hT.word args hw⟩
  have hpre : PreV s H q.1 b (va_Pc (.ref b :: vs) (fun U => am_T g U ∧ am_R g S U.heap)) vs := ⟨am_blind g _ S, am_recv hT hR hb hq, (am_preS hT hR (.ref b :: vs)).2⟩
  rcases hM with hl | ⟨host, hl⟩
  · exact va_runV (C := q.1) (n := np) hfix hc ⟨⟨rfl, rfl, hr.1, hr.2, am_warmC hT hC, List.mem_singleton_self _, hT.word args hC.1, hT.word args hC.2.1, ⟨hC.2.2.1, hC.2.2.2.1⟩, am_np hC, hT.word args hl⟩, hT.word args hs, hT.word args hsel⟩ hpre rfl hn hL.1 hst (am_rest h8) hd ⟨by show cells + kc ≤ mc; omega, by show slots + nc ≤ ms; omega⟩
  · exact va_runVN (C := q.1) (n := np) hfix hc ⟨⟨⟨rfl, rfl, hr.1, hr.2, am_warmC hT hC, List.mem_singleton_self _⟩, hT.word args hC.1, hT.word args hC.2.1, ⟨hC.2.2.1, hC.2.2.2.1⟩, am_np hC, va_Nw.use rfl (hT.2.2.1 _ hl)⟩, hT.word args hs, hT.word args hsel⟩ hpre rfl hn hL.1 hst (am_rest h8) hd ⟨by show cells + kc ≤ mc; omega, by show slots + nc ≤ ms; omega⟩
end
/-- Object's constructor -/
theorem am_objInit {idx b : Nat} (hd : am_D y.2.2.1 pc (.invokespecial idx) 3 pc1) (hl : Cond.methodLink y.1 idx Lib.objectInit ∈ am_wz) (hi : Cond.instanceMethod Lib.objectInit ∈ am_wz) (hc : Cond.code Lib.objectInit ⟨#[0xb1]⟩ 1 none ∈ am_wz) (h1 : 1 ≤ d) (h8 : (st.map fun v => v.category).sum + 12 ≤ lo) (h : am_W g y d lo post pc1 L st S) : am_W g y d lo post pc L (.ref b :: st) S := by
  obtain ⟨hd, rfl⟩ := hd
  refine am_lift (by rfl) (fun k n rv RS h => ?_) h
  intro p e s m args below meth c H locs cells slots mc ms ls Y
  have W1 := h p e s m args below meth c H locs cells slots mc ms ls Y
  obtain ⟨y1, y2, y3, y4, y5, y6, y7, hT, y9, y10, y11, hR, hL⟩ := Y
  refine W.objInit y1 y2 y6 (hT.word args hl) (hT.word args hi) (hT.word args hc) rfl (by rw [y3]; exact hL.1) rfl hd h1 ?_ W1
  show 2 * 0 + _ + 12 ≤ lo
  omega
/-- casts -/
theorem am_castN {idx : Nat} (hd : am_D y.2.2.1 pc (.checkcast idx) 3 pc1) (h : am_W g y d lo post pc1 L (.null :: st) S) : am_W g y d lo post pc L (.null :: st) S := by
  obtain ⟨hd, rfl⟩ := hd
  refine am_lift (by rfl) (fun k n rv RS h => ?_) h
  intro p e s m args below meth c H locs cells slots mc ms ls Y
  exact lv_castN Y.1 Y.2.1 hd (h p e s m args below meth c H locs cells slots mc ms ls Y)
theorem am_cast {idx b ci tb : Nat} {q : vw_C} {fs : List Value} {nm : String} (hd : am_D y.2.2.1 pc (.checkcast idx) 3 pc1) (hl : Cond.classLink y.1 idx nm ∈ am_wz) (hq : am_cl[ci]? = some q) (hn : q.1 = nm ∨ (q.1, nm) ∈ am_nC) (hb : S.1 b = some (tb, .inr (ci, fs))) (h : am_W g y d lo post pc1 L (.ref b :: st) S) : am_W g y d lo post pc L (.ref b :: st) S := by
  obtain ⟨hd, rfl⟩ := hd
  refine am_lift (by rfl) (fun k n rv RS h => ?_) h
  intro p e s m args below meth c H locs cells slots mc ms ls Y
  have W1 := h p e s m args below meth c H locs cells slots mc ms ls Y
  obtain ⟨y1, y2, y3, y4, y5, y6, y7, hT, y9, y10, y11, hR, hL⟩ := Y
  have hr := am_recv hT hR hb hq
  rcases hn with rfl | hn
  · exact va_castS y1 y2 y6 (hT.word args hl) (hT.2.2.2.2.2.1 ci q hq).2 hr hd W1
  · exact va_castY y1 y2 y6 (hT.word args hl) (hT.2.2.2.1 _ hn) hr hd W1
/-- a reference is written into an array: the object's class is the array's, or may stand for it -/
theorem am_aast {tg t a j b ci tb : Nat} {vs : List Value} {x : Int32} {C : String} {q : vw_C} {fs : List Value} (hd : am_D y.2.2.1 pc (.aastore) 1 pc1) (ht : am_ak[t]? = some (.object C)) (ha : S.1 a = some (tg, .inl (t, vs))) (ht0 : tg ≠ 0) (hb : S.1 b = some (tb, .inr (ci, fs))) (hq : am_cl[ci]? = some q) (hn : q.1 = C ∨ (q.1, C) ∈ am_nC) (hx : x = nI j) (hj : j < vs.length) (hl : vs.length < 2 ^ 31) (h : am_W g y d lo post pc1 L st (am_up S a tg (.inl (t, vs.set j (.ref b))))) : am_W g y d lo post pc L (.ref b :: .int x :: .ref a :: st) S := by
  obtain ⟨hd, rfl⟩ := hd
  refine am_lift (by rfl) (fun k n rv RS h => ?_) h
  intro p e s m args below meth c H locs cells slots mc ms ls Y
  have hT := Y.2.2.2.2.2.2.2.1
  have hR := Y.2.2.2.2.2.2.2.2.2.2.2.1
  obtain ⟨cellV, g1, g3, g2⟩ := am_recv hT hR hb hq
  obtain ⟨kA, comp, k1, k2, k3, -⟩ := (hT.2.2.2.2.2.2.1 t _ ht).2
  obtain ⟨kE, hkE, -⟩ := Vm.findClass_spec k3
  obtain ⟨kC, hkC, -⟩ := Vm.findClass_spec g2
  have hasg : s.vm.assignable cellV.cls comp = true := by
    rcases hn with hn | hn
    · exact vb_asgS comp cellV.cls k3 (by rw [← hn]; exact g2)
    · exact vb_asgC (hT.2.2.2.1 _ hn) comp cellV.cls k3 g2
  obtain ⟨hin, hc⟩ := am_inb (cA := g.arr t) hx hj hl
  refine W.aast Y.1 Y.2.1 (hR.2.2.2.1 a _ _ ha) (fun q h => by cases h) (fun h => by cases h) k1 k2 rfl hkE ⟨fun z => hin (Or.inl z), Nat.not_le.mp fun z => hin (Or.inr z)⟩ g1 (fun q h => by rw [h] at g3; cases g3) hkC hasg rfl rfl hd fun H1 e1 z oq => ?_
  rw [hc] at e1 ⊢
  exact am_wrote Y (hR.2.2.2.2 a _ _ ha ht0) h e1 z oq
end AME
/-! more rows: a boolean's write, copies, class objects, constants -/
section AMM
variable {g : am_G} {y : am_N} {d lo : Nat} {post : Option Value → am_S → Prop} {pc pc1 : Nat} {L : List (Option Value)} {st : List Value} {S : am_S}
theorem am_zast {tg t a j : Nat} {vs : List Value} {x v : Int32} (hd : am_D y.2.2.1 pc (.bastore) 1 pc1) (ht : am_ak[t]? = some .boolean) (ha : S.1 a = some (tg, .inl (t, vs))) (ht0 : tg ≠ 0) (hx : x = nI j) (hj : j < vs.length) (hl : vs.length < 2 ^ 31) (hv : narrow .boolean (.int v) = .int v) (h : am_W g y d lo post pc1 L st (am_up S a tg (.inl (t, vs.set j (.int v))))) : am_W g y d lo post pc L (.int v :: .int x :: .ref a :: st) S := by
  obtain ⟨hd, rfl⟩ := hd
  refine am_lift (by rfl) (fun k n rv RS h => ?_) h
  intro p e s m args below meth c H locs cells slots mc ms ls Y
  obtain ⟨hin, hc⟩ := am_inb (cA := g.arr t) hx hj hl
  refine W.zast Y.1 Y.2.1 (Y.2.2.2.2.2.2.2.2.2.2.2.1.2.2.2.1 a _ _ ha) (am_isArr (Y.2.2.2.2.2.2.2.1.2.2.2.2.2.2.1 t _ ht).1 vs) (fun z => by cases z) hin rfl rfl hd fun H1 e1 z oq => ?_
  rw [hc, hv] at e1
  rw [hc]
  exact am_wrote Y (Y.2.2.2.2.2.2.2.2.2.2.2.1.2.2.2.2 a _ _ ha ht0) h e1 z oq
theorem am_ldc {idx : Nat} {v : Int32} (hd : am_D y.2.2.1 pc (.ldc idx) 2 pc1) (hl : Cond.constant y.1 idx v ∈ am_wz) (h : am_W g y d lo post pc1 L (.int v :: st) S) : am_W g y d lo post pc L st S := by
  obtain ⟨hd, rfl⟩ := hd
  refine am_lift (by rfl) (fun k n rv RS h => ?_) h
  intro p e s m args below meth c H locs cells slots mc ms ls Y
  exact lv_ldc Y.1 Y.2.1 Y.2.2.2.2.2.1 (Y.2.2.2.2.2.2.2.1.word args hl) hd (h p e s m args below meth c H locs cells slots mc ms ls Y)
theorem am_ldcM {idx : Nat} (hd : am_D y.2.2.1 pc (.ldc idx) 2 pc1) (hl : Cond.classLink y.1 idx "[Ljava/lang/Object;" ∈ am_wz) (h : am_W g y d lo post pc1 L (.ref g.mir :: st) S) : am_W g y d lo post pc L st S := by
  obtain ⟨hd, rfl⟩ := hd
  refine am_lift (by rfl) (fun k n rv RS h => ?_) h
  intro p e s m args below meth c H locs cells slots mc ms ls Y
  exact va_ldcM Y.1 Y.2.1 Y.2.2.2.2.2.1 (Y.2.2.2.2.2.2.2.1.word args hl) Y.2.2.2.2.2.2.2.1.2.2.2.2.2.2.2.2.1 hd (h p e s m args below meth c H locs cells slots mc ms ls Y)
/-- the class of an array of objects -/
theorem am_getC {idx a tg t : Nat} {vs : List Value} (hd : am_D y.2.2.1 pc (.invokevirtual idx) 3 pc1) (hl : Cond.methodLink y.1 idx ⟨"java/lang/Object", "getClass", "()Ljava/lang/Class;"⟩ ∈ am_wz)
    (hsel : Cond.selects "[Ljava/lang/Object;" ⟨"java/lang/Object", "getClass", "()Ljava/lang/Class;"⟩ ⟨"java/lang/Object", "getClass", "()Ljava/lang/Class;"⟩ ∈ am_wz) (hinst : Cond.instanceMethod ⟨"java/lang/Object", "getClass", "()Ljava/lang/Class;"⟩ ∈ am_wz) (hnat : Cond.native ⟨"java/lang/Object", "getClass", "()Ljava/lang/Class;"⟩ ∈ am_wz)
    (ht : am_ak[t]? = some (.object "java/lang/Object")) (ha : S.1 a = some (tg, .inl (t, vs))) (h1 : 1 ≤ d) (h8 : (st.map fun v => v.category).sum + 14 ≤ lo) (h : am_W g y d lo post pc1 L (.ref g.mir :: st) S) : am_W g y d lo post pc L (.ref a :: st) S := by
  obtain ⟨hd, rfl⟩ := hd
  refine am_lift (by rfl) (fun k n rv RS h => ?_) h
  intro p e s m args below meth c H locs cells slots mc ms ls Y
  have W1 := h p e s m args below meth c H locs cells slots mc ms ls Y
  obtain ⟨y1, y2, y3, y4, y5, y6, y7, hT, y9, y10, y11, hR, hL⟩ := Y
  refine va_getC (C := "[Ljava/lang/Object;") y1 y2 (y3.trans hL.1.symm) y6 (hT.word args hl) hT.2.2.2.2.2.2.2.2.2.use (hT.word args hsel) (hT.word args hinst) (hT.word args hnat) hT.2.2.2.2.2.2.2.2.1 ⟨_, hR.2.2.2.1 a _ _ ha, rfl, ?_⟩ h1 h8 hd W1
  exact va_nmO (hT.2.2.2.2.2.2.1 t _ ht).2 rfl
/-- n places of xs from sp on, laid into ys from dp on -/
def am_cpy (xs ys : List Value) (sp dp n : Nat) : List Value := (List.range ys.length).map (fun k => if dp ≤ k ∧ k < dp + n then xs.getD (sp + (k - dp)) .null else ys.getD k .null)
theorem am_cpy_len (xs ys : List Value) (sp dp n : Nat) : (am_cpy xs ys sp dp n).length = ys.length := by simp [am_cpy]
theorem am_cellV (cA : ClassId) (vs : List Value) : am_cell cA vs = arrV cA vs.length (fun j => vs.getD j .null) := by
  unfold am_cell arrV
  congr 1
  apply Array.ext
  · simp
  · intro i h1 h2
    simp at h1
    simp [h1]
/-- null, or an object that may stand in an array of objects -/
def am_obj (S : am_S) (v : Value) : Prop := v = .null ∨ ∃ (b tb ci : Nat) (q : vw_C) (fs : List Value), v = .ref b ∧ S.1 b = some (tb, .inr (ci, fs)) ∧ am_cl[ci]? = some q ∧ (q.1, "java/lang/Object") ∈ am_nC
theorem am_copy {idx a0 a1 t tg0 tg1 sp dp N : Nat} {xs ys : List Value} (hd : am_D y.2.2.1 pc (.invokestatic idx) 3 pc1)
    (hl : Cond.methodLink y.1 idx arraycopyName ∈ am_wz) (hnat : Cond.native arraycopyName ∈ am_wz) (hstat : Cond.static arraycopyName ∈ am_wz) (hini : Cond.initialized "java/lang/System" ∈ am_wz)
    (ht : am_ak[t]? = some (.object "java/lang/Object")) (h0 : S.1 a0 = some (tg0, .inl (t, xs))) (h1 : S.1 a1 = some (tg1, .inl (t, ys))) (ht1 : tg1 ≠ 0) (hs : sp + N ≤ xs.length) (hdd : dp + N ≤ ys.length) (hxs : xs.length < 2 ^ 31) (hys : ys.length < 2 ^ 31)
    (hel : ∀ i, i < N → am_obj S (xs.getD (sp + i) .null)) (hfr : 1 ≤ d) (h8 : (st.map fun v => v.category).sum + 18 ≤ lo)
    (h : am_W g y d lo post pc1 L st (am_up S a1 tg1 (.inl (t, am_cpy xs ys sp dp N)))) : am_W g y d lo post pc L (.int (nI N) :: .int (nI dp) :: .ref a1 :: .int (nI sp) :: .ref a0 :: st) S := by
  obtain ⟨hd, rfl⟩ := hd
  refine am_lift (by rfl) (fun k n rv RS h => ?_) h
  intro p e s m args below meth c H locs cells slots mc ms ls Y
  obtain ⟨y1, y2, y3, y4, y5, y6, y7, hT, y9, y10, y11, hR, hL⟩ := Y
  have hc0 : H[a0]? = some (am_cell (g.arr t) xs) := hR.2.2.2.1 a0 _ _ h0
  have hc1 : H[a1]? = some (am_cell (g.arr t) ys) := hR.2.2.2.1 a1 _ _ h1
  obtain ⟨-, k0, hk0, cm0, hkk0⟩ := am_isArr (hT.2.2.2.2.2.2.1 t _ ht).1 xs
  have e1 : copied (am_cell (g.arr t) xs) (am_cell (g.arr t) ys) (nI sp) (nI dp) (nI N) = am_cell (g.arr t) (am_cpy xs ys sp dp N) := by
    have h2 := va_copied (fun z : Value => z) (g.arr t) (g.arr t) (n0 := xs.length) (n1 := ys.length) (sp := sp) (dp := dp) (n := N) (fun j => xs.getD j .null) (fun j => ys.getD j .null) hs
    unfold copied
    rw [nI_clamp (by omega : sp < 2 ^ 31), nI_clamp (by omega : dp < 2 ^ 31), nI_clamp (by omega : N < 2 ^ 31), am_cellV, am_cellV, am_cellV, am_cpy_len]
    refine h2.trans ?_
    unfold arrV
    congr 1
    apply Array.ext
    · simp
    · intro i i1 i2
      simp at i1
      simp [am_cpy, va_cpy, i1]
  have hl1 : a1 < H.size := (Array.getElem?_eq_some_iff.mp hc1).1
  intro T hTh X
  obtain ⟨vm', X', step⟩ := X.arraycopy y1 y6 (hT.word args hl) (hT.word args hnat) (hT.word args hstat) (hT.word args hini) (src := a0) (dst := a1) (cs := am_cell (g.arr t) xs) (cd := am_cell (g.arr t) ys) (srcPos := nI sp) (destPos := nI dp) (n := nI N) (by rw [hTh]; exact hc0) (by rw [hTh]; exact hc1)
    (fun _ h => by cases h) (fun _ h => by cases h) (fun h => by cases h) (fun h => by cases h) hk0 hk0 hkk0 hkk0 rfl (nI_pos (by omega)) (nI_pos (by omega)) (nI_pos (by omega))
    (by rw [nI_toInt (by omega), nI_toInt (by omega)]; simp [am_cell]; omega)
    (by rw [nI_toInt (by omega), nI_toInt (by omega)]; simp [am_cell]; omega)
    (fun vm₁ hal i hi => by
      rw [nI_clamp (by omega : N < 2 ^ 31)] at hi
      have e : (am_cell (g.arr t) xs).slots.getD ((nI sp).toNatClampNeg + i) .null = xs.getD (sp + i) .null := by
        rw [nI_clamp (by omega : sp < 2 ^ 31)]
        simp [am_cell]
      rw [e]
      rcases hel i hi with hn | ⟨b, tb, ci, q, fs, hb, hb2, hq, hca⟩
      · rw [hn]; exact ⟨rfl, trivial⟩
      · rw [hb]
        obtain ⟨cellV, g1, g2, g3⟩ := am_recv hT hR hb2 hq
        obtain ⟨kC, hkC, -⟩ := Vm.findClass_spec g3
        obtain ⟨kA, comp, r1, r2, r3, -⟩ := (hT.2.2.2.2.2.2.1 t _ ht).2
        cases hk0.symm.trans r1
        cases hkk0.symm.trans r2
        obtain ⟨kE, hkE, -⟩ := Vm.findClass_spec r3
        obtain ⟨kC', hkC', -⟩ := hal.2.2 _ _ hkC
        obtain ⟨kE', hkE', -⟩ := hal.2.2 _ _ hkE
        refine ⟨rfl, cellV, (show T.heap[b]? = some cellV by rw [hTh]; exact g1), (fun q h => by rw [h] at g2; cases g2), ⟨kC', hkC'⟩, ?_, ?_⟩
        · exact ⟨kE', hkE'⟩
        · show vm₁.assignable _ _ = true
          rw [hal.assignable]
          exact vb_asgC (hT.2.2.2.1 _ hca) _ _ r3 g3)
    (g := F0 m pc ls (.int (nI N) :: .int (nI dp) :: .ref a1 :: .int (nI sp) :: .ref a0 :: st)) rfl (by rw [y3]; exact hL.1) (rest := st) rfl (by rw [y2]; exact hd) hfr (by
      have hw : nativeFrameWords "java/lang/System" "arraycopy" 5 = 7 := by decide
      show 2 * 0 + _ + _ ≤ lo
      omega)
  rw [e1] at X' step
  have hheap : ((T.setVm vm').setCell a1 (am_cell (g.arr t) (am_cpy xs ys sp dp N))).heap = H.setIfInBounds a1 (am_cell (g.arr t) (am_cpy xs ys sp dp N)) := by rw [← hTh]; rfl
  obtain ⟨t', a1', b1⟩ := h p e s m args below meth c (H.setIfInBounds a1 (am_cell (g.arr t) (am_cpy xs ys sp dp N))) _ cells slots mc ms ls ⟨y1, y2, y3, y4, y5, y6, y7, hT, y9, y10, (fun q hq => by
      rcases List.mem_append.mp hq with h | h
      · exact y11 q h
      · obtain ⟨z, -, hz⟩ := List.mem_map.mp h
        rw [← hz]
        exact hR.2.2.2.2 a1 _ _ h1 ht1), hR.put tg1 (hR.2.2.2.2 a1 _ _ h1 ht1) (by simp) (fun q hq => by simp [Array.getElem?_setIfInBounds, Ne.symm hq]) (show (H.setIfInBounds a1 _)[a1]? = some _ by simp [Array.getElem?_setIfInBounds, hl1]), hL⟩ _ hheap X'
  exact ⟨t', step t' a1', b1⟩
end AMM
end
section
/-! the judgement over an abstract state: P says how a store holds it, X which tags may change -/
def gm_W {σ : Type} (P : σ → am_S → Prop) (X : Nat → Prop) (g : am_G) (y : am_N) (d lo : Nat) (post : Option Value → σ → Prop) (pc : Nat) (L : List (Option Value)) (st : List Value) (s : σ) : Prop :=
  ∀ S : am_S, P s S → am_W g y d lo (fun v S' => ∃ s', P s' S' ∧ am_fr X S S' ∧ post v s') pc L st S
def gm_M {σ : Type} (P : σ → am_S → Prop) (X : Nat → Prop) (g : am_G) (y : am_N) (desc : String) (d lo : Nat) (vs : List Value) (post : Option Value → σ → Prop) (s : σ) : Prop :=
  ∀ S : am_S, P s S → am_M g y desc d lo vs S (fun v S' => ∃ s', P s' S' ∧ am_fr X S S' ∧ post v s')
section GMR
variable {σ : Type} {P : σ → am_S → Prop} {X : Nat → Prop} {g : am_G} {y : am_N} {d lo : Nat} {post post' : Option Value → σ → Prop} {pc pc1 : Nat} {L L1 : List (Option Value)} {st st1 : List Value} {s : σ}
theorem gm_post (hp : ∀ v s', post v s' → post' v s') (h : gm_W P X g y d lo post pc L st s) : gm_W P X g y d lo post' pc L st s := fun S hS => am_post (fun v S' ⟨s', h1, h2, h3⟩ => ⟨s', h1, h2, hp v s' h3⟩) (h S hS)
theorem gm_Mpost {desc : String} {vs : List Value} (hp : ∀ v s', post v s' → post' v s') (h : gm_M P X g y desc d lo vs post s) : gm_M P X g y desc d lo vs post' s := fun S hS => (h S hS).post (fun v S' ⟨s', h1, h2, h3⟩ => ⟨s', h1, h2, hp v s' h3⟩)
theorem gm_M.of {desc : String} {vs : List Value} {L0 : List (Option Value)} (hy : plainName y.1 = true) (hc : ∀ v ∈ vs, v.category = 1) (hl : vs.length ≤ y.2.2.2.1) (hL : am_L0 vs y.2.2.2.1 = L0) (h : gm_W P X g y d lo post 0 L0 [] s) : gm_M P X g y desc d lo vs post s := fun S hS => am_M.of hy hc hl (by rw [hL]; exact h S hS)
theorem gm_drop (hl : L1.length = L.length) (hL : ∀ (i : Nat) (v : Value), L1[i]? = some (some v) → L[i]? = some (some v)) (h : gm_W P X g y d lo post pc L1 st s) : gm_W P X g y d lo post pc L st s := fun S hS => am_drop hl hL (h S hS)
theorem gm_iconst {z : Int} {v : Int32} (hd : am_D y.2.2.1 pc (.iconst z) 1 pc1) (hv : Int32.ofInt z = v) (h : gm_W P X g y d lo post pc1 L (.int v :: st) s) : gm_W P X g y d lo post pc L (st) s := fun S hS => am_iconst hd hv (h S hS)
theorem gm_bipush {z : Int} {v : Int32} (hd : am_D y.2.2.1 pc (.bipush z) 2 pc1) (hv : (Int8.ofInt z).toInt32 = v) (h : gm_W P X g y d lo post pc1 L (.int v :: st) s) : gm_W P X g y d lo post pc L (st) s := fun S hS => am_bipush hd hv (h S hS)
theorem gm_sipush {z : Int} {v : Int32} (hd : am_D y.2.2.1 pc (.sipush z) 3 pc1) (hv : (Int16.ofInt z).toInt32 = v) (h : gm_W P X g y d lo post pc1 L (.int v :: st) s) : gm_W P X g y d lo post pc L (st) s := fun S hS => am_sipush hd hv (h S hS)
theorem gm_null (hd : am_D y.2.2.1 pc (.aconst_null) 1 pc1) (h : gm_W P X g y d lo post pc1 L (.null :: st) s) : gm_W P X g y d lo post pc L (st) s := fun S hS => am_null hd (h S hS)
theorem gm_iload_n {j : Fin 4} {x : Int32} (hd : am_D y.2.2.1 pc (.iload_n j) 1 pc1) (hl : L[(j : Nat)]? = some (some (.int x))) (h : gm_W P X g y d lo post pc1 L (.int x :: st) s) : gm_W P X g y d lo post pc L st s := fun S hS => am_iload_n hd hl (h S hS)
theorem gm_iload {j : Nat} {x : Int32} (hd : am_D y.2.2.1 pc (.iload j) 2 pc1) (hl : L[j]? = some (some (.int x))) (h : gm_W P X g y d lo post pc1 L (.int x :: st) s) : gm_W P X g y d lo post pc L st s := fun S hS => am_iload hd hl (h S hS)
theorem gm_aload_n {j : Fin 4} {v : Value} (hd : am_D y.2.2.1 pc (.aload_n j) 1 pc1) (hl : L[(j : Nat)]? = some (some v)) (hv : am_rv v) (h : gm_W P X g y d lo post pc1 L (v :: st) s) : gm_W P X g y d lo post pc L st s := fun S hS => am_aload_n hd hl hv (h S hS)
theorem gm_aload {j : Nat} {v : Value} (hd : am_D y.2.2.1 pc (.aload j) 2 pc1) (hl : L[j]? = some (some v)) (hv : am_rv v) (h : gm_W P X g y d lo post pc1 L (v :: st) s) : gm_W P X g y d lo post pc L st s := fun S hS => am_aload hd hl hv (h S hS)
theorem gm_istore_n {j : Fin 4} {x : Int32} (hd : am_D y.2.2.1 pc (.istore_n j) 1 pc1) (hj : (j : Nat) < y.2.2.2.1) (hL : L.set (j : Nat) (some (.int x)) = L1) (h : gm_W P X g y d lo post pc1 L1 st s) : gm_W P X g y d lo post pc L (.int x :: st) s := fun S hS => am_istore_n hd hj hL (h S hS)
theorem gm_istore {j : Nat} {x : Int32} (hd : am_D y.2.2.1 pc (.istore j) 2 pc1) (hj : j < y.2.2.2.1) (hL : L.set j (some (.int x)) = L1) (h : gm_W P X g y d lo post pc1 L1 st s) : gm_W P X g y d lo post pc L (.int x :: st) s := fun S hS => am_istore hd hj hL (h S hS)
theorem gm_astore_n {j : Fin 4} {v : Value} (hd : am_D y.2.2.1 pc (.astore_n j) 1 pc1) (hj : (j : Nat) < y.2.2.2.1) (hv : am_rv v) (hL : L.set (j : Nat) (some v) = L1) (h : gm_W P X g y d lo post pc1 L1 st s) : gm_W P X g y d lo post pc L (v :: st) s := fun S hS => am_astore_n hd hj hv hL (h S hS)
theorem gm_astore {j : Nat} {v : Value} (hd : am_D y.2.2.1 pc (.astore j) 2 pc1) (hj : j < y.2.2.2.1) (hv : am_rv v) (hL : L.set j (some v) = L1) (h : gm_W P X g y d lo post pc1 L1 st s) : gm_W P X g y d lo post pc L (v :: st) s := fun S hS => am_astore hd hj hv hL (h S hS)
theorem gm_iinc {j : Nat} {z : Int} {x v : Int32} (hd : am_D y.2.2.1 pc (.iinc j z) 3 pc1) (hl : L[j]? = some (some (.int x))) (hv : x + Int32.ofInt z = v) (hj : j < y.2.2.2.1) (hL : L.set j (some (.int v)) = L1) (h : gm_W P X g y d lo post pc1 L1 st s) : gm_W P X g y d lo post pc L st s := fun S hS => am_iinc hd hl hv hj hL (h S hS)
theorem gm_iadd {x z : Int32} (hd : am_D y.2.2.1 pc (.iadd) 1 pc1) (h : gm_W P X g y d lo post pc1 L (.int (x + z) :: st) s) : gm_W P X g y d lo post pc L (.int z :: .int x :: st) s := fun S hS => am_iadd hd (h S hS)
theorem gm_isub {x z : Int32} (hd : am_D y.2.2.1 pc (.isub) 1 pc1) (h : gm_W P X g y d lo post pc1 L (.int (x - z) :: st) s) : gm_W P X g y d lo post pc L (.int z :: .int x :: st) s := fun S hS => am_isub hd (h S hS)
theorem gm_imul {x z : Int32} (hd : am_D y.2.2.1 pc (.imul) 1 pc1) (h : gm_W P X g y d lo post pc1 L (.int (x * z) :: st) s) : gm_W P X g y d lo post pc L (.int z :: .int x :: st) s := fun S hS => am_imul hd (h S hS)
theorem gm_iand {x z : Int32} (hd : am_D y.2.2.1 pc (.iand) 1 pc1) (h : gm_W P X g y d lo post pc1 L (.int (x &&& z) :: st) s) : gm_W P X g y d lo post pc L (.int z :: .int x :: st) s := fun S hS => am_iand hd (h S hS)
theorem gm_ior {x z : Int32} (hd : am_D y.2.2.1 pc (.ior) 1 pc1) (h : gm_W P X g y d lo post pc1 L (.int (x ||| z) :: st) s) : gm_W P X g y d lo post pc L (.int z :: .int x :: st) s := fun S hS => am_ior hd (h S hS)
theorem gm_ixor {x z : Int32} (hd : am_D y.2.2.1 pc (.ixor) 1 pc1) (h : gm_W P X g y d lo post pc1 L (.int (x ^^^ z) :: st) s) : gm_W P X g y d lo post pc L (.int z :: .int x :: st) s := fun S hS => am_ixor hd (h S hS)
theorem gm_ishl {x z : Int32} (hd : am_D y.2.2.1 pc (.ishl) 1 pc1) (h : gm_W P X g y d lo post pc1 L (.int (x <<< (z &&& 31)) :: st) s) : gm_W P X g y d lo post pc L (.int z :: .int x :: st) s := fun S hS => am_ishl hd (h S hS)
theorem gm_ishr {x z : Int32} (hd : am_D y.2.2.1 pc (.ishr) 1 pc1) (h : gm_W P X g y d lo post pc1 L (.int (x >>> (z &&& 31)) :: st) s) : gm_W P X g y d lo post pc L (.int z :: .int x :: st) s := fun S hS => am_ishr hd (h S hS)
theorem gm_idiv {x z : Int32} (hd : am_D y.2.2.1 pc (.idiv) 1 pc1) (hz : ¬ z = 0) (h : gm_W P X g y d lo post pc1 L (.int (x / z) :: st) s) : gm_W P X g y d lo post pc L (.int z :: .int x :: st) s := fun S hS => am_idiv hd hz (h S hS)
theorem gm_irem {x z : Int32} (hd : am_D y.2.2.1 pc (.irem) 1 pc1) (hz : ¬ z = 0) (h : gm_W P X g y d lo post pc1 L (.int (x - x / z * z) :: st) s) : gm_W P X g y d lo post pc L (.int z :: .int x :: st) s := fun S hS => am_irem hd hz (h S hS)
theorem gm_iushr {x z v : Int32} (hd : am_D y.2.2.1 pc (.iushr) 1 pc1) (hv : (x.toUInt32 >>> (z.toUInt32 &&& Int32.toUInt32 31)).toInt32 = v) (h : gm_W P X g y d lo post pc1 L (.int v :: st) s) : gm_W P X g y d lo post pc L (.int z :: .int x :: st) s := fun S hS => am_iushr hd hv (h S hS)
theorem gm_ineg {x : Int32} (hd : am_D y.2.2.1 pc (.ineg) 1 pc1) (h : gm_W P X g y d lo post pc1 L (.int (-x) :: st) s) : gm_W P X g y d lo post pc L (.int x :: st) s := fun S hS => am_ineg hd (h S hS)
theorem gm_dup {v : Value} (hd : am_D y.2.2.1 pc (.dup) 1 pc1) (hv : v.category = 1) (h : gm_W P X g y d lo post pc1 L (v :: v :: st) s) : gm_W P X g y d lo post pc L (v :: st) s := fun S hS => am_dup hd hv (h S hS)
theorem gm_pop {v : Value} (hd : am_D y.2.2.1 pc (.pop) 1 pc1) (hv : v.category = 1) (h : gm_W P X g y d lo post pc1 L (st) s) : gm_W P X g y d lo post pc L (v :: st) s := fun S hS => am_pop hd hv (h S hS)
theorem gm_dup_x1 {v u : Value} (hd : am_D y.2.2.1 pc (.dup_x1) 1 pc1) (hv : v.category = 1) (hu : u.category = 1) (h : gm_W P X g y d lo post pc1 L (v :: u :: v :: st) s) : gm_W P X g y d lo post pc L (v :: u :: st) s := fun S hS => am_dup_x1 hd hv hu (h S hS)
theorem gm_dup_x2 {v u t : Value} (hd : am_D y.2.2.1 pc (.dup_x2) 1 pc1) (hv : v.category = 1) (hu : u.category = 1) (ht : t.category = 1) (h : gm_W P X g y d lo post pc1 L (v :: u :: t :: v :: st) s) : gm_W P X g y d lo post pc L (v :: u :: t :: st) s := fun S hS => am_dup_x2 hd hv hu ht (h S hS)
theorem gm_dup2 {v u : Value} (hd : am_D y.2.2.1 pc (.dup2) 1 pc1) (hv : v.category = 1) (hu : u.category = 1) (h : gm_W P X g y d lo post pc1 L (v :: u :: v :: u :: st) s) : gm_W P X g y d lo post pc L (v :: u :: st) s := fun S hS => am_dup2 hd hv hu (h S hS)
theorem gm_if_eq {x : Int32} {off : Int} {tgt : Nat} (hd : am_D y.2.2.1 pc (.ifCond .eq off) 3 pc1) (ht : (pc : Int) + off = (tgt : Int)) (kt : x = 0 → gm_W P X g y d lo post tgt L st s) (kf : ¬ x = 0 → gm_W P X g y d lo post pc1 L st s) : gm_W P X g y d lo post pc L (.int x :: st) s := fun S hS => am_if_eq hd ht (fun q => kt q S hS) (fun q => kf q S hS)
theorem gm_icmp_eq {x z : Int32} {off : Int} {tgt : Nat} (hd : am_D y.2.2.1 pc (.if_icmp .eq off) 3 pc1) (ht : (pc : Int) + off = (tgt : Int)) (kt : x = z → gm_W P X g y d lo post tgt L st s) (kf : ¬ x = z → gm_W P X g y d lo post pc1 L st s) : gm_W P X g y d lo post pc L (.int z :: .int x :: st) s := fun S hS => am_icmp_eq hd ht (fun q => kt q S hS) (fun q => kf q S hS)
theorem gm_if_ne {x : Int32} {off : Int} {tgt : Nat} (hd : am_D y.2.2.1 pc (.ifCond .ne off) 3 pc1) (ht : (pc : Int) + off = (tgt : Int)) (kt : ¬ x = 0 → gm_W P X g y d lo post tgt L st s) (kf : x = 0 → gm_W P X g y d lo post pc1 L st s) : gm_W P X g y d lo post pc L (.int x :: st) s := fun S hS => am_if_ne hd ht (fun q => kt q S hS) (fun q => kf q S hS)
theorem gm_icmp_ne {x z : Int32} {off : Int} {tgt : Nat} (hd : am_D y.2.2.1 pc (.if_icmp .ne off) 3 pc1) (ht : (pc : Int) + off = (tgt : Int)) (kt : ¬ x = z → gm_W P X g y d lo post tgt L st s) (kf : x = z → gm_W P X g y d lo post pc1 L st s) : gm_W P X g y d lo post pc L (.int z :: .int x :: st) s := fun S hS => am_icmp_ne hd ht (fun q => kt q S hS) (fun q => kf q S hS)
theorem gm_if_lt {x : Int32} {off : Int} {tgt : Nat} (hd : am_D y.2.2.1 pc (.ifCond .lt off) 3 pc1) (ht : (pc : Int) + off = (tgt : Int)) (kt : x < 0 → gm_W P X g y d lo post tgt L st s) (kf : ¬ x < 0 → gm_W P X g y d lo post pc1 L st s) : gm_W P X g y d lo post pc L (.int x :: st) s := fun S hS => am_if_lt hd ht (fun q => kt q S hS) (fun q => kf q S hS)
theorem gm_icmp_lt {x z : Int32} {off : Int} {tgt : Nat} (hd : am_D y.2.2.1 pc (.if_icmp .lt off) 3 pc1) (ht : (pc : Int) + off = (tgt : Int)) (kt : x < z → gm_W P X g y d lo post tgt L st s) (kf : ¬ x < z → gm_W P X g y d lo post pc1 L st s) : gm_W P X g y d lo post pc L (.int z :: .int x :: st) s := fun S hS => am_icmp_lt hd ht (fun q => kt q S hS) (fun q => kf q S hS)
theorem gm_if_ge {x : Int32} {off : Int} {tgt : Nat} (hd : am_D y.2.2.1 pc (.ifCond .ge off) 3 pc1) (ht : (pc : Int) + off = (tgt : Int)) (kt : 0 ≤ x → gm_W P X g y d lo post tgt L st s) (kf : ¬ 0 ≤ x → gm_W P X g y d lo post pc1 L st s) : gm_W P X g y d lo post pc L (.int x :: st) s := fun S hS => am_if_ge hd ht (fun q => kt q S hS) (fun q => kf q S hS)
theorem gm_icmp_ge {x z : Int32} {off : Int} {tgt : Nat} (hd : am_D y.2.2.1 pc (.if_icmp .ge off) 3 pc1) (ht : (pc : Int) + off = (tgt : Int)) (kt : z ≤ x → gm_W P X g y d lo post tgt L st s) (kf : ¬ z ≤ x → gm_W P X g y d lo post pc1 L st s) : gm_W P X g y d lo post pc L (.int z :: .int x :: st) s := fun S hS => am_icmp_ge hd ht (fun q => kt q S hS) (fun q => kf q S hS)
theorem gm_if_gt {x : Int32} {off : Int} {tgt : Nat} (hd : am_D y.2.2.1 pc (.ifCond .gt off) 3 pc1) (ht : (pc : Int) + off = (tgt : Int)) (kt : 0 < x → gm_W P X g y d lo post tgt L st s) (kf : ¬ 0 < x → gm_W P X g y d lo post pc1 L st s) : gm_W P X g y d lo post pc L (.int x :: st) s := fun S hS => am_if_gt hd ht (fun q => kt q S hS) (fun q => kf q S hS)
theorem gm_icmp_gt {x z : Int32} {off : Int} {tgt : Nat} (hd : am_D y.2.2.1 pc (.if_icmp .gt off) 3 pc1) (ht : (pc : Int) + off = (tgt : Int)) (kt : z < x → gm_W P X g y d lo post tgt L st s) (kf : ¬ z < x → gm_W P X g y d lo post pc1 L st s) : gm_W P X g y d lo post pc L (.int z :: .int x :: st) s := fun S hS => am_icmp_gt hd ht (fun q => kt q S hS) (fun q => kf q S hS)
theorem gm_if_le {x : Int32} {off : Int} {tgt : Nat} (hd : am_D y.2.2.1 pc (.ifCond .le off) 3 pc1) (ht : (pc : Int) + off = (tgt : Int)) (kt : x ≤ 0 → gm_W P X g y d lo post tgt L st s) (kf : ¬ x ≤ 0 → gm_W P X g y d lo post pc1 L st s) : gm_W P X g y d lo post pc L (.int x :: st) s := fun S hS => am_if_le hd ht (fun q => kt q S hS) (fun q => kf q S hS)
theorem gm_icmp_le {x z : Int32} {off : Int} {tgt : Nat} (hd : am_D y.2.2.1 pc (.if_icmp .le off) 3 pc1) (ht : (pc : Int) + off = (tgt : Int)) (kt : x ≤ z → gm_W P X g y d lo post tgt L st s) (kf : ¬ x ≤ z → gm_W P X g y d lo post pc1 L st s) : gm_W P X g y d lo post pc L (.int z :: .int x :: st) s := fun S hS => am_icmp_le hd ht (fun q => kt q S hS) (fun q => kf q S hS)
theorem gm_acmp_eq {rx ry : Option Nat} {off : Int} {tgt : Nat} (hd : am_D y.2.2.1 pc (.if_acmp .eq off) 3 pc1) (ht : (pc : Int) + off = (tgt : Int)) (kt : rx = ry → gm_W P X g y d lo post tgt L st s) (kf : ¬ rx = ry → gm_W P X g y d lo post pc1 L st s) : gm_W P X g y d lo post pc L (va_rf ry :: va_rf rx :: st) s := fun S hS => am_acmp_eq hd ht (fun q => kt q S hS) (fun q => kf q S hS)
theorem gm_acmp_ne {rx ry : Option Nat} {off : Int} {tgt : Nat} (hd : am_D y.2.2.1 pc (.if_acmp .ne off) 3 pc1) (ht : (pc : Int) + off = (tgt : Int)) (kt : ¬ rx = ry → gm_W P X g y d lo post tgt L st s) (kf : rx = ry → gm_W P X g y d lo post pc1 L st s) : gm_W P X g y d lo post pc L (va_rf ry :: va_rf rx :: st) s := fun S hS => am_acmp_ne hd ht (fun q => kt q S hS) (fun q => kf q S hS)
theorem gm_ifnonnull {a : Nat} {off : Int} {tgt : Nat} (hd : am_D y.2.2.1 pc (.ifnonnull off) 3 pc1) (ht : (pc : Int) + off = (tgt : Int)) (h : gm_W P X g y d lo post tgt L st s) : gm_W P X g y d lo post pc L (.ref a :: st) s := fun S hS => am_ifnonnull hd ht (h S hS)
theorem gm_ifnonnullN {off : Int} (hd : am_D y.2.2.1 pc (.ifnonnull off) 3 pc1) (h : gm_W P X g y d lo post pc1 L st s) : gm_W P X g y d lo post pc L (.null :: st) s := fun S hS => am_ifnonnullN hd (h S hS)
theorem gm_ifnull {a : Nat} {off : Int} (hd : am_D y.2.2.1 pc (.ifnull off) 3 pc1) (h : gm_W P X g y d lo post pc1 L st s) : gm_W P X g y d lo post pc L (.ref a :: st) s := fun S hS => am_ifnull hd (h S hS)
theorem gm_ifnullN {off : Int} {tgt : Nat} (hd : am_D y.2.2.1 pc (.ifnull off) 3 pc1) (ht : (pc : Int) + off = (tgt : Int)) (h : gm_W P X g y d lo post tgt L st s) : gm_W P X g y d lo post pc L (.null :: st) s := fun S hS => am_ifnullN hd ht (h S hS)
theorem gm_goto {off : Int} {tgt : Nat} (hd : am_D y.2.2.1 pc (.goto off) 3 pc1) (ht : (pc : Int) + off = (tgt : Int)) (h : gm_W P X g y d lo post tgt L st s) : gm_W P X g y d lo post pc L (st) s := fun S hS => am_goto hd ht (h S hS)
theorem gm_lookup {dflt : Int} {ps : Array (Int × Int)} {len : Nat} {x : Int32} {off : Int} {tgt : Nat} (hd : am_D y.2.2.1 pc (.lookupswitch dflt ps) len pc1) (hp : (ps.toList.zip (ps.toList.drop 1)).all (fun (a, next) => a.1 < next.1) = true) (ho : Op.lookupswitch.offset ps.toList dflt x.toInt = off) (ht : (pc : Int) + off = (tgt : Int)) (h : gm_W P X g y d lo post tgt L st s) : gm_W P X g y d lo post pc L (.int x :: st) s := fun S hS => am_lookup hd hp ho ht (h S hS)
theorem gm_tableOut {dflt tl th : Int} {offs : Array Int} {len : Nat} {x : Int32} {tgt : Nat} (hd : am_D y.2.2.1 pc (.tableswitch dflt tl th offs) len pc1) (hx : x.toInt < tl ∨ th < x.toInt) (ht : (pc : Int) + dflt = (tgt : Int)) (h : gm_W P X g y d lo post tgt L st s) : gm_W P X g y d lo post pc L (.int x :: st) s := fun S hS => am_tableOut hd hx ht (h S hS)
theorem gm_tableIn {dflt tl th : Int} {offs : Array Int} {len : Nat} {x : Int32} {off : Int} {tgt : Nat} (hd : am_D y.2.2.1 pc (.tableswitch dflt tl th offs) len pc1) (h1 : ¬ x.toInt < tl) (h2 : ¬ th < x.toInt) (ho : offs[(x.toInt - tl).toNat]? = some off) (ht : (pc : Int) + off = (tgt : Int)) (h : gm_W P X g y d lo post tgt L st s) : gm_W P X g y d lo post pc L (.int x :: st) s := fun S hS => am_tableIn hd h1 h2 ho ht (h S hS)
theorem gm_iaddN {a b : Nat} (hd : am_D y.2.2.1 pc (.iadd) 1 pc1) (h : gm_W P X g y d lo post pc1 L (.int (nI (a + b)) :: st) s) : gm_W P X g y d lo post pc L (.int (nI b) :: .int (nI a) :: st) s := fun S hS => am_iaddN hd (h S hS)
theorem gm_imulN {a b : Nat} (hd : am_D y.2.2.1 pc (.imul) 1 pc1) (h : gm_W P X g y d lo post pc1 L (.int (nI (a * b)) :: st) s) : gm_W P X g y d lo post pc L (.int (nI b) :: .int (nI a) :: st) s := fun S hS => am_imulN hd (h S hS)
theorem gm_isubN {a b : Nat} (hd : am_D y.2.2.1 pc (.isub) 1 pc1) (hb : b ≤ a) (h : gm_W P X g y d lo post pc1 L (.int (nI (a - b)) :: st) s) : gm_W P X g y d lo post pc L (.int (nI b) :: .int (nI a) :: st) s := fun S hS => am_isubN hd hb (h S hS)
theorem gm_idivN {a b : Nat} (hd : am_D y.2.2.1 pc (.idiv) 1 pc1) (ha : a < 2 ^ 31) (h0 : 0 < b) (hb : b < 2 ^ 31) (h : gm_W P X g y d lo post pc1 L (.int (nI (a / b)) :: st) s) : gm_W P X g y d lo post pc L (.int (nI b) :: .int (nI a) :: st) s := fun S hS => am_idivN hd ha h0 hb (h S hS)
theorem gm_iremN {a b : Nat} (hd : am_D y.2.2.1 pc (.irem) 1 pc1) (ha : a < 2 ^ 31) (h0 : 0 < b) (hb : b < 2 ^ 31) (h : gm_W P X g y d lo post pc1 L (.int (nI (a % b)) :: st) s) : gm_W P X g y d lo post pc L (.int (nI b) :: .int (nI a) :: st) s := fun S hS => am_iremN hd ha h0 hb (h S hS)
theorem gm_iincN {j a b : Nat} {z : Int} (hd : am_D y.2.2.1 pc (.iinc j z) 3 pc1) (hl : L[j]? = some (some (.int (nI a)))) (hz : Int32.ofInt z = nI b) (hj : j < y.2.2.2.1) (hL : L.set j (some (.int (nI (a + b)))) = L1) (h : gm_W P X g y d lo post pc1 L1 st s) : gm_W P X g y d lo post pc L st s := fun S hS => am_iincN hd hl hz hj hL (h S hS)
theorem gm_icmp_eqN {a b : Nat} {off : Int} {tgt : Nat} (hd : am_D y.2.2.1 pc (.if_icmp .eq off) 3 pc1) (ht : (pc : Int) + off = (tgt : Int)) (ha : a < 2 ^ 31) (hb : b < 2 ^ 31) (kt : a = b → gm_W P X g y d lo post tgt L st s) (kf : a ≠ b → gm_W P X g y d lo post pc1 L st s) : gm_W P X g y d lo post pc L (.int (nI b) :: .int (nI a) :: st) s := fun S hS => am_icmp_eqN hd ht ha hb (fun q => kt q S hS) (fun q => kf q S hS)
theorem gm_if_eqN {a : Nat} {off : Int} {tgt : Nat} (hd : am_D y.2.2.1 pc (.ifCond .eq off) 3 pc1) (ht : (pc : Int) + off = (tgt : Int)) (ha : a < 2 ^ 31) (kt : a = 0 → gm_W P X g y d lo post tgt L st s) (kf : a ≠ 0 → gm_W P X g y d lo post pc1 L st s) : gm_W P X g y d lo post pc L (.int (nI a) :: st) s := fun S hS => am_if_eqN hd ht ha (fun q => kt q S hS) (fun q => kf q S hS)
theorem gm_icmp_neN {a b : Nat} {off : Int} {tgt : Nat} (hd : am_D y.2.2.1 pc (.if_icmp .ne off) 3 pc1) (ht : (pc : Int) + off = (tgt : Int)) (ha : a < 2 ^ 31) (hb : b < 2 ^ 31) (kt : a ≠ b → gm_W P X g y d lo post tgt L st s) (kf : a = b → gm_W P X g y d lo post pc1 L st s) : gm_W P X g y d lo post pc L (.int (nI b) :: .int (nI a) :: st) s := fun S hS => am_icmp_neN hd ht ha hb (fun q => kt q S hS) (fun q => kf q S hS)
theorem gm_if_neN {a : Nat} {off : Int} {tgt : Nat} (hd : am_D y.2.2.1 pc (.ifCond .ne off) 3 pc1) (ht : (pc : Int) + off = (tgt : Int)) (ha : a < 2 ^ 31) (kt : a ≠ 0 → gm_W P X g y d lo post tgt L st s) (kf : a = 0 → gm_W P X g y d lo post pc1 L st s) : gm_W P X g y d lo post pc L (.int (nI a) :: st) s := fun S hS => am_if_neN hd ht ha (fun q => kt q S hS) (fun q => kf q S hS)
theorem gm_icmp_ltN {a b : Nat} {off : Int} {tgt : Nat} (hd : am_D y.2.2.1 pc (.if_icmp .lt off) 3 pc1) (ht : (pc : Int) + off = (tgt : Int)) (ha : a < 2 ^ 31) (hb : b < 2 ^ 31) (kt : a < b → gm_W P X g y d lo post tgt L st s) (kf : b ≤ a → gm_W P X g y d lo post pc1 L st s) : gm_W P X g y d lo post pc L (.int (nI b) :: .int (nI a) :: st) s := fun S hS => am_icmp_ltN hd ht ha hb (fun q => kt q S hS) (fun q => kf q S hS)
theorem gm_if_ltN {a : Nat} {off : Int} {tgt : Nat} (hd : am_D y.2.2.1 pc (.ifCond .lt off) 3 pc1) (ht : (pc : Int) + off = (tgt : Int)) (ha : a < 2 ^ 31) (kt : a < 0 → gm_W P X g y d lo post tgt L st s) (kf : 0 ≤ a → gm_W P X g y d lo post pc1 L st s) : gm_W P X g y d lo post pc L (.int (nI a) :: st) s := fun S hS => am_if_ltN hd ht ha (fun q => kt q S hS) (fun q => kf q S hS)
theorem gm_icmp_geN {a b : Nat} {off : Int} {tgt : Nat} (hd : am_D y.2.2.1 pc (.if_icmp .ge off) 3 pc1) (ht : (pc : Int) + off = (tgt : Int)) (ha : a < 2 ^ 31) (hb : b < 2 ^ 31) (kt : b ≤ a → gm_W P X g y d lo post tgt L st s) (kf : a < b → gm_W P X g y d lo post pc1 L st s) : gm_W P X g y d lo post pc L (.int (nI b) :: .int (nI a) :: st) s := fun S hS => am_icmp_geN hd ht ha hb (fun q => kt q S hS) (fun q => kf q S hS)
theorem gm_if_geN {a : Nat} {off : Int} {tgt : Nat} (hd : am_D y.2.2.1 pc (.ifCond .ge off) 3 pc1) (ht : (pc : Int) + off = (tgt : Int)) (ha : a < 2 ^ 31) (kt : 0 ≤ a → gm_W P X g y d lo post tgt L st s) (kf : a < 0 → gm_W P X g y d lo post pc1 L st s) : gm_W P X g y d lo post pc L (.int (nI a) :: st) s := fun S hS => am_if_geN hd ht ha (fun q => kt q S hS) (fun q => kf q S hS)
theorem gm_icmp_gtN {a b : Nat} {off : Int} {tgt : Nat} (hd : am_D y.2.2.1 pc (.if_icmp .gt off) 3 pc1) (ht : (pc : Int) + off = (tgt : Int)) (ha : a < 2 ^ 31) (hb : b < 2 ^ 31) (kt : b < a → gm_W P X g y d lo post tgt L st s) (kf : a ≤ b → gm_W P X g y d lo post pc1 L st s) : gm_W P X g y d lo post pc L (.int (nI b) :: .int (nI a) :: st) s := fun S hS => am_icmp_gtN hd ht ha hb (fun q => kt q S hS) (fun q => kf q S hS)
theorem gm_if_gtN {a : Nat} {off : Int} {tgt : Nat} (hd : am_D y.2.2.1 pc (.ifCond .gt off) 3 pc1) (ht : (pc : Int) + off = (tgt : Int)) (ha : a < 2 ^ 31) (kt : 0 < a → gm_W P X g y d lo post tgt L st s) (kf : a ≤ 0 → gm_W P X g y d lo post pc1 L st s) : gm_W P X g y d lo post pc L (.int (nI a) :: st) s := fun S hS => am_if_gtN hd ht ha (fun q => kt q S hS) (fun q => kf q S hS)
theorem gm_icmp_leN {a b : Nat} {off : Int} {tgt : Nat} (hd : am_D y.2.2.1 pc (.if_icmp .le off) 3 pc1) (ht : (pc : Int) + off = (tgt : Int)) (ha : a < 2 ^ 31) (hb : b < 2 ^ 31) (kt : a ≤ b → gm_W P X g y d lo post tgt L st s) (kf : b < a → gm_W P X g y d lo post pc1 L st s) : gm_W P X g y d lo post pc L (.int (nI b) :: .int (nI a) :: st) s := fun S hS => am_icmp_leN hd ht ha hb (fun q => kt q S hS) (fun q => kf q S hS)
theorem gm_if_leN {a : Nat} {off : Int} {tgt : Nat} (hd : am_D y.2.2.1 pc (.ifCond .le off) 3 pc1) (ht : (pc : Int) + off = (tgt : Int)) (ha : a < 2 ^ 31) (kt : a ≤ 0 → gm_W P X g y d lo post tgt L st s) (kf : 0 < a → gm_W P X g y d lo post pc1 L st s) : gm_W P X g y d lo post pc L (.int (nI a) :: st) s := fun S hS => am_if_leN hd ht ha (fun q => kt q S hS) (fun q => kf q S hS)
theorem gm_if_eqB {c : Bool} {off : Int} {tgt : Nat} (hd : am_D y.2.2.1 pc (.ifCond .eq off) 3 pc1) (ht : (pc : Int) + off = (tgt : Int)) (kt : c = false → gm_W P X g y d lo post tgt L st s) (kf : c = true → gm_W P X g y d lo post pc1 L st s) : gm_W P X g y d lo post pc L (.int (am_b c) :: st) s := fun S hS => am_if_eqB hd ht (fun q => kt q S hS) (fun q => kf q S hS)
theorem gm_if_neB {c : Bool} {off : Int} {tgt : Nat} (hd : am_D y.2.2.1 pc (.ifCond .ne off) 3 pc1) (ht : (pc : Int) + off = (tgt : Int)) (kt : c = true → gm_W P X g y d lo post tgt L st s) (kf : c = false → gm_W P X g y d lo post pc1 L st s) : gm_W P X g y d lo post pc L (.int (am_b c) :: st) s := fun S hS => am_if_neB hd ht (fun q => kt q S hS) (fun q => kf q S hS)
end GMR
/-! calls in bundles; ends and calls over an abstract state -/
/-- a static call at a place of the constants -/
def am_CS (own : String) (idx : Nat) (yc : am_N) (desc : String) (np : Nat) : Prop := am_CY yc desc np ∧ am_ML own idx ⟨yc.1, yc.2.1, desc⟩ ∧ Cond.static ⟨yc.1, yc.2.1, desc⟩ ∈ am_wz
def am_CI (own : String) (idx : Nat) (yc : am_N) (desc : String) (np : Nat) : Prop := am_CY yc desc np ∧ yc.2.1 = "<init>" ∧ yc.2.2.2.2 = none ∧ am_ML own idx ⟨yc.1, yc.2.1, desc⟩ ∧ Cond.instanceMethod ⟨yc.1, yc.2.1, desc⟩ ∈ am_wz
def am_CV (own : String) (idx : Nat) (yc : am_N) (desc : String) (np ci : Nat) : Prop := am_CY yc desc np ∧ am_ML own idx ⟨yc.1, yc.2.1, desc⟩ ∧ Cond.instanceMethod ⟨yc.1, yc.2.1, desc⟩ ∈ am_wz ∧ ∃ q : vw_C, am_cl[ci]? = some q ∧ Cond.selects q.1 ⟨yc.1, yc.2.1, desc⟩ ⟨yc.1, yc.2.1, desc⟩ ∈ am_wz
section GMC
variable {g : am_G} {y : am_N} {d lo : Nat} {pc pc1 : Nat} {L : List (Option Value)} {st : List Value} {S : am_S} {idx np dc lc : Nat} {yc : am_N} {desc : String} {vs stk : List Value}
section
variable {post postc : Option Value → am_S → Prop}
theorem am_cS (hd : am_D y.2.2.1 pc (.invokestatic idx) 3 pc1) (hC : am_CS y.1 idx yc desc np) (hst : stk = vs.reverse ++ st) (hn : vs.length = np) (hr : dc + 1 ≤ d ∧ 8 + (yc.2.2.2.1 + 11) + lc ≤ lo) (h8 : (st.map fun v => v.category).sum ≤ 8) (hc : am_M g yc desc dc lc vs S postc)
    (h : ∀ v S', postc v S' → am_W g y d lo post pc1 L (v.toList ++ st) S') : am_W g y d lo post pc L stk S := am_callS hd hC.1 hC.2.1 hC.2.2 hst hn hc hr h8 h
theorem am_cI {b : Nat} (hd : am_D y.2.2.1 pc (.invokespecial idx) 3 pc1) (hC : am_CI y.1 idx yc desc np) (hst : stk = vs.reverse ++ .ref b :: st) (hn : vs.length = np) (hr : dc + 1 ≤ d ∧ 8 + (yc.2.2.2.1 + 11) + lc ≤ lo) (h8 : (st.map fun v => v.category).sum ≤ 8) (hc : am_M g yc desc dc lc (.ref b :: vs) S postc)
    (h : ∀ v S', postc v S' → am_W g y d lo post pc1 L (v.toList ++ st) S') : am_W g y d lo post pc L stk S := am_callI hd hC.1 hC.2.1 hC.2.2.1 hC.2.2.2.1 hC.2.2.2.2 hst hn hc hr h8 h
theorem am_cV {b ci tb : Nat} {fs : List Value} (hd : am_D y.2.2.1 pc (.invokevirtual idx) 3 pc1) (hC : am_CV y.1 idx yc desc np ci) (hst : stk = vs.reverse ++ .ref b :: st) (hn : vs.length = np) (hr : dc + 1 ≤ d ∧ 8 + (yc.2.2.2.1 + 11) + lc ≤ lo) (h8 : (st.map fun v => v.category).sum ≤ 8) (hb : S.1 b = some (tb, .inr (ci, fs))) (hc : am_M g yc desc dc lc (.ref b :: vs) S postc)
    (h : ∀ v S', postc v S' → am_W g y d lo post pc1 L (v.toList ++ st) S') : am_W g y d lo post pc L stk S := by
  obtain ⟨h1, h2, h3, q, h4, h5⟩ := hC
  exact am_callV hd h1 h2 h3 h4 h5 hb hst hn hc hr h8 h
end
section
variable {σ : Type} {P : σ → am_S → Prop} {X : Nat → Prop} {post postc : Option Value → σ → Prop} {s : σ}
theorem gm_iret {x : Int32} {ty : FieldType} (hd : am_D y.2.2.1 pc .ireturn 1 pc1) (hr : y.2.2.2.2 = some ty) (hn : narrow ty (.int x) = .int x) (hp : post (some (.int x)) s) : gm_W P X g y d lo post pc L [.int x] s := fun S hS => am_iret hd hr hn ⟨s, hS, am_fr.refl X S, hp⟩
theorem gm_vret (hd : am_D y.2.2.1 pc .return_ 1 pc1) (hr : y.2.2.2.2 = none) (hp : post none s) : gm_W P X g y d lo post pc L [] s := fun S hS => am_vret hd hr ⟨s, hS, am_fr.refl X S, hp⟩
theorem gm_aret {v : Value} {ty : FieldType} (hd : am_D y.2.2.1 pc .areturn 1 pc1) (hr : y.2.2.2.2 = some ty) (hrt : (∃ nm, ty = .object nm) ∨ ∃ t, ty = .array t) (hv : am_rv v) (hp : post (some v) s) : gm_W P X g y d lo post pc L [v] s := fun S hS => am_aret hd hr hrt hv ⟨s, hS, am_fr.refl X S, hp⟩
theorem gm_cont {S S' : am_S} {s' : σ} {L : List (Option Value)} {st : List Value} {pc : Nat} (hf : am_fr X S S') (h1 : P s' S') (h : gm_W P X g y d lo post pc L st s') : am_W g y d lo (fun v S'' => ∃ s', P s' S'' ∧ am_fr X S S'' ∧ post v s') pc L st S' :=
  am_post (fun _ _ ⟨s'', k1, k2, k3⟩ => ⟨s'', k1, hf.trans k2, k3⟩) (h S' h1)
theorem gm_cS (hd : am_D y.2.2.1 pc (.invokestatic idx) 3 pc1) (hC : am_CS y.1 idx yc desc np) (hst : stk = vs.reverse ++ st) (hn : vs.length = np) (hr : dc + 1 ≤ d ∧ 8 + (yc.2.2.2.1 + 11) + lc ≤ lo) (h8 : (st.map fun v => v.category).sum ≤ 8) (hc : gm_M P X g yc desc dc lc vs postc s)
    (h : ∀ v s', postc v s' → gm_W P X g y d lo post pc1 L (v.toList ++ st) s') : gm_W P X g y d lo post pc L stk s := fun S hS => am_cS hd hC hst hn hr h8 (hc S hS) (fun v _ ⟨s', h1, h2, h3⟩ => gm_cont h2 h1 (h v s' h3))
theorem gm_cV {b ci : Nat} (hd : am_D y.2.2.1 pc (.invokevirtual idx) 3 pc1) (hC : am_CV y.1 idx yc desc np ci) (hst : stk = vs.reverse ++ .ref b :: st) (hn : vs.length = np) (hr : dc + 1 ≤ d ∧ 8 + (yc.2.2.2.1 + 11) + lc ≤ lo) (h8 : (st.map fun v => v.category).sum ≤ 8) (hb : ∀ S, P s S → ∃ tb fs, S.1 b = some (tb, .inr (ci, fs))) (hc : gm_M P X g yc desc dc lc (.ref b :: vs) postc s)
    (h : ∀ v s', postc v s' → gm_W P X g y d lo post pc1 L (v.toList ++ st) s') : gm_W P X g y d lo post pc L stk s := fun S hS => by
  obtain ⟨tb, fs, hb⟩ := hb S hS
  exact am_cV hd hC hst hn hr h8 hb (hc S hS) (fun v _ ⟨s', h1, h2, h3⟩ => gm_cont h2 h1 (h v s' h3))
end
end GMC
end
section
/-! walks in a small graph: the shortest way that is first in the order of numbers, and the way that a count of steps gives -/
/-- a walk of k steps from u to v over switches below n -/
def pw_wk (n : Nat) (E : Nat → Nat → Bool) : Nat → Nat → Nat → Bool
  | 0, u, v => decide (u = v)
  | k + 1, u, v => (List.range n).any (fun w => E u w && pw_wk n E k w v)
theorem pw_wk_succ {n : Nat} {E : Nat → Nat → Bool} {k u v : Nat} : pw_wk n E (k + 1) u v = true ↔ ∃ w, w < n ∧ E u w = true ∧ pw_wk n E k w v = true := by
  simp [pw_wk]
theorem pw_wk_zero {n : Nat} {E : Nat → Nat → Bool} {u v : Nat} : pw_wk n E 0 u v = true ↔ u = v := by
  simp [pw_wk]
/-- the least w below n with P w, or n -/
def pw_least (P : Nat → Bool) : Nat → Nat
  | 0 => 0
  | n + 1 => let r := pw_least P n; if r < n then r else if P n = true then n else n + 1
theorem pw_least_le (P : Nat → Bool) (n : Nat) : pw_least P n ≤ n := by
  induction n with
  | zero => exact Nat.le_refl _
  | succ n ih =>
    show (if pw_least P n < n then pw_least P n else if P n = true then n else n + 1) ≤ n + 1
    split
    · omega
    · split <;> omega
theorem pw_least_spec (P : Nat → Bool) (n : Nat) : (pw_least P n < n → P (pw_least P n) = true) ∧ ∀ w, w < pw_least P n → P w = false := by
  induction n with
  | zero => exact ⟨fun h => absurd h (Nat.not_lt_zero _), fun w h => absurd h (Nat.not_lt_zero _)⟩
  | succ n ih =>
    have hle := pw_least_le P n
    have e : pw_least P (n + 1) = (if pw_least P n < n then pw_least P n else if P n = true then n else n + 1) := rfl
    rw [e]
    split
    · next h => exact ⟨fun _ => ih.1 h, ih.2⟩
    · next h =>
      have e2 : pw_least P n = n := by omega
      rw [e2] at ih
      split
      · next h2 => exact ⟨fun _ => h2, ih.2⟩
      · next h2 =>
        refine ⟨fun h => absurd h (Nat.lt_irrefl _), fun w hw => ?_⟩
        by_cases e3 : w = n
        · subst e3; simpa using h2
        · exact ih.2 w (by omega)
theorem pw_least_lt {P : Nat → Bool} {n w : Nat} (hw : w < n) (h : P w = true) : pw_least P n ≤ w := by
  apply Nat.le_of_not_lt
  intro q
  have := (pw_least_spec P n).2 w q
  rw [h] at this
  cases this
/-- the next switch of the way: the least that a way of k steps leads on from -/
def pw_nx (n : Nat) (E : Nat → Nat → Bool) (k u v : Nat) : Nat := pw_least (fun w => E u w && pw_wk n E k w v) n
theorem pw_nx_ok {n : Nat} {E : Nat → Nat → Bool} {k u v : Nat} (h : pw_wk n E (k + 1) u v = true) : pw_nx n E k u v < n ∧ E u (pw_nx n E k u v) = true ∧ pw_wk n E k (pw_nx n E k u v) v = true := by
  obtain ⟨w, hw, h1, h2⟩ := pw_wk_succ.mp h
  have hl : pw_nx n E k u v ≤ w := pw_least_lt hw (by simp [h1, h2])
  have hs := (pw_least_spec (fun w => E u w && pw_wk n E k w v) n).1 (show pw_nx n E k u v < n by omega)
  simp only [Bool.and_eq_true] at hs
  exact ⟨by omega, hs.1, hs.2⟩
theorem pw_nx_least {n : Nat} {E : Nat → Nat → Bool} {k u v w : Nat} (hw : w < n) (h1 : E u w = true) (h2 : pw_wk n E k w v = true) : pw_nx n E k u v ≤ w := pw_least_lt hw (by simp [h1, h2])
/-- the i-th switch of the way of k steps from u to v -/
def pw_at (n : Nat) (E : Nat → Nat → Bool) (v : Nat) : Nat → Nat → Nat → Nat
  | _, u, 0 => u
  | 0, u, _ + 1 => u
  | k + 1, u, i + 1 => pw_at n E v k (pw_nx n E k u v) i
theorem pw_at_last {n : Nat} {E : Nat → Nat → Bool} {v : Nat} : ∀ {k u : Nat}, pw_wk n E k u v = true → pw_at n E v k u k = v
  | 0, u, h => by rw [pw_wk_zero] at h; rw [← h]; rfl
  | k + 1, u, h => by
    show pw_at n E v k (pw_nx n E k u v) k = v
    exact pw_at_last (pw_nx_ok h).2.2
theorem pw_at_edge {n : Nat} {E : Nat → Nat → Bool} {v : Nat} : ∀ {k u i : Nat}, pw_wk n E k u v = true → i < k → E (pw_at n E v k u i) (pw_at n E v k u (i + 1)) = true
  | 0, _, _, _, hi => absurd hi (Nat.not_lt_zero _)
  | k + 1, u, 0, h, _ => by
    have h1 := (pw_nx_ok h).2.1
    cases k <;> exact h1
  | k + 1, u, i + 1, h, hi => by
    show E (pw_at n E v k (pw_nx n E k u v) i) (pw_at n E v k (pw_nx n E k u v) (i + 1)) = true
    exact pw_at_edge (pw_nx_ok h).2.2 (by omega)
theorem pw_at_lt {n : Nat} {E : Nat → Nat → Bool} {v : Nat} : ∀ {k u i : Nat}, u < n → pw_wk n E k u v = true → i ≤ k → pw_at n E v k u i < n
  | _, u, 0, hu, _, _ => by
    show pw_at n E v _ u 0 < n
    unfold pw_at
    exact hu
  | 0, _, _ + 1, _, _, hi => absurd hi (by omega)
  | k + 1, u, i + 1, hu, h, hi => by
    show pw_at n E v k (pw_nx n E k u v) i < n
    exact pw_at_lt (pw_nx_ok h).1 (pw_nx_ok h).2.2 (by omega)
/-- the digits of x, m of them, the first the greatest: is that a way from u to v? -/
def pw_ch (n : Nat) (E : Nat → Nat → Bool) (v : Nat) : Nat → Nat → Nat → Bool
  | 0, u, _ => E u v
  | m + 1, u, x => E u (x / n ^ m % n) && pw_ch n E v m (x / n ^ m % n) (x % n ^ m)
/-- the number of the way -/
def pw_num (n : Nat) (E : Nat → Nat → Bool) (v : Nat) : Nat → Nat → Nat
  | 0, _ => 0
  | m + 1, u => pw_nx n E (m + 1) u v * n ^ m + pw_num n E v m (pw_nx n E (m + 1) u v)
theorem pw_num_lt {n : Nat} {E : Nat → Nat → Bool} {v : Nat} : ∀ {m u : Nat}, pw_wk n E (m + 1) u v = true → pw_num n E v m u < n ^ m
  | 0, _, _ => by show 0 < n ^ 0; simp
  | m + 1, u, h => by
    have h1 := pw_nx_ok h
    have h2 := pw_num_lt (m := m) h1.2.2
    show pw_nx n E (m + 1) u v * n ^ m + pw_num n E v m (pw_nx n E (m + 1) u v) < n ^ (m + 1)
    have h3 : (pw_nx n E (m + 1) u v + 1) * n ^ m ≤ n * n ^ m := Nat.mul_le_mul_right _ h1.1
    rw [Nat.pow_succ, Nat.mul_comm (n ^ m) n]
    rw [Nat.add_mul, Nat.one_mul] at h3
    omega
theorem pw_dig {n m w r : Nat} (hw : w < n) (hr : r < n ^ m) : (w * n ^ m + r) / n ^ m % n = w ∧ (w * n ^ m + r) % n ^ m = r := by
  have hp : 0 < n ^ m := by omega
  constructor
  · rw [Nat.mul_comm, Nat.mul_add_div hp, Nat.div_eq_of_lt hr, Nat.add_zero, Nat.mod_eq_of_lt hw]
  · rw [Nat.mul_comm, Nat.mul_add_mod, Nat.mod_eq_of_lt hr]
theorem pw_ch_num {n : Nat} {E : Nat → Nat → Bool} {v : Nat} (hv : v < n) : ∀ {m u : Nat}, pw_wk n E (m + 1) u v = true → pw_ch n E v m u (pw_num n E v m u) = true
  | 0, u, h => by
    obtain ⟨w, _, h1, h2⟩ := pw_wk_succ.mp h
    rw [pw_wk_zero] at h2
    subst h2
    exact h1
  | m + 1, u, h => by
    have h1 := pw_nx_ok h
    have h2 := pw_num_lt (m := m) h1.2.2
    obtain ⟨e1, e2⟩ := pw_dig h1.1 h2
    show (E u ((pw_nx n E (m + 1) u v * n ^ m + pw_num n E v m (pw_nx n E (m + 1) u v)) / n ^ m % n) && pw_ch n E v m ((pw_nx n E (m + 1) u v * n ^ m + pw_num n E v m (pw_nx n E (m + 1) u v)) / n ^ m % n) ((pw_nx n E (m + 1) u v * n ^ m + pw_num n E v m (pw_nx n E (m + 1) u v)) % n ^ m)) = true
    rw [e1, e2, h1.2.1, pw_ch_num hv h1.2.2]
    rfl
theorem pw_ch_wk {n : Nat} {E : Nat → Nat → Bool} {v : Nat} (hv : v < n) : ∀ {m u x : Nat}, pw_ch n E v m u x = true → pw_wk n E (m + 1) u v = true
  | 0, u, _, h => pw_wk_succ.mpr ⟨v, hv, h, pw_wk_zero.mpr rfl⟩
  | m + 1, u, x, h => by
    have h' : (E u (x / n ^ m % n) && pw_ch n E v m (x / n ^ m % n) (x % n ^ m)) = true := h
    rw [Bool.and_eq_true] at h'
    exact pw_wk_succ.mpr ⟨x / n ^ m % n, Nat.mod_lt _ (by omega), h'.1, pw_ch_wk hv h'.2⟩
/-- it is the first number that is a way -/
theorem pw_ch_least {n : Nat} {E : Nat → Nat → Bool} {v : Nat} (hv : v < n) : ∀ {m u x : Nat}, x < n ^ m → pw_ch n E v m u x = true → pw_num n E v m u ≤ x
  | 0, _, _, _, _ => Nat.zero_le _
  | m + 1, u, x, hx, h => by
    have h' : (E u (x / n ^ m % n) && pw_ch n E v m (x / n ^ m % n) (x % n ^ m)) = true := h
    rw [Bool.and_eq_true] at h'
    have hp : 0 < n ^ m := Nat.pow_pos (by omega)
    have hd : x / n ^ m < n := by
      rw [Nat.div_lt_iff_lt_mul hp]
      rw [Nat.pow_succ, Nat.mul_comm] at hx
      exact hx
    have hmod : x / n ^ m % n = x / n ^ m := Nat.mod_eq_of_lt hd
    rw [hmod] at h'
    have hle : pw_nx n E (m + 1) u v ≤ x / n ^ m := pw_nx_least hd h'.1 (pw_ch_wk hv h'.2)
    have hx2 : x = n ^ m * (x / n ^ m) + x % n ^ m := (Nat.div_add_mod x (n ^ m)).symm
    have hwk : pw_wk n E (m + 2) u v = true := pw_wk_succ.mpr ⟨x / n ^ m, hd, h'.1, pw_ch_wk hv h'.2⟩
    show pw_nx n E (m + 1) u v * n ^ m + pw_num n E v m (pw_nx n E (m + 1) u v) ≤ x
    by_cases e : pw_nx n E (m + 1) u v = x / n ^ m
    · rw [e]
      have := pw_ch_least hv (Nat.mod_lt x hp) h'.2
      rw [Nat.mul_comm]
      omega
    · have h2 := pw_num_lt (m := m) (pw_nx_ok hwk).2.2
      have h3 : (pw_nx n E (m + 1) u v + 1) * n ^ m ≤ x / n ^ m * n ^ m := Nat.mul_le_mul_right _ (by omega)
      rw [Nat.add_mul, Nat.one_mul, Nat.mul_comm (x / n ^ m)] at h3
      have h4 : n ^ m * (x / n ^ m) ≤ x := Nat.mul_div_le x (n ^ m)
      omega
/-- the k-th switch that the number's digits give -/
theorem pw_num_at {n : Nat} {E : Nat → Nat → Bool} {v : Nat} : ∀ {m u i : Nat}, pw_wk n E (m + 1) u v = true → i < m → pw_num n E v m u / n ^ (m - 1 - i) % n = pw_at n E v (m + 1) u (i + 1)
  | 0, _, _, _, hi => absurd hi (Nat.not_lt_zero _)
  | m + 1, u, i, h, hi => by
    have h1 := pw_nx_ok h
    have h2 := pw_num_lt (m := m) h1.2.2
    show (pw_nx n E (m + 1) u v * n ^ m + pw_num n E v m (pw_nx n E (m + 1) u v)) / n ^ (m - i) % n = pw_at n E v (m + 1) (pw_nx n E (m + 1) u v) i
    cases i with
    | zero =>
      rw [Nat.sub_zero, (pw_dig h1.1 h2).1]
      unfold pw_at
      rfl
    | succ i =>
      have h3 := pw_num_at (m := m) (i := i) h1.2.2 (by omega)
      rw [← h3]
      have e1 : n ^ m = n ^ (m - 1 - i) * (n * n ^ i) := by
        rw [← Nat.pow_succ', ← Nat.pow_add]
        congr 1
        omega
      have e2 : m - (i + 1) = m - 1 - i := by omega
      have hp : 0 < n ^ (m - 1 - i) := Nat.pow_pos (by omega)
      rw [e2, e1, ← Nat.mul_assoc, Nat.mul_comm _ (n ^ (m - 1 - i)), Nat.mul_assoc, Nat.mul_add_div hp]
      have e3 : pw_nx n E (m + 1) u v * (n * n ^ i) = n * (pw_nx n E (m + 1) u v * n ^ i) := by
        rw [Nat.mul_comm n (n ^ i), ← Nat.mul_assoc, Nat.mul_comm _ n]
      rw [e3, Nat.mul_add_mod]
/-- how many steps from u to v, seen r rounds deep -/
def pw_L (n : Nat) (E : Nat → Nat → Bool) (v r u : Nat) : Option Nat := (List.range (r + 1)).find? (fun k => pw_wk n E k u v)
theorem pw_L_some {n : Nat} {E : Nat → Nat → Bool} {v r u k : Nat} : pw_L n E v r u = some k ↔ k ≤ r ∧ pw_wk n E k u v = true ∧ ∀ j, j < k → pw_wk n E j u v = false := by
  unfold pw_L
  rw [List.find?_range_eq_some]
  constructor
  · rintro ⟨h1, h2, h3⟩
    rw [List.mem_range] at h2
    exact ⟨by omega, h1, fun j hj => by simpa using h3 j hj⟩
  · rintro ⟨h1, h2, h3⟩
    exact ⟨h2, List.mem_range.mpr (by omega), fun j hj => by simpa using h3 j hj⟩
theorem pw_L_none {n : Nat} {E : Nat → Nat → Bool} {v r u : Nat} : pw_L n E v r u = none ↔ ∀ j, j ≤ r → pw_wk n E j u v = false := by
  unfold pw_L
  rw [List.find?_range_eq_none]
  constructor
  · intro h j hj
    simpa using h j (by omega)
  · intro h j hj
    simpa using h j (by omega)
/-- one round more -/
theorem pw_L_succ {n : Nat} {E : Nat → Nat → Bool} {v r u : Nat} (hn : pw_L n E v r u = none) : (∃ w, w < n ∧ E u w = true ∧ pw_L n E v r w = some r) ↔ pw_L n E v (r + 1) u = some (r + 1) := by
  rw [pw_L_none] at hn
  constructor
  · rintro ⟨w, hw, h1, h2⟩
    rw [pw_L_some] at h2 ⊢
    exact ⟨Nat.le_refl _, pw_wk_succ.mpr ⟨w, hw, h1, h2.2.1⟩, fun j hj => hn j (by omega)⟩
  · intro h
    rw [pw_L_some] at h
    obtain ⟨w, hw, h1, h2⟩ := pw_wk_succ.mp h.2.1
    refine ⟨w, hw, h1, pw_L_some.mpr ⟨Nat.le_refl _, h2, fun j hj => ?_⟩⟩
    cases hj2 : pw_wk n E j w v with
    | false => rfl
    | true =>
      have := hn (j + 1) (by omega)
      rw [pw_wk_succ.mpr ⟨w, hw, h1, hj2⟩] at this
      cases this
theorem pw_L_keep {n : Nat} {E : Nat → Nat → Bool} {v r u k : Nat} (h : pw_L n E v r u = some k) : pw_L n E v (r + 1) u = some k := by
  rw [pw_L_some] at h ⊢
  exact ⟨by omega, h.2⟩
theorem pw_L_still {n : Nat} {E : Nat → Nat → Bool} {v r u : Nat} (h : pw_L n E v r u = none) (h' : ¬ ∃ w, w < n ∧ E u w = true ∧ pw_L n E v r w = some r) : pw_L n E v (r + 1) u = none := by
  have hn := pw_L_none.mp h
  rw [pw_L_none]
  intro j hj
  by_cases e : j = r + 1
  · subst e
    cases hj2 : pw_wk n E (r + 1) u v with
    | false => rfl
    | true => exact absurd ((pw_L_succ h).mpr (pw_L_some.mpr ⟨Nat.le_refl _, hj2, fun j hj => hn j (by omega)⟩)) h'
  · exact hn j (by omega)
/-- the nearer neighbours are those from which a way of one step less leads on -/
theorem pw_near {n : Nat} {E : Nat → Nat → Bool} {v r u k w : Nat} (hu : pw_L n E v r u = some (k + 1)) (hw : w < n) (he : E u w = true) : pw_L n E v r w = some k ↔ pw_wk n E k w v = true := by
  rw [pw_L_some] at hu ⊢
  constructor
  · exact fun h => h.2.1
  · intro h
    refine ⟨by omega, h, fun j hj => ?_⟩
    cases hj2 : pw_wk n E j w v with
    | false => rfl
    | true =>
      have := hu.2.2 (j + 1) (by omega)
      rw [pw_wk_succ.mpr ⟨w, hw, he, hj2⟩] at this
      cases this
/-- a count that grows -/
theorem pw_count {p q : Nat → Bool} (hpq : ∀ a, p a = true → q a = true) : ∀ {l : List Nat} {a : Nat}, a ∈ l → p a = false → q a = true → l.countP p + 1 ≤ l.countP q
  | [], a, ha, _, _ => by cases ha
  | b :: l, a, ha, h1, h2 => by
    have hm : l.countP p ≤ l.countP q := List.countP_mono_left (fun x _ h => hpq x h)
    rw [List.countP_cons, List.countP_cons]
    by_cases e : a = b
    · subst e
      rw [if_neg (by rw [h1]; decide), if_pos h2]
      omega
    · have ha' : a ∈ l := by
        cases ha with
        | head => exact absurd rfl e
        | tail _ h => exact h
      have ih := pw_count hpq ha' h1 h2
      by_cases hp : p b = true
      · rw [if_pos hp, if_pos (hpq b hp)]; omega
      · rw [if_neg hp]; omega
/-- a switch that is k steps away has one before it that is j steps away -/
theorem pw_layer {n : Nat} {E : Nat → Nat → Bool} {v : Nat} : ∀ {k u : Nat}, u < n → pw_wk n E k u v = true → (∀ j, j < k → pw_wk n E j u v = false) → ∀ j, j ≤ k → ∃ w, w < n ∧ pw_wk n E j w v = true ∧ ∀ i, i < j → pw_wk n E i w v = false
  | 0, u, hu, h, hl, j, hj => ⟨u, hu, (by have e : j = 0 := (by omega); subst e; exact h), fun i hi => by omega⟩
  | k + 1, u, hu, h, hl, j, hj => by
    by_cases e : j = k + 1
    · subst e; exact ⟨u, hu, h, hl⟩
    · obtain ⟨w, hw, h1, h2⟩ := pw_wk_succ.mp h
      refine pw_layer hw h2 (fun i hi => ?_) j (by omega)
      cases hi2 : pw_wk n E i w v with
      | false => rfl
      | true =>
        have := hl (i + 1) (by omega)
        rw [pw_wk_succ.mpr ⟨w, hw, h1, hi2⟩] at this
        cases this
/-- within j steps of v -/
def pw_in (n : Nat) (E : Nat → Nat → Bool) (v j w : Nat) : Bool := (List.range (j + 1)).any (fun i => pw_wk n E i w v)
theorem pw_in_iff {n : Nat} {E : Nat → Nat → Bool} {v j w : Nat} : pw_in n E v j w = true ↔ ∃ i, i ≤ j ∧ pw_wk n E i w v = true := by
  unfold pw_in
  rw [List.any_eq_true]
  constructor
  · rintro ⟨i, h1, h2⟩
    rw [List.mem_range] at h1
    exact ⟨i, by omega, h2⟩
  · rintro ⟨i, h1, h2⟩
    exact ⟨i, List.mem_range.mpr (by omega), h2⟩
/-- the shortest way is shorter than there are switches -/
theorem pw_short {n : Nat} {E : Nat → Nat → Bool} {v k u : Nat} (hu : u < n) (h : pw_wk n E k u v = true) (hl : ∀ j, j < k → pw_wk n E j u v = false) : k < n := by
  have key : ∀ j, j ≤ k → j + 1 ≤ (List.range n).countP (pw_in n E v j) := by
    intro j
    induction j with
    | zero =>
      intro _
      obtain ⟨w, hw, h1, -⟩ := pw_layer hu h hl 0 (Nat.zero_le _)
      exact List.countP_pos_iff.mpr ⟨w, List.mem_range.mpr hw, pw_in_iff.mpr ⟨0, Nat.le_refl _, h1⟩⟩
    | succ j ih =>
      intro hj
      have h0 := ih (by omega)
      obtain ⟨w, hw, h1, h2⟩ := pw_layer hu h hl (j + 1) hj
      have := pw_count (p := pw_in n E v j) (q := pw_in n E v (j + 1)) (fun a ha => by
        rw [pw_in_iff] at ha ⊢
        obtain ⟨i, hi, h⟩ := ha
        exact ⟨i, by omega, h⟩) (List.mem_range.mpr hw) (by
        cases hq : pw_in n E v j w with
        | false => rfl
        | true =>
          obtain ⟨i, hi, hh⟩ := pw_in_iff.mp hq
          rw [h2 i (by omega)] at hh
          cases hh) (pw_in_iff.mpr ⟨j + 1, Nat.le_refl _, h1⟩)
      omega
  have h1 := key k (Nat.le_refl _)
  have h2 : (List.range n).countP (pw_in n E v k) ≤ (List.range n).length := List.countP_le_length
  rw [List.length_range] at h2
  omega
end
section
/-! the fabric as rows of numbers, and what each call does to it.
0: now, how many hosts. 1: hosts (number, switch, port, taken, latest number, latest from). 2: waves. 3: other ends. 4: marks. 5: places. 7: courses (from, to, state, wave, awaited, led to, keeps, kept number, then the way). 10+i: guards (priority, match, verdict, hits). 20+i: rules (from, to, port, made, last, uses). 30+i: orders. 40+i: reports (code, value, from, to, number). 100+e: a port (host, other end, up). 200+e: its wire (from, to, number; or -1, origin, 0). -/
abbrev fc_S : Type := Nat → List (List Int32)
def fc_up (s : fc_S) (c : Nat) (rows : List (List Int32)) : fc_S := fun q => if q = c then rows else s q
def fc_get (s : fc_S) (c k j : Nat) : Int32 := ((s c).getD k []).getD j 0
def fc_put (s : fc_S) (c k j : Nat) (x : Int32) : fc_S := fc_up s c ((s c).set k (((s c).getD k []).set j x))
def fc_add (s : fc_S) (c : Nat) (row : List Int32) : fc_S := fc_up s c (s c ++ [row])
def fc_del (s : fc_S) (c k : Nat) : fc_S := fc_up s c ((s c).eraseIdx k)
def fc_len (s : fc_S) (c : Nat) : Nat := (s c).length
def fc_now (s : fc_S) : Int32 := fc_get s 0 0 0
/-- what a call may name -/
def fc_free (s : fc_S) (e : Nat) : Bool := fc_get s (100 + e) 0 0 == -1 && fc_get s (100 + e) 0 1 == -1
def fc_sw (ns : Nat) (x : Int32) : Bool := decide (0 ≤ x) && decide (x < nI ns)
def fc_pt (ns : Nat) (x p : Int32) : Bool := fc_sw ns x && (decide (0 ≤ p) && decide (p < 4))
def fc_e (x p : Int32) : Nat := 4 * x.toNatClampNeg + p.toNatClampNeg
def fc_en (ns : Nat) (s : fc_S) (x p : Int32) : Bool := fc_pt ns x p && fc_get s (100 + fc_e x p) 0 1 != -1
def fc_hs (s : fc_S) (h : Int32) : Bool := decide (0 ≤ h) && decide (h < nI (fc_len s 1))
def fc_gd (ns : Nat) (s : fc_S) (x k : Int32) : Bool := fc_sw ns x && (decide (0 ≤ k) && decide (k < nI (fc_len s (10 + x.toNatClampNeg))))
/-- attach, link, turn -/
def fc_attach (ns : Nat) (s : fc_S) (x p : Int32) : Int32 × fc_S :=
  if fc_pt ns x p && fc_free s (fc_e x p) then
    if 6 ≤ fc_len s 1 then (-2, s)
    else (nI (fc_len s 1), fc_put (fc_put (fc_add s 1 [nI (fc_len s 1), x, p, 0, 0, -1]) 0 0 1 (nI (fc_len s 1 + 1))) (100 + fc_e x p) 0 0 (nI (fc_len s 1)))
  else (-1, s)
def fc_join (s : fc_S) (e o : Nat) : fc_S := fc_put (fc_put s (100 + e) 0 1 (nI o)) (100 + e) 0 2 1
def fc_link (ns : Nat) (s : fc_S) (a p b q : Int32) : Bool × fc_S :=
  if fc_pt ns a p && (fc_pt ns b q && (a != b && (fc_free s (fc_e a p) && fc_free s (fc_e b q)))) then (true, fc_join (fc_join s (fc_e a p) (fc_e b q)) (fc_e b q) (fc_e a p)) else (false, s)
def fc_tp (s : fc_S) (e : Nat) (up : Int32) : fc_S :=
  if up = 0 then fc_add (fc_up (fc_put s (100 + e) 0 2 up) (200 + e) []) (40 + e / 4) [5, nI (e % 4), -1, -1, 0] else fc_put s (100 + e) 0 2 up
def fc_mate (s : fc_S) (e : Nat) : Nat := (fc_get s (100 + e) 0 1).toNatClampNeg
def fc_turn (ns : Nat) (s : fc_S) (x p up : Int32) : Bool × fc_S :=
  if fc_en ns s x p && (fc_get s (100 + fc_e x p) 0 2 != up && (decide (fc_len s (40 + fc_e x p / 4) < 20) && decide (fc_len s (40 + fc_mate s (fc_e x p) / 4) < 20))) then (true, fc_tp (fc_tp s (fc_e x p) up) (fc_mate s (fc_e x p)) up) else (false, s)
/-- guards -/
def fc_mt (m : Int32) : Bool := decide (0 ≤ m) && (decide (m ≤ 511) && (decide (m &&& 7 ≤ 4) && (decide (m >>> 3 &&& 7 ≤ 6) && decide (m >>> 6 &&& 7 ≤ 6))))
def fc_guard (ns : Nat) (s : fc_S) (x pr m v : Int32) : Int32 × fc_S :=
  if fc_sw ns x && (decide (0 ≤ pr) && (decide (pr ≤ 9) && (decide (0 ≤ v) && (decide (v ≤ 6) && fc_mt m)))) then
    if 4 ≤ fc_len s (10 + x.toNatClampNeg) then (-2, s) else (nI (fc_len s (10 + x.toNatClampNeg)), fc_add s (10 + x.toNatClampNeg) [pr, m, v, 0])
  else (-1, s)
def fc_unguard (ns : Nat) (s : fc_S) (x k : Int32) : Int32 × fc_S :=
  if fc_gd ns s x k then (fc_get s (10 + x.toNatClampNeg) k.toNatClampNeg 3, fc_del s (10 + x.toNatClampNeg) k.toNatClampNeg) else (-1, s)
def fc_hits (ns : Nat) (s : fc_S) (x k : Int32) : Int32 := if fc_gd ns s x k then fc_get s (10 + x.toNatClampNeg) k.toNatClampNeg 3 else -1
/-- a frame goes out by a port -/
def fc_take (s : fc_S) (h : Nat) (row : List Int32) : fc_S := fc_put (fc_put (fc_put s 1 h 3 (fc_get s 1 h 3 + 1)) 1 h 4 (row.getD 2 0)) 1 h 5 (row.getD 0 0)
def fc_out (s : fc_S) (e : Nat) (row : List Int32) : fc_S :=
  if fc_get s (100 + e) 0 0 != -1 then
    if row.getD 0 0 != -1 && row.getD 1 0 == fc_get s (100 + e) 0 0 then fc_take s (fc_get s (100 + e) 0 0).toNatClampNeg row else s
  else if fc_get s (100 + e) 0 2 != 0 && decide (fc_len s (200 + e) < 6) then fc_add s (200 + e) row else s
/-- a report that is lost where many wait -/
def fc_slight (s : fc_S) (i : Nat) (row : List Int32) : fc_S := if fc_len s (40 + i) < 8 then fc_add s (40 + i) row else s
/-- guards and rules -/
def fc_fit (w v : Int32) : Bool := w == 0 || w == v + 1
def fc_mch (m p f t : Int32) : Bool := fc_fit (m &&& 7) p && (fc_fit (m >>> 3 &&& 7) f && fc_fit (m >>> 6 &&& 7) t)
def fc_bst (rows : List (List Int32)) (p f t : Int32) : Nat → Option Nat
  | 0 => none
  | k + 1 =>
    match fc_bst rows p f t k with
    | none => if fc_mch ((rows.getD k []).getD 1 0) p f t then some k else none
    | some b => if decide ((rows.getD b []).getD 0 0 < (rows.getD k []).getD 0 0) && fc_mch ((rows.getD k []).getD 1 0) p f t then some k else some b
def fc_rix (s : fc_S) (i : Nat) (f t : Int32) : Option Nat := (s (20 + i)).findIdx? (fun r => r.getD 0 0 == f && r.getD 1 0 == t)
def fc_rules (s : fc_S) (i : Nat) (p f t nr : Int32) : fc_S :=
  match fc_rix s i f t with
  | none => fc_slight s i [0, p, f, t, nr]
  | some k => fc_out (fc_put (fc_put s (20 + i) k 5 (fc_get s (20 + i) k 5 + 1)) (20 + i) k 4 (fc_now s)) (4 * i + (fc_get s (20 + i) k 2).toNatClampNeg) [f, t, nr]
def fc_in (s : fc_S) (i : Nat) (p f t nr : Int32) : fc_S :=
  match fc_bst (s (10 + i)) p f t (fc_len s (10 + i)) with
  | none => fc_rules s i p f t nr
  | some k =>
    if fc_get s (10 + i) k 2 < 4 then fc_out (fc_put s (10 + i) k 3 (fc_get s (10 + i) k 3 + 1)) (4 * i + (fc_get s (10 + i) k 2).toNatClampNeg) [f, t, nr]
    else if fc_get s (10 + i) k 2 = 5 then fc_rules (fc_put s (10 + i) k 3 (fc_get s (10 + i) k 3 + 1)) i p f t nr
    else if fc_get s (10 + i) k 2 = 6 then fc_slight (fc_put s (10 + i) k 3 (fc_get s (10 + i) k 3 + 1)) i [0, p, f, t, nr]
    else fc_put s (10 + i) k 3 (fc_get s (10 + i) k 3 + 1)
/-- send, carry -/
def fc_send (s : fc_S) (f t nr : Int32) : Bool × fc_S :=
  if fc_hs s f && (fc_hs s t && f != t) then (true, fc_in s (fc_get s 1 f.toNatClampNeg 1).toNatClampNeg (fc_get s 1 f.toNatClampNeg 2) f t nr) else (false, s)
def fc_carry (ns : Nat) (s : fc_S) (x p : Int32) : Bool × fc_S :=
  if fc_en ns s x p && !(s (200 + fc_e x p)).isEmpty then
    (true, if fc_get s (200 + fc_e x p) 0 0 = -1 then fc_slight (fc_del s (200 + fc_e x p) 0) (fc_mate s (fc_e x p) / 4) [1, nI (fc_mate s (fc_e x p) % 4), fc_get s (200 + fc_e x p) 0 1, -1, 0]
      else fc_in (fc_del s (200 + fc_e x p) 0) (fc_mate s (fc_e x p) / 4) (nI (fc_mate s (fc_e x p) % 4)) (fc_get s (200 + fc_e x p) 0 0) (fc_get s (200 + fc_e x p) 0 1) (fc_get s (200 + fc_e x p) 0 2))
  else (false, s)
/-- obey -/
def fc_cut (s : fc_S) (i : Nat) (f t : Int32) : fc_S := match fc_rix s i f t with | none => s | some k => fc_del s (20 + i) k
def fc_putr (room : Nat) (s : fc_S) (i : Nat) (f t p : Int32) : fc_S :=
  if room ≤ fc_len (fc_cut s i f t) (20 + i) then fc_add (fc_cut s i f t) (40 + i) [3, -1, f, t, 0] else fc_add (fc_cut s i f t) (20 + i) [f, t, p, fc_now s, fc_now s, 0]
def fc_outs (s : fc_S) (i : Nat) (bits : Int32) (row : List Int32) : Nat → fc_S
  | 0 => s
  | p + 1 => if bits >>> nI p &&& 1 = 1 then fc_out (fc_outs s i bits row p) (4 * i + p) row else fc_outs s i bits row p
def fc_prbs (s : fc_S) (i : Nat) : Nat → fc_S
  | 0 => s
  | p + 1 => if fc_get (fc_prbs s i p) (100 + (4 * i + p)) 0 1 != -1 then fc_out (fc_prbs s i p) (4 * i + p) [-1, nI (4 * i + p), 0] else fc_prbs s i p
def fc_does (room : Nat) (s : fc_S) (i : Nat) (r : List Int32) : fc_S :=
  if r.getD 0 0 = 0 then fc_putr room s i (r.getD 2 0) (r.getD 3 0) (r.getD 1 0)
  else if r.getD 0 0 = 1 then fc_cut s i (r.getD 2 0) (r.getD 3 0)
  else if r.getD 0 0 = 2 then fc_add s (40 + i) [2, r.getD 1 0, -1, -1, 0]
  else if r.getD 0 0 = 3 then fc_outs s i (r.getD 1 0) [r.getD 2 0, r.getD 3 0, r.getD 4 0] 4
  else if r.getD 0 0 = 4 then fc_rules s i 4 (r.getD 2 0) (r.getD 3 0) (r.getD 4 0)
  else if r.getD 0 0 = 5 then fc_prbs s i 4
  else s
def fc_obey (ns room : Nat) (s : fc_S) (x : Int32) : Int32 × fc_S :=
  if fc_sw ns x && !(s (30 + x.toNatClampNeg)).isEmpty then (fc_get s (30 + x.toNatClampNeg) 0 0, fc_does room (fc_del s (30 + x.toNatClampNeg) 0) x.toNatClampNeg ((s (30 + x.toNatClampNeg)).getD 0 [])) else (-1, s)
/-- probe, tick -/
def fc_all (ns : Nat) (s : fc_S) (row : List Int32) : fc_S := fun q => if 30 ≤ q ∧ q < 30 + ns then s q ++ [row] else s q
def fc_probe (ns : Nat) (s : fc_S) : Bool × fc_S := if (List.range ns).all (fun i => decide (fc_len s (30 + i) < 16)) then (true, fc_all ns s [5, -1, -1, -1, 0]) else (false, s)
def fc_old (idle : Nat) (now : Int32) (r : List Int32) : Bool := decide (nI idle ≤ now - r.getD 4 0) || decide (4 * nI idle ≤ now - r.getD 3 0)
/-- the rules of a switch that are old go, each with a report -/
def fc_drop (idle : Nat) (s : fc_S) (i : Nat) : fc_S := fun q =>
  if q = 20 + i then (s q).filter (fun r => !fc_old idle (fc_now s) r)
  else if q = 40 + i then s q ++ ((s (20 + i)).filter (fc_old idle (fc_now s))).map (fun r => [4, -1, r.getD 0 0, r.getD 1 0, 0])
  else s q
def fc_drops (idle : Nat) (s : fc_S) : Nat → fc_S
  | 0 => s
  | i + 1 => fc_drop idle (fc_drops idle s i) i
def fc_gone (idle : Nat) (s : fc_S) : Nat → Nat
  | 0 => 0
  | i + 1 => fc_gone idle s i + ((s (20 + i)).filter (fc_old idle (fc_now s))).length
def fc_tick (ns idle : Nat) (s : fc_S) : Int32 × fc_S := (nI (fc_gone idle (fc_put s 0 0 0 (fc_now s + 1)) ns), fc_drops idle (fc_put s 0 0 0 (fc_now s + 1)) ns)
/-- what is asked -/
def fc_waiting (ns : Nat) (s : fc_S) (x w : Int32) : Int32 :=
  if fc_sw ns x then
    if decide (0 ≤ w) && decide (w < 4) then nI (fc_len s (200 + fc_e x w)) else if w = 4 then nI (fc_len s (30 + x.toNatClampNeg)) else if w = 5 then nI (fc_len s (40 + x.toNatClampNeg)) else -1
  else -1
def fc_rule (ns : Nat) (s : fc_S) (x f t w : Int32) : Int32 :=
  if fc_sw ns x then
    match fc_rix s x.toNatClampNeg f t with
    | none => -1
    | some k => if w = 0 then fc_get s (20 + x.toNatClampNeg) k 2 else if w = 1 then fc_get s (20 + x.toNatClampNeg) k 5 else if w = 2 then nI k else -1
  else -1
def fc_taken (s : fc_S) (h w : Int32) : Int32 :=
  if fc_hs s h then if w = 0 then fc_get s 1 h.toNatClampNeg 3 else if w = 1 then fc_get s 1 h.toNatClampNeg 4 else if w = 2 then fc_get s 1 h.toNatClampNeg 5 else -1 else -1
def fc_known (ns : Nat) (s : fc_S) (x p : Int32) : Int32 := if fc_pt ns x p then fc_get s 3 0 (fc_e x p) else -1
def fc_place (s : fc_S) (h : Int32) : Int32 := if fc_hs s h then fc_get s 5 0 h.toNatClampNeg else -1
def fc_cix (s : fc_S) (f t : Int32) : Option Nat := (s 7).findIdx? (fun r => r.getD 0 0 == f && r.getD 1 0 == t)
def fc_way (s : fc_S) (k : Nat) : List Int32 := ((s 7).getD k []).drop 8
def fc_course (s : fc_S) (f t k : Int32) : Int32 :=
  match fc_cix s f t with
  | none => -1
  | some c => if decide (0 ≤ k) && decide (k < nI (fc_way s c).length) then (fc_way s c).getD k.toNatClampNeg 0 / 4 else if k = -1 then fc_get s 7 c 2 else if k = -2 then (if fc_get s 7 c 6 = 0 then 0 else fc_get s 7 c 7) else -1
/-- the controller -/
def fc_ord (s : fc_S) (e : Int32) (row : List Int32) : fc_S := fc_add s (30 + e.toNatClampNeg / 4) row
def fc_clr (s : fc_S) (k : Nat) : fc_S :=
  (fc_way s k).foldl (fun u e => fc_ord (fc_ord u e [1, -1, fc_get s 7 k 0, fc_get s 7 k 1, 0]) e [2, fc_get s 2 0 0 + 1, -1, -1, 0])
    (fc_put (fc_put (fc_put (fc_put s 2 0 0 (fc_get s 2 0 0 + 1)) 7 k 2 1) 7 k 3 (fc_get s 2 0 0 + 1)) 7 k 4 (nI (fc_way s k).length))
def fc_lead (s : fc_S) (k : Nat) : fc_S :=
  fc_ord (fc_ord (fc_put (fc_put (fc_put s 2 0 0 (fc_get s 2 0 0 + 1)) 7 k 3 (fc_get s 2 0 0 + 1)) 7 k 5 (fc_get s 7 k 5 - 1))
    ((fc_way s k).getD (fc_get s 7 k 5 - 1).toNatClampNeg 0) [0, nI (((fc_way s k).getD (fc_get s 7 k 5 - 1).toNatClampNeg 0).toNatClampNeg % 4), fc_get s 7 k 0, fc_get s 7 k 1, 0])
    ((fc_way s k).getD (fc_get s 7 k 5 - 1).toNatClampNeg 0) [2, fc_get s 2 0 0 + 1, -1, -1, 0]
/-- links as the controller knows them -/
def fc_oth (s : fc_S) (e : Nat) : Option Nat := if fc_get s 3 0 e = -1 then none else some (fc_get s 3 0 e).toNatClampNeg
def fc_E (s : fc_S) (u w : Nat) : Bool := (List.range 4).any (fun p => (fc_oth s (4 * u + p)).any (fun e => e / 4 == w))
/-- the least port of u that leads to w -/
def fc_ld (s : fc_S) (u w : Nat) : Nat := pw_least (fun p => (fc_oth s (4 * u + p)).any (fun e => e / 4 == w)) 4
def fc_wayOf (ns : Nat) (s : fc_S) (f t : Int32) : List Int32 :=
  if fc_get s 5 0 f.toNatClampNeg = -1 ∨ fc_get s 5 0 t.toNatClampNeg = -1 then [] else
  match pw_L ns (fc_E s) ((fc_get s 5 0 t.toNatClampNeg).toNatClampNeg / 4) ns ((fc_get s 5 0 f.toNatClampNeg).toNatClampNeg / 4) with
  | none => []
  | some d => (List.range d).map (fun i => nI (4 * pw_at ns (fc_E s) ((fc_get s 5 0 t.toNatClampNeg).toNatClampNeg / 4) d ((fc_get s 5 0 f.toNatClampNeg).toNatClampNeg / 4) i
      + fc_ld s (pw_at ns (fc_E s) ((fc_get s 5 0 t.toNatClampNeg).toNatClampNeg / 4) d ((fc_get s 5 0 f.toNatClampNeg).toNatClampNeg / 4) i) (pw_at ns (fc_E s) ((fc_get s 5 0 t.toNatClampNeg).toNatClampNeg / 4) d ((fc_get s 5 0 f.toNatClampNeg).toNatClampNeg / 4) (i + 1))))
      ++ [fc_get s 5 0 t.toNatClampNeg]
/-- a course begins to be laid along a way -/
def fc_lay (s : fc_S) (k : Nat) (way : List Int32) : fc_S := fc_lead (fc_up s 7 ((s 7).set k (((((s 7).getD k []).take 8).set 2 2).set 5 (nI way.length) ++ way))) k
def fc_make (ns : Nat) (s : fc_S) (f t nr : Int32) : fc_S :=
  if 6 ≤ fc_len s 7 then s else if (fc_wayOf ns s f t).isEmpty then s else fc_lay (fc_add s 7 [f, t, 2, 0, 0, 0, 1, nr]) (fc_len s 7) (fc_wayOf ns s f t)
def fc_bits (s : fc_S) (i : Nat) (port : Int32) (u : Nat) : Nat → Int32
  | 0 => 0
  | p + 1 => if fc_get s 4 0 (4 * u + p) = 0 ∧ ¬ (u = i ∧ nI p = port) then fc_bits s i port u p ||| (1 <<< nI p) else fc_bits s i port u p
def fc_flood (s : fc_S) (i : Nat) (port f t nr : Int32) : Nat → fc_S
  | 0 => s
  | u + 1 => if fc_bits s i port u 4 ≠ 0 ∧ fc_len s (30 + u) < 16 then fc_add (fc_flood s i port f t nr u) (30 + u) [3, fc_bits s i port u 4, f, t, nr] else fc_flood s i port f t nr u
def fc_miss (ns : Nat) (s0 : fc_S) (i : Nat) (port f t nr : Int32) : fc_S :=
  let s := if port ≠ 4 ∧ fc_get s0 4 0 (4 * i + port.toNatClampNeg) = 0 then fc_put s0 5 0 f.toNatClampNeg (nI (4 * i + port.toNatClampNeg)) else s0
  match fc_cix s f t with
  | some k => if fc_get s 7 k 2 = 3 then fc_clr (fc_put (fc_put s 7 k 6 1) 7 k 7 nr) k else fc_put (fc_put s 7 k 6 1) 7 k 7 nr
  | none => if fc_get s 5 0 t.toNatClampNeg = -1 then fc_flood s i port f t nr ns else fc_make ns s f t nr
/-- every course that is hurt, and laying or laid, is cleared -/
def fc_hurt (s : fc_S) (hurt : List Int32 → Bool) : Nat → fc_S
  | 0 => s
  | k + 1 => if hurt (fc_way s k) = true ∧ (fc_get s 7 k 2 = 2 ∨ fc_get s 7 k 2 = 3) then fc_clr (fc_hurt s hurt k) k else fc_hurt s hurt k
def fc_seen (s : fc_S) (e o : Nat) : fc_S :=
  fc_hurt (fc_up (fc_up (fc_up s 4 [(((s 4).getD 0 []).set e 1).set o 1]) 3 [(((s 3).getD 0 []).set e (nI o)).set o (nI e)]) 5 [((s 5).getD 0 []).map (fun x => if x = nI e ∨ x = nI o then -1 else x)])
    (fun w => w.getLast? == some (nI e) || w.getLast? == some (nI o)) (fc_len s 7)
def fc_done (ns : Nat) (s : fc_S) (wv : Int32) : fc_S :=
  match (s 7).findIdx? (fun r => r.getD 3 0 == wv) with
  | none => s
  | some k =>
    if fc_get s 7 k 2 = 1 then
      if 0 < fc_get s 7 k 4 - 1 then fc_put s 7 k 4 (fc_get s 7 k 4 - 1)
      else if fc_get s 7 k 6 = 0 ∨ (fc_wayOf ns s (fc_get s 7 k 0) (fc_get s 7 k 1)).isEmpty then fc_del s 7 k
      else fc_lay (fc_put s 7 k 4 (fc_get s 7 k 4 - 1)) k (fc_wayOf ns s (fc_get s 7 k 0) (fc_get s 7 k 1))
    else if fc_get s 7 k 2 = 2 then
      if 0 < fc_get s 7 k 5 then fc_lead s k
      else if fc_get s 7 k 6 = 0 then fc_put s 7 k 2 3
      else fc_ord (fc_put (fc_put s 7 k 2 3) 7 k 6 0) ((fc_way s k).getD 0 0) [4, -1, fc_get s 7 k 0, fc_get s 7 k 1, fc_get s 7 k 7]
    else s
def fc_noroom (s : fc_S) (f t : Int32) : fc_S :=
  match fc_cix s f t with
  | none => s
  | some k => if fc_get s 7 k 2 = 2 then fc_clr (fc_put s 7 k 6 0) k else s
def fc_wentOff (s : fc_S) (i : Nat) (f t : Int32) : fc_S :=
  match fc_cix s f t with
  | none => s
  | some k => if (fc_get s 7 k 2 = 2 ∨ fc_get s 7 k 2 = 3) ∧ (fc_way s k).any (fun e => e.toNatClampNeg / 4 == i) = true then fc_clr s k else s
def fc_down (s : fc_S) (e : Nat) : fc_S :=
  if fc_get s 3 0 e = -1 then s
  else fc_hurt (fc_up s 3 [(((s 3).getD 0 []).set e (-1)).set (fc_get s 3 0 e).toNatClampNeg (-1)]) (fun w => w.any (fun x => x == nI e) || w.any (fun x => x == fc_get s 3 0 e)) (fc_len s 7)
def fc_hears (ns : Nat) (s : fc_S) (i : Nat) (r : List Int32) : fc_S :=
  if r.getD 0 0 = 0 then fc_miss ns s i (r.getD 1 0) (r.getD 2 0) (r.getD 3 0) (r.getD 4 0)
  else if r.getD 0 0 = 1 then fc_seen s (4 * i + (r.getD 1 0).toNatClampNeg) (r.getD 2 0).toNatClampNeg
  else if r.getD 0 0 = 2 then fc_done ns s (r.getD 1 0)
  else if r.getD 0 0 = 3 then fc_noroom s (r.getD 2 0) (r.getD 3 0)
  else if r.getD 0 0 = 4 then fc_wentOff s i (r.getD 2 0) (r.getD 3 0)
  else if r.getD 0 0 = 5 then fc_down s (4 * i + (r.getD 1 0).toNatClampNeg)
  else s
def fc_report (ns : Nat) (s : fc_S) (x : Int32) : Int32 × fc_S :=
  if fc_sw ns x && !(s (40 + x.toNatClampNeg)).isEmpty then (fc_get s (40 + x.toNatClampNeg) 0 0, fc_hears ns (fc_del s (40 + x.toNatClampNeg) 0) x.toNatClampNeg ((s (40 + x.toNatClampNeg)).getD 0 [])) else (-1, s)
end
section
def y_FF_new : am_N := ("FlowFabric", "<init>", prog_1_method_1_code, 6, none)
def y_FF_within : am_N := ("FlowFabric", "within", prog_1_method_25_code, 3, some FieldType.int)
def y_Mt_min : am_N := ("java/lang/Math", "min", prog_17_method_69_code, 2, some FieldType.int)
def y_Mt_max : am_N := ("java/lang/Math", "max", prog_17_method_65_code, 2, some FieldType.int)
def y_Nd_new : am_N := ("FlowFabric$Node", "<init>", prog_9_method_1_code, 4, none)
def y_Pt_new : am_N := ("FlowFabric$Port", "<init>", prog_10_method_1_code, 1, none)
def y_AL_new : am_N := ("java/util/ArrayList", "<init>", prog_21_method_2_code, 1, none)
def y_Al_new : am_N := ("java/util/AbstractList", "<init>", prog_20_method_1_code, 1, none)
def y_Ac_new : am_N := ("java/util/AbstractCollection", "<init>", prog_19_method_1_code, 1, none)
def y_Ct_new : am_N := ("FlowFabric$Controller", "<init>", prog_2_method_1_code, 3, none)
def y_As_fill : am_N := ("java/util/Arrays", "fill", prog_22_method_103_code, 4, none)
def y_FF_attach : am_N := ("FlowFabric", "attach", prog_1_method_2_code, 4, some FieldType.int)
def y_FF_isPort : am_N := ("FlowFabric", "isPort", prog_1_method_21_code, 3, some FieldType.boolean)
def y_FF_isSwitch : am_N := ("FlowFabric", "isSwitch", prog_1_method_20_code, 2, some FieldType.boolean)
def y_Pt_isFree : am_N := ("FlowFabric$Port", "isFree", prog_10_method_2_code, 1, some FieldType.boolean)
def y_Ho_new : am_N := ("FlowFabric$Host", "<init>", prog_7_method_1_code, 4, none)
def y_FF_link : am_N := ("FlowFabric", "link", prog_1_method_3_code, 7, some FieldType.boolean)
def y_FF_endOf : am_N := ("FlowFabric", "endOf", prog_1_method_26_code, 2, some FieldType.int)
def y_Pt_join : am_N := ("FlowFabric$Port", "join", prog_10_method_3_code, 2, none)
def y_FF_turn : am_N := ("FlowFabric", "turn", prog_1_method_4_code, 7, some FieldType.boolean)
def y_FF_isEnd : am_N := ("FlowFabric", "isEnd", prog_1_method_22_code, 3, some FieldType.boolean)
def y_FF_switchOf : am_N := ("FlowFabric", "switchOf", prog_1_method_27_code, 1, some FieldType.int)
def y_Nd_holdsLinks : am_N := ("FlowFabric$Node", "holdsLinks", prog_9_method_2_code, 1, some FieldType.boolean)
def y_AL_size : am_N := ("java/util/ArrayList", "size", prog_21_method_8_code, 1, some FieldType.int)
def y_Nd_turnPort : am_N := ("FlowFabric$Node", "turnPort", prog_9_method_3_code, 3, none)
def y_AL_clear : am_N := ("java/util/ArrayList", "clear", prog_21_method_40_code, 4, none)
def y_Ms_ofValue : am_N := ("FlowFabric$Message", "ofValue", prog_8_method_2_code, 2, some (FieldType.object "FlowFabric$Message"))
def y_Ms_new : am_N := ("FlowFabric$Message", "<init>", prog_8_method_1_code, 6, none)
def y_AL_add : am_N := ("java/util/ArrayList", "add", prog_21_method_25_code, 2, some FieldType.boolean)
def y_AL_add2 : am_N := ("java/util/ArrayList", "add", prog_21_method_24_code, 4, none)
def y_AL_grow : am_N := ("java/util/ArrayList", "grow", prog_21_method_7_code, 1, some (FieldType.array (FieldType.object "java/lang/Object")))
def y_AL_grow2 : am_N := ("java/util/ArrayList", "grow", prog_21_method_6_code, 4, some (FieldType.array (FieldType.object "java/lang/Object")))
def y_Sp_newLength : am_N := ("jdk/internal/util/ArraysSupport", "newLength", prog_28_method_27_code, 4, some FieldType.int)
def y_Sp_hugeLength : am_N := ("jdk/internal/util/ArraysSupport", "hugeLength", prog_28_method_28_code, 3, some FieldType.int)
def y_As_copyOf : am_N := ("java/util/Arrays", "copyOf", prog_22_method_119_code, 2, some (FieldType.array (FieldType.object "java/lang/Object")))
def y_As_copyOf2 : am_N := ("java/util/Arrays", "copyOf", prog_22_method_120_code, 4, some (FieldType.array (FieldType.object "java/lang/Object")))
def y_FF_portOf : am_N := ("FlowFabric", "portOf", prog_1_method_28_code, 1, some FieldType.int)
def y_FF_guard : am_N := ("FlowFabric", "guard", prog_1_method_5_code, 6, some FieldType.int)
def y_Gd_isMatch : am_N := ("FlowFabric$Guard", "isMatch", prog_6_method_2_code, 1, some FieldType.boolean)
def y_Gd_new : am_N := ("FlowFabric$Guard", "<init>", prog_6_method_1_code, 4, none)
def y_FF_unguard : am_N := ("FlowFabric", "unguard", prog_1_method_6_code, 3, some FieldType.int)
def y_FF_isGuard : am_N := ("FlowFabric", "isGuard", prog_1_method_23_code, 3, some FieldType.boolean)
def y_AL_remove : am_N := ("java/util/ArrayList", "remove", prog_21_method_29_code, 4, some (FieldType.object "java/lang/Object"))
def y_Ob_checkIndex : am_N := ("java/util/Objects", "checkIndex", prog_25_method_17_code, 2, some FieldType.int)
def y_Pr_checkIndex : am_N := ("jdk/internal/util/Preconditions", "checkIndex", prog_29_method_11_code, 3, some FieldType.int)
def y_AL_fastRemove : am_N := ("java/util/ArrayList", "fastRemove", prog_21_method_39_code, 4, none)
def y_FF_send : am_N := ("FlowFabric", "send", prog_1_method_7_code, 5, some FieldType.boolean)
def y_FF_isHost : am_N := ("FlowFabric", "isHost", prog_1_method_24_code, 2, some FieldType.boolean)
def y_Dg_new : am_N := ("FlowFabric$Datagram", "<init>", prog_4_method_1_code, 4, none)
def y_Nd_comeIn : am_N := ("FlowFabric$Node", "comeIn", prog_9_method_5_code, 6, none)
def y_Nd_strongestGuard : am_N := ("FlowFabric$Node", "strongestGuard", prog_9_method_6_code, 7, some (FieldType.object "FlowFabric$Guard"))
def y_AL_get : am_N := ("java/util/ArrayList", "get", prog_21_method_20_code, 2, some (FieldType.object "java/lang/Object"))
def y_AL_elementData : am_N := ("java/util/ArrayList", "elementData", prog_21_method_18_code, 2, some (FieldType.object "java/lang/Object"))
def y_Gd_matches : am_N := ("FlowFabric$Guard", "matches", prog_6_method_3_code, 3, some FieldType.boolean)
def y_Gd_fits : am_N := ("FlowFabric$Guard", "fits", prog_6_method_4_code, 2, some FieldType.boolean)
def y_Fr_ofDatagram : am_N := ("FlowFabric$Frame", "ofDatagram", prog_5_method_2_code, 1, some (FieldType.object "FlowFabric$Frame"))
def y_Fr_new : am_N := ("FlowFabric$Frame", "<init>", prog_5_method_1_code, 3, none)
def y_Pt_sendOut : am_N := ("FlowFabric$Port", "sendOut", prog_10_method_4_code, 2, none)
def y_Ho_take : am_N := ("FlowFabric$Host", "take", prog_7_method_2_code, 2, none)
def y_Nd_comeToRules : am_N := ("FlowFabric$Node", "comeToRules", prog_9_method_7_code, 6, none)
def y_Nd_ruleIndex : am_N := ("FlowFabric$Node", "ruleIndex", prog_9_method_9_code, 5, some FieldType.int)
def y_Ms_ofDatagram : am_N := ("FlowFabric$Message", "ofDatagram", prog_8_method_4_code, 3, some (FieldType.object "FlowFabric$Message"))
def y_Nd_addIfOpen : am_N := ("FlowFabric$Node", "addIfOpen", prog_9_method_8_code, 2, none)
def y_FF_carry : am_N := ("FlowFabric", "carry", prog_1_method_8_code, 5, some FieldType.boolean)
def y_AL_isEmpty : am_N := ("java/util/ArrayList", "isEmpty", prog_21_method_9_code, 1, some FieldType.boolean)
def y_Nd_receive : am_N := ("FlowFabric$Node", "receive", prog_9_method_4_code, 4, none)
def y_Ms_ofProbe : am_N := ("FlowFabric$Message", "ofProbe", prog_8_method_5_code, 2, some (FieldType.object "FlowFabric$Message"))
def y_FF_obey : am_N := ("FlowFabric", "obey", prog_1_method_9_code, 3, some FieldType.int)
def y_Nd_carryOut : am_N := ("FlowFabric$Node", "carryOut", prog_9_method_10_code, 3, none)
def y_Nd_putRule : am_N := ("FlowFabric$Node", "putRule", prog_9_method_11_code, 3, none)
def y_Nd_cutRule : am_N := ("FlowFabric$Node", "cutRule", prog_9_method_12_code, 4, none)
def y_Ms_ofPair : am_N := ("FlowFabric$Message", "ofPair", prog_8_method_3_code, 4, some (FieldType.object "FlowFabric$Message"))
def y_Rl_new : am_N := ("FlowFabric$Rule", "<init>", prog_11_method_1_code, 5, none)
def y_Ms_toDatagram : am_N := ("FlowFabric$Message", "toDatagram", prog_8_method_6_code, 1, some (FieldType.object "FlowFabric$Datagram"))
def y_Nd_sendOutAt : am_N := ("FlowFabric$Node", "sendOutAt", prog_9_method_13_code, 5, none)
def y_Nd_sendProbes : am_N := ("FlowFabric$Node", "sendProbes", prog_9_method_14_code, 2, none)
def y_Fr_ofProbe : am_N := ("FlowFabric$Frame", "ofProbe", prog_5_method_3_code, 1, some (FieldType.object "FlowFabric$Frame"))
def y_FF_report : am_N := ("FlowFabric", "report", prog_1_method_10_code, 3, some FieldType.int)
def y_Ct_handle : am_N := ("FlowFabric$Controller", "handle", prog_2_method_2_code, 3, none)
def y_Ct_handleMiss : am_N := ("FlowFabric$Controller", "handleMiss", prog_2_method_3_code, 5, none)
def y_Ct_courseOf : am_N := ("FlowFabric$Controller", "courseOf", prog_2_method_13_code, 5, some (FieldType.object "FlowFabric$Course"))
def y_Ct_clearCourse : am_N := ("FlowFabric$Controller", "clearCourse", prog_2_method_14_code, 8, none)
def y_Ct_orderOuts : am_N := ("FlowFabric$Controller", "orderOuts", prog_2_method_4_code, 8, none)
def y_Ct_makeCourse : am_N := ("FlowFabric$Controller", "makeCourse", prog_2_method_5_code, 4, none)
def y_Ct_findWay : am_N := ("FlowFabric$Controller", "findWay", prog_2_method_16_code, 7, some (FieldType.array FieldType.int))
def y_Ct_countSteps : am_N := ("FlowFabric$Controller", "countSteps", prog_2_method_17_code, 5, none)
def y_Ct_nextEnd : am_N := ("FlowFabric$Controller", "nextEnd", prog_2_method_18_code, 7, some FieldType.int)
def y_Co_new : am_N := ("FlowFabric$Course", "<init>", prog_3_method_1_code, 4, none)
def y_Co_beginLaying : am_N := ("FlowFabric$Course", "beginLaying", prog_3_method_3_code, 2, none)
def y_Ct_leadAhead : am_N := ("FlowFabric$Controller", "leadAhead", prog_2_method_15_code, 4, none)
def y_Ct_handleSeen : am_N := ("FlowFabric$Controller", "handleSeen", prog_2_method_6_code, 6, none)
def y_Co_endsWith : am_N := ("FlowFabric$Course", "endsWith", prog_3_method_4_code, 2, some FieldType.boolean)
def y_Co_isLayingOrLaid : am_N := ("FlowFabric$Course", "isLayingOrLaid", prog_3_method_2_code, 1, some FieldType.boolean)
def y_Ct_handleDone : am_N := ("FlowFabric$Controller", "handleDone", prog_2_method_7_code, 4, none)
def y_Ct_countDone : am_N := ("FlowFabric$Controller", "countDone", prog_2_method_8_code, 4, none)
def y_Ct_finishLaying : am_N := ("FlowFabric$Controller", "finishLaying", prog_2_method_9_code, 3, none)
def y_Ct_handleNoRoom : am_N := ("FlowFabric$Controller", "handleNoRoom", prog_2_method_10_code, 4, none)
def y_Ct_handleGone : am_N := ("FlowFabric$Controller", "handleGone", prog_2_method_11_code, 5, none)
def y_Co_passes : am_N := ("FlowFabric$Course", "passes", prog_3_method_6_code, 6, some FieldType.boolean)
def y_Ct_handleDown : am_N := ("FlowFabric$Controller", "handleDown", prog_2_method_12_code, 6, none)
def y_Co_leadsOutOf : am_N := ("FlowFabric$Course", "leadsOutOf", prog_3_method_5_code, 6, some FieldType.boolean)
def y_FF_probe : am_N := ("FlowFabric", "probe", prog_1_method_11_code, 6, some FieldType.boolean)
def y_FF_tick : am_N := ("FlowFabric", "tick", prog_1_method_12_code, 6, some FieldType.int)
def y_Nd_dropOldRules : am_N := ("FlowFabric$Node", "dropOldRules", prog_9_method_15_code, 7, some FieldType.int)
def y_Rl_isOld : am_N := ("FlowFabric$Rule", "isOld", prog_11_method_2_code, 3, some FieldType.boolean)
def y_FF_waiting : am_N := ("FlowFabric", "waiting", prog_1_method_13_code, 3, some FieldType.int)
def y_FF_rule : am_N := ("FlowFabric", "rule", prog_1_method_14_code, 7, some FieldType.int)
def y_FF_hits : am_N := ("FlowFabric", "hits", prog_1_method_15_code, 3, some FieldType.int)
def y_FF_taken : am_N := ("FlowFabric", "taken", prog_1_method_16_code, 3, some FieldType.int)
def y_FF_known : am_N := ("FlowFabric", "known", prog_1_method_17_code, 3, some FieldType.int)
def y_FF_place : am_N := ("FlowFabric", "place", prog_1_method_18_code, 2, some FieldType.int)
def y_FF_course : am_N := ("FlowFabric", "course", prog_1_method_19_code, 5, some FieldType.int)
def y_Lw_cell : am_N := ("FlowFabricLaw", "cell", method_2_code, 2, some FieldType.int)
def y_M_new : am_N := ("FlowFabricModel", "<init>", prog_13_method_1_code, 4, none)
def y_M_between : am_N := ("FlowFabricModel", "between", prog_13_method_2_code, 3, some FieldType.int)
def y_M_attach : am_N := ("FlowFabricModel", "attach", prog_13_method_6_code, 3, some FieldType.int)
def y_M_isPort : am_N := ("FlowFabricModel", "isPort", prog_13_method_4_code, 3, some FieldType.boolean)
def y_M_isSwitch : am_N := ("FlowFabricModel", "isSwitch", prog_13_method_3_code, 2, some FieldType.boolean)
def y_M_link : am_N := ("FlowFabricModel", "link", prog_13_method_7_code, 5, some FieldType.boolean)
def y_M_join : am_N := ("FlowFabricModel", "join", prog_13_method_8_code, 3, none)
def y_M_turn : am_N := ("FlowFabricModel", "turn", prog_13_method_9_code, 5, some FieldType.boolean)
def y_M_tell : am_N := ("FlowFabricModel", "tell", prog_13_method_15_code, 8, none)
def y_M_add : am_N := ("FlowFabricModel", "add", prog_13_method_14_code, 8, none)
def y_M_guard : am_N := ("FlowFabricModel", "guard", prog_13_method_10_code, 7, some FieldType.int)
def y_M_hits : am_N := ("FlowFabricModel", "hits", prog_13_method_12_code, 3, some FieldType.int)
def y_M_isGuard : am_N := ("FlowFabricModel", "isGuard", prog_13_method_11_code, 3, some FieldType.boolean)
def y_M_unguard : am_N := ("FlowFabricModel", "unguard", prog_13_method_13_code, 5, some FieldType.int)
def y_M_send : am_N := ("FlowFabricModel", "send", prog_13_method_24_code, 4, some FieldType.boolean)
def y_M_isHost : am_N := ("FlowFabricModel", "isHost", prog_13_method_5_code, 2, some FieldType.boolean)
def y_M_comesIn : am_N := ("FlowFabricModel", "comesIn", prog_13_method_20_code, 9, none)
def y_M_matches : am_N := ("FlowFabricModel", "matches", prog_13_method_19_code, 4, some FieldType.boolean)
def y_M_out : am_N := ("FlowFabricModel", "out", prog_13_method_18_code, 6, none)
def y_M_toRules : am_N := ("FlowFabricModel", "toRules", prog_13_method_22_code, 7, none)
def y_M_ruleAt : am_N := ("FlowFabricModel", "ruleAt", prog_13_method_21_code, 4, some FieldType.int)
def y_M_carry : am_N := ("FlowFabricModel", "carry", prog_13_method_25_code, 9, some FieldType.boolean)
def y_M_obey : am_N := ("FlowFabricModel", "obey", prog_13_method_27_code, 6, some FieldType.int)
def y_M_take : am_N := ("FlowFabricModel", "take", prog_13_method_17_code, 3, none)
def y_M_put : am_N := ("FlowFabricModel", "put", prog_13_method_26_code, 6, none)
def y_M_removeRule : am_N := ("FlowFabricModel", "removeRule", prog_13_method_23_code, 4, none)
def y_M_probe : am_N := ("FlowFabricModel", "probe", prog_13_method_28_code, 2, some FieldType.boolean)
def y_M_order : am_N := ("FlowFabricModel", "order", prog_13_method_16_code, 7, none)
def y_M_tick : am_N := ("FlowFabricModel", "tick", prog_13_method_29_code, 4, some FieldType.int)
def y_M_report : am_N := ("FlowFabricModel", "report", prog_13_method_40_code, 5, some FieldType.int)
def y_M_missed : am_N := ("FlowFabricModel", "missed", prog_13_method_41_code, 8, none)
def y_M_courseOf : am_N := ("FlowFabricModel", "courseOf", prog_13_method_33_code, 3, some FieldType.int)
def y_M_keep : am_N := ("FlowFabricModel", "keep", prog_13_method_38_code, 3, none)
def y_M_clear : am_N := ("FlowFabricModel", "clear", prog_13_method_34_code, 4, none)
def y_M_flood : am_N := ("FlowFabricModel", "flood", prog_13_method_42_code, 10, none)
def y_M_search : am_N := ("FlowFabricModel", "search", prog_13_method_32_code, 7, some FieldType.boolean)
def y_M_isWay : am_N := ("FlowFabricModel", "isWay", prog_13_method_31_code, 7, some FieldType.boolean)
def y_M_leads : am_N := ("FlowFabricModel", "leads", prog_13_method_30_code, 4, some FieldType.int)
def y_M_lay : am_N := ("FlowFabricModel", "lay", prog_13_method_35_code, 4, none)
def y_M_lead : am_N := ("FlowFabricModel", "lead", prog_13_method_36_code, 4, none)
def y_M_seen : am_N := ("FlowFabricModel", "seen", prog_13_method_43_code, 5, none)
def y_M_portOf : am_N := ("FlowFabricModel", "portOf", prog_13_method_44_code, 4, some FieldType.int)
def y_M_done : am_N := ("FlowFabricModel", "done", prog_13_method_45_code, 3, none)
def y_M_cleared : am_N := ("FlowFabricModel", "cleared", prog_13_method_46_code, 2, none)
def y_M_drop : am_N := ("FlowFabricModel", "drop", prog_13_method_37_code, 4, none)
def y_M_led : am_N := ("FlowFabricModel", "led", prog_13_method_47_code, 2, none)
def y_M_down : am_N := ("FlowFabricModel", "down", prog_13_method_48_code, 7, none)
def y_M_passes : am_N := ("FlowFabricModel", "passes", prog_13_method_39_code, 5, some FieldType.boolean)
def y_M_waiting : am_N := ("FlowFabricModel", "waiting", prog_13_method_49_code, 3, some FieldType.int)
def y_M_rule : am_N := ("FlowFabricModel", "rule", prog_13_method_50_code, 7, some FieldType.int)
def y_M_taken : am_N := ("FlowFabricModel", "taken", prog_13_method_51_code, 3, some FieldType.int)
def y_M_known : am_N := ("FlowFabricModel", "known", prog_13_method_52_code, 3, some FieldType.int)
def y_M_place : am_N := ("FlowFabricModel", "place", prog_13_method_53_code, 2, some FieldType.int)
def y_M_course : am_N := ("FlowFabricModel", "course", prog_13_method_54_code, 6, some FieldType.int)
end
section
/-- what a new object asks of the tables -/
def am_NW (own : String) (idx ci : Nat) : Prop := ∃ q : vw_C, am_cl[ci]? = some q ∧ Cond.classLink own idx q.1 ∈ am_wz ∧ Cond.instantiable q.1 q.2.2 ∈ am_wz ∧ Cond.initialized q.1 ∈ am_wz
theorem s_FF_7 : am_CS "FlowFabric" 7 y_FF_within "(III)I" 3 := ⟨⟨am_in1 32 rfl rfl, am_in1 1 rfl rfl, by decide, by decide, by decide +kernel⟩, Or.inl (am_in1 30 rfl rfl), am_in1 31 rfl rfl⟩
theorem k_FF_13 : Cond.classLink "FlowFabric" 13 "FlowFabric$Node" ∈ am_wz := am_in1 39 rfl rfl
theorem n_FF_13 : am_NW "FlowFabric" 13 1 := ⟨am_qNd, rfl, am_in1 39 rfl rfl, am_in1 41 rfl rfl, am_in1 3 rfl rfl⟩
theorem i_FF_15 : am_CI "FlowFabric" 15 y_Nd_new "(II)V" 2 := ⟨⟨am_in1 44 rfl rfl, am_in1 3 rfl rfl, by decide, by decide, by decide +kernel⟩, rfl, rfl, Or.inl (am_in1 42 rfl rfl), am_in1 43 rfl rfl⟩
theorem f_FF_18 : am_F "FlowFabric" 18 0 1 := ⟨am_qFF, "FlowFabric", rfl, by decide, Or.inl (am_in1 169 rfl rfl), Or.inl rfl⟩
theorem p_FF_18 : am_P "FlowFabric" "<init>" 0 1 (.array (.object "FlowFabric$Node")) := ⟨am_qFF, rfl, by decide +kernel, Or.inr ⟨rfl, rfl, rfl⟩⟩
theorem f_FF_22 : am_F "FlowFabric" 22 0 0 := ⟨am_qFF, "FlowFabric", rfl, by decide, Or.inl (am_in1 168 rfl rfl), Or.inl rfl⟩
theorem p_FF_22 : am_P "FlowFabric" "<init>" 0 0 .int := ⟨am_qFF, rfl, by decide +kernel, Or.inr ⟨rfl, rfl, rfl⟩⟩
theorem k_FF_26 : Cond.classLink "FlowFabric" 26 "FlowFabric$Host" ∈ am_wz := am_in1 129 rfl rfl
theorem f_FF_28 : am_F "FlowFabric" 28 0 2 := ⟨am_qFF, "FlowFabric", rfl, by decide, Or.inl (am_in1 170 rfl rfl), Or.inl rfl⟩
theorem p_FF_28 : am_P "FlowFabric" "<init>" 0 2 (.array (.object "FlowFabric$Host")) := ⟨am_qFF, rfl, by decide +kernel, Or.inr ⟨rfl, rfl, rfl⟩⟩
theorem n_FF_32 : am_NW "FlowFabric" 32 4 := ⟨am_qCt, rfl, am_in1 131 rfl rfl, am_in1 132 rfl rfl, am_in1 8 rfl rfl⟩
theorem i_FF_34 : am_CI "FlowFabric" 34 y_Ct_new "([LFlowFabric$Node;)V" 1 := ⟨⟨am_in1 135 rfl rfl, am_in1 8 rfl rfl, by decide, by decide, by decide +kernel⟩, rfl, rfl, Or.inl (am_in1 133 rfl rfl), am_in1 134 rfl rfl⟩
theorem f_FF_37 : am_F "FlowFabric" 37 0 3 := ⟨am_qFF, "FlowFabric", rfl, by decide, Or.inl (am_in1 171 rfl rfl), Or.inl rfl⟩
theorem p_FF_37 : am_P "FlowFabric" "<init>" 0 3 (.object "FlowFabric$Controller") := ⟨am_qFF, rfl, by decide +kernel, Or.inr ⟨rfl, rfl, rfl⟩⟩
theorem f_FF_41 : am_F "FlowFabric" 41 0 4 := ⟨am_qFF, "FlowFabric", rfl, by decide, Or.inl (am_in1 172 rfl rfl), Or.inl rfl⟩
theorem p_FF_41 (nm : String) : am_P "FlowFabric" nm 0 4 .int := ⟨am_qFF, rfl, by decide +kernel, Or.inl rfl⟩
theorem f_FF_44 : am_F "FlowFabric" 44 0 5 := ⟨am_qFF, "FlowFabric", rfl, by decide, Or.inl (am_in1 173 rfl rfl), Or.inl rfl⟩
theorem p_FF_44 (nm : String) : am_P "FlowFabric" nm 0 5 .int := ⟨am_qFF, rfl, by decide +kernel, Or.inl rfl⟩
theorem s_FF_239 : am_CS "FlowFabric" 239 y_Mt_min "(II)I" 2 := ⟨⟨am_in1 35 rfl rfl, am_in1 2 rfl rfl, by decide, by decide, by decide +kernel⟩, Or.inl (am_in1 33 rfl rfl), am_in1 34 rfl rfl⟩
theorem s_FF_244 : am_CS "FlowFabric" 244 y_Mt_max "(II)I" 2 := ⟨⟨am_in1 38 rfl rfl, am_in1 2 rfl rfl, by decide, by decide, by decide +kernel⟩, Or.inl (am_in1 36 rfl rfl), am_in1 37 rfl rfl⟩
theorem f_Nd_9 : am_F "FlowFabric$Node" 9 1 0 := ⟨am_qNd, "FlowFabric$Node", rfl, by decide, Or.inl (am_in1 101 rfl rfl), Or.inl rfl⟩
theorem p_Nd_9 : am_P "FlowFabric$Node" "<init>" 1 0 .int := ⟨am_qNd, rfl, by decide +kernel, Or.inr ⟨rfl, rfl, rfl⟩⟩
theorem f_Nd_15 : am_F "FlowFabric$Node" 15 1 1 := ⟨am_qNd, "FlowFabric$Node", rfl, by decide, Or.inl (am_in1 102 rfl rfl), Or.inl rfl⟩
theorem p_Nd_15 : am_P "FlowFabric$Node" "<init>" 1 1 .int := ⟨am_qNd, rfl, by decide +kernel, Or.inr ⟨rfl, rfl, rfl⟩⟩
theorem k_Nd_18 : Cond.classLink "FlowFabric$Node" 18 "FlowFabric$Port" ∈ am_wz := am_in1 46 rfl rfl
theorem f_Nd_20 : am_F "FlowFabric$Node" 20 1 2 := ⟨am_qNd, "FlowFabric$Node", rfl, by decide, Or.inl (am_in1 103 rfl rfl), Or.inl rfl⟩
theorem p_Nd_20 : am_P "FlowFabric$Node" "<init>" 1 2 (.array (.object "FlowFabric$Port")) := ⟨am_qNd, rfl, by decide +kernel, Or.inr ⟨rfl, rfl, rfl⟩⟩
theorem n_Nd_18 : am_NW "FlowFabric$Node" 18 2 := ⟨am_qPt, rfl, am_in1 46 rfl rfl, am_in1 48 rfl rfl, am_in1 4 rfl rfl⟩
theorem i_Nd_24 : am_CI "FlowFabric$Node" 24 y_Pt_new "()V" 0 := ⟨⟨am_in1 51 rfl rfl, am_in1 4 rfl rfl, by decide, by decide, by decide +kernel⟩, rfl, rfl, Or.inl (am_in1 49 rfl rfl), am_in1 50 rfl rfl⟩
theorem n_Nd_25 : am_NW "FlowFabric$Node" 25 12 := ⟨am_qAL, rfl, am_in1 99 rfl rfl, am_in1 54 rfl rfl, am_in1 7 rfl rfl⟩
theorem i_Nd_27 : am_CI "FlowFabric$Node" 27 y_AL_new "()V" 0 := ⟨⟨am_in1 57 rfl rfl, am_in1 7 rfl rfl, by decide, by decide, by decide +kernel⟩, rfl, rfl, Or.inl (am_in1 100 rfl rfl), am_in1 56 rfl rfl⟩
theorem f_Nd_28 : am_F "FlowFabric$Node" 28 1 3 := ⟨am_qNd, "FlowFabric$Node", rfl, by decide, Or.inl (am_in1 105 rfl rfl), Or.inl rfl⟩
theorem p_Nd_28 : am_P "FlowFabric$Node" "<init>" 1 3 (.object "java/util/ArrayList") := ⟨am_qNd, rfl, by decide +kernel, Or.inr ⟨rfl, rfl, rfl⟩⟩
theorem f_Nd_32 : am_F "FlowFabric$Node" 32 1 4 := ⟨am_qNd, "FlowFabric$Node", rfl, by decide, Or.inl (am_in1 107 rfl rfl), Or.inl rfl⟩
theorem p_Nd_32 : am_P "FlowFabric$Node" "<init>" 1 4 (.object "java/util/ArrayList") := ⟨am_qNd, rfl, by decide +kernel, Or.inr ⟨rfl, rfl, rfl⟩⟩
theorem f_Nd_35 : am_F "FlowFabric$Node" 35 1 5 := ⟨am_qNd, "FlowFabric$Node", rfl, by decide, Or.inl (am_in1 109 rfl rfl), Or.inl rfl⟩
theorem p_Nd_35 : am_P "FlowFabric$Node" "<init>" 1 5 (.object "java/util/ArrayList") := ⟨am_qNd, rfl, by decide +kernel, Or.inr ⟨rfl, rfl, rfl⟩⟩
theorem f_Nd_38 : am_F "FlowFabric$Node" 38 1 6 := ⟨am_qNd, "FlowFabric$Node", rfl, by decide, Or.inl (am_in1 112 rfl rfl), Or.inl rfl⟩
theorem p_Nd_38 : am_P "FlowFabric$Node" "<init>" 1 6 (.object "java/util/ArrayList") := ⟨am_qNd, rfl, by decide +kernel, Or.inr ⟨rfl, rfl, rfl⟩⟩
theorem n_Pt_9 : am_NW "FlowFabric$Port" 9 12 := ⟨am_qAL, rfl, am_in1 53 rfl rfl, am_in1 54 rfl rfl, am_in1 7 rfl rfl⟩
theorem i_Pt_11 : am_CI "FlowFabric$Port" 11 y_AL_new "()V" 0 := ⟨⟨am_in1 57 rfl rfl, am_in1 7 rfl rfl, by decide, by decide, by decide +kernel⟩, rfl, rfl, Or.inl (am_in1 55 rfl rfl), am_in1 56 rfl rfl⟩
theorem f_Pt_12 : am_F "FlowFabric$Port" 12 2 0 := ⟨am_qPt, "FlowFabric$Port", rfl, by decide, Or.inl (am_in1 79 rfl rfl), Or.inl rfl⟩
theorem p_Pt_12 : am_P "FlowFabric$Port" "<init>" 2 0 (.object "java/util/ArrayList") := ⟨am_qPt, rfl, by decide +kernel, Or.inr ⟨rfl, rfl, rfl⟩⟩
theorem f_Pt_18 : am_F "FlowFabric$Port" 18 2 1 := ⟨am_qPt, "FlowFabric$Port", rfl, by decide, Or.inl (am_in1 82 rfl rfl), Or.inl rfl⟩
theorem p_Pt_18 (nm : String) : am_P "FlowFabric$Port" nm 2 1 (.object "FlowFabric$Host") := ⟨am_qPt, rfl, by decide +kernel, Or.inl rfl⟩
theorem f_Pt_22 : am_F "FlowFabric$Port" 22 2 2 := ⟨am_qPt, "FlowFabric$Port", rfl, by decide, Or.inl (am_in1 84 rfl rfl), Or.inl rfl⟩
theorem p_Pt_22 (nm : String) : am_P "FlowFabric$Port" nm 2 2 .int := ⟨am_qPt, rfl, by decide +kernel, Or.inl rfl⟩
theorem f_Pt_26 : am_F "FlowFabric$Port" 26 2 3 := ⟨am_qPt, "FlowFabric$Port", rfl, by decide, Or.inl (am_in1 87 rfl rfl), Or.inl rfl⟩
theorem p_Pt_26 (nm : String) : am_P "FlowFabric$Port" nm 2 3 .boolean := ⟨am_qPt, rfl, by decide +kernel, Or.inl rfl⟩
theorem i_AL_1 : am_CI "java/util/ArrayList" 1 y_Al_new "()V" 0 := ⟨⟨am_in1 60 rfl rfl, am_in1 6 rfl rfl, by decide, by decide, by decide +kernel⟩, rfl, rfl, Or.inl (am_in1 58 rfl rfl), am_in1 59 rfl rfl⟩
theorem f_AL_9 : am_F "java/util/ArrayList" 9 12 1 := ⟨am_qAL, "java/util/ArrayList", rfl, by decide, Or.inl (am_in1 67 rfl rfl), Or.inl rfl⟩
theorem p_AL_9 (nm : String) : am_P "java/util/ArrayList" nm 12 1 (.array (.object "java/lang/Object")) := ⟨am_qAL, rfl, by decide +kernel, Or.inl rfl⟩
theorem i_Al_1 : am_CI "java/util/AbstractList" 1 y_Ac_new "()V" 0 := ⟨⟨am_in1 63 rfl rfl, am_in1 5 rfl rfl, by decide, by decide, by decide +kernel⟩, rfl, rfl, Or.inl (am_in1 61 rfl rfl), am_in1 62 rfl rfl⟩
theorem f_Al_7 : am_F "java/util/AbstractList" 7 12 0 := ⟨am_qAL, "java/util/AbstractList", rfl, by decide, Or.inl (am_in1 69 rfl rfl), Or.inl rfl⟩
theorem p_Al_7 (nm : String) : am_P "java/util/AbstractList" nm 12 0 .int := ⟨am_qAL, rfl, by decide +kernel, Or.inl rfl⟩
theorem f_Ct_9 : am_F "FlowFabric$Controller" 9 4 0 := ⟨am_qCt, "FlowFabric$Controller", rfl, by decide, Or.inl (am_in1 142 rfl rfl), Or.inl rfl⟩
theorem p_Ct_9 : am_P "FlowFabric$Controller" "<init>" 4 0 (.array (.object "FlowFabric$Node")) := ⟨am_qCt, rfl, by decide +kernel, Or.inr ⟨rfl, rfl, rfl⟩⟩
theorem f_Ct_15 : am_F "FlowFabric$Controller" 15 4 1 := ⟨am_qCt, "FlowFabric$Controller", rfl, by decide, Or.inl (am_in1 143 rfl rfl), Or.inl rfl⟩
theorem p_Ct_15 : am_P "FlowFabric$Controller" "<init>" 4 1 (.array .int) := ⟨am_qCt, rfl, by decide +kernel, Or.inr ⟨rfl, rfl, rfl⟩⟩
theorem f_Ct_19 : am_F "FlowFabric$Controller" 19 4 2 := ⟨am_qCt, "FlowFabric$Controller", rfl, by decide, Or.inl (am_in1 145 rfl rfl), Or.inl rfl⟩
theorem p_Ct_19 : am_P "FlowFabric$Controller" "<init>" 4 2 (.array .boolean) := ⟨am_qCt, rfl, by decide +kernel, Or.inr ⟨rfl, rfl, rfl⟩⟩
theorem f_Ct_23 : am_F "FlowFabric$Controller" 23 4 3 := ⟨am_qCt, "FlowFabric$Controller", rfl, by decide, Or.inl (am_in1 146 rfl rfl), Or.inl rfl⟩
theorem p_Ct_23 : am_P "FlowFabric$Controller" "<init>" 4 3 (.array .int) := ⟨am_qCt, rfl, by decide +kernel, Or.inr ⟨rfl, rfl, rfl⟩⟩
theorem n_Ct_26 : am_NW "FlowFabric$Controller" 26 12 := ⟨am_qAL, rfl, am_in1 137 rfl rfl, am_in1 54 rfl rfl, am_in1 7 rfl rfl⟩
theorem i_Ct_28 : am_CI "FlowFabric$Controller" 28 y_AL_new "()V" 0 := ⟨⟨am_in1 57 rfl rfl, am_in1 7 rfl rfl, by decide, by decide, by decide +kernel⟩, rfl, rfl, Or.inl (am_in1 138 rfl rfl), am_in1 56 rfl rfl⟩
theorem f_Ct_29 : am_F "FlowFabric$Controller" 29 4 4 := ⟨am_qCt, "FlowFabric$Controller", rfl, by decide, Or.inl (am_in1 148 rfl rfl), Or.inl rfl⟩
theorem p_Ct_29 : am_P "FlowFabric$Controller" "<init>" 4 4 (.object "java/util/ArrayList") := ⟨am_qCt, rfl, by decide +kernel, Or.inr ⟨rfl, rfl, rfl⟩⟩
theorem f_Ct_33 : am_F "FlowFabric$Controller" 33 4 5 := ⟨am_qCt, "FlowFabric$Controller", rfl, by decide, Or.inl (am_in1 149 rfl rfl), Or.inl rfl⟩
theorem p_Ct_33 : am_P "FlowFabric$Controller" "<init>" 4 5 (.array .int) := ⟨am_qCt, rfl, by decide +kernel, Or.inr ⟨rfl, rfl, rfl⟩⟩
theorem f_Ct_36 : am_F "FlowFabric$Controller" 36 4 6 := ⟨am_qCt, "FlowFabric$Controller", rfl, by decide, Or.inl (am_in1 150 rfl rfl), Or.inl rfl⟩
theorem p_Ct_36 (nm : String) : am_P "FlowFabric$Controller" nm 4 6 .int := ⟨am_qCt, rfl, by decide +kernel, Or.inl rfl⟩
theorem s_Ct_40 : am_CS "FlowFabric$Controller" 40 y_As_fill "([II)V" 2 := ⟨⟨am_in1 141 rfl rfl, am_in1 9 rfl rfl, by decide, by decide, by decide +kernel⟩, Or.inl (am_in1 139 rfl rfl), am_in1 140 rfl rfl⟩
theorem v_FF_47 : am_CV "FlowFabric" 47 y_FF_isPort "(II)Z" 2 0 := ⟨⟨am_in1 194 rfl rfl, am_in1 1 rfl rfl, by decide, by decide, by decide +kernel⟩, Or.inl (am_in1 191 rfl rfl), am_in1 193 rfl rfl, am_qFF, rfl, am_inS (List.mem_of_getElem? (i := 0) rfl) rfl⟩
theorem f_FF_51 : am_F "FlowFabric" 51 1 2 := ⟨am_qNd, "FlowFabric$Node", rfl, by decide, Or.inl (am_in1 104 rfl rfl), Or.inl rfl⟩
theorem v_FF_55 : am_CV "FlowFabric" 55 y_Pt_isFree "()Z" 0 2 := ⟨⟨am_in1 202 rfl rfl, am_in1 4 rfl rfl, by decide, by decide, by decide +kernel⟩, Or.inl (am_in1 199 rfl rfl), am_in1 200 rfl rfl, am_qPt, rfl, am_in1 201 rfl rfl⟩
theorem n_FF_26 : am_NW "FlowFabric" 26 3 := ⟨am_qHo, rfl, am_in1 129 rfl rfl, am_in1 203 rfl rfl, am_in1 11 rfl rfl⟩
theorem i_FF_61 : am_CI "FlowFabric" 61 y_Ho_new "(III)V" 3 := ⟨⟨am_in1 206 rfl rfl, am_in1 11 rfl rfl, by decide, by decide, by decide +kernel⟩, rfl, rfl, Or.inl (am_in1 204 rfl rfl), am_in1 205 rfl rfl⟩
theorem f_FF_64 : am_F "FlowFabric" 64 2 1 := ⟨am_qPt, "FlowFabric$Port", rfl, by decide, Or.inl (am_in1 83 rfl rfl), Or.inl rfl⟩
theorem p_FF_64 (nm : String) : am_P "FlowFabric" nm 2 1 (.object "FlowFabric$Host") := ⟨am_qPt, rfl, by decide +kernel, Or.inl rfl⟩
theorem f_FF_68 : am_F "FlowFabric" 68 3 0 := ⟨am_qHo, "FlowFabric$Host", rfl, by decide, Or.inl (am_in1 209 rfl rfl), Or.inl rfl⟩
theorem v_FF_103 : am_CV "FlowFabric" 103 y_FF_isSwitch "(I)Z" 1 0 := ⟨⟨am_in1 198 rfl rfl, am_in1 1 rfl rfl, by decide, by decide, by decide +kernel⟩, Or.inl (am_in1 195 rfl rfl), am_in1 197 rfl rfl, am_qFF, rfl, am_inS (List.mem_of_getElem? (i := 1) rfl) rfl⟩
theorem f_Ho_9 : am_F "FlowFabric$Host" 9 3 0 := ⟨am_qHo, "FlowFabric$Host", rfl, by decide, Or.inl (am_in1 208 rfl rfl), Or.inl rfl⟩
theorem p_Ho_9 : am_P "FlowFabric$Host" "<init>" 3 0 .int := ⟨am_qHo, rfl, by decide +kernel, Or.inr ⟨rfl, rfl, rfl⟩⟩
theorem f_Ho_15 : am_F "FlowFabric$Host" 15 3 1 := ⟨am_qHo, "FlowFabric$Host", rfl, by decide, Or.inl (am_in1 211 rfl rfl), Or.inl rfl⟩
theorem p_Ho_15 : am_P "FlowFabric$Host" "<init>" 3 1 .int := ⟨am_qHo, rfl, by decide +kernel, Or.inr ⟨rfl, rfl, rfl⟩⟩
theorem f_Ho_18 : am_F "FlowFabric$Host" 18 3 2 := ⟨am_qHo, "FlowFabric$Host", rfl, by decide, Or.inl (am_in1 213 rfl rfl), Or.inl rfl⟩
theorem p_Ho_18 : am_P "FlowFabric$Host" "<init>" 3 2 .int := ⟨am_qHo, rfl, by decide +kernel, Or.inr ⟨rfl, rfl, rfl⟩⟩
theorem f_Ho_21 : am_F "FlowFabric$Host" 21 3 3 := ⟨am_qHo, "FlowFabric$Host", rfl, by decide, Or.inl (am_in1 215 rfl rfl), Or.inl rfl⟩
theorem p_Ho_21 (nm : String) : am_P "FlowFabric$Host" nm 3 3 .int := ⟨am_qHo, rfl, by decide +kernel, Or.inl rfl⟩
theorem f_Ho_24 : am_F "FlowFabric$Host" 24 3 4 := ⟨am_qHo, "FlowFabric$Host", rfl, by decide, Or.inl (am_in1 217 rfl rfl), Or.inl rfl⟩
theorem p_Ho_24 (nm : String) : am_P "FlowFabric$Host" nm 3 4 .int := ⟨am_qHo, rfl, by decide +kernel, Or.inl rfl⟩
theorem f_Ho_27 : am_F "FlowFabric$Host" 27 3 5 := ⟨am_qHo, "FlowFabric$Host", rfl, by decide, Or.inl (am_in1 219 rfl rfl), Or.inl rfl⟩
theorem p_Ho_27 (nm : String) : am_P "FlowFabric$Host" nm 3 5 .int := ⟨am_qHo, rfl, by decide +kernel, Or.inl rfl⟩
theorem s_FF_71 : am_CS "FlowFabric" 71 y_FF_endOf "(II)I" 2 := ⟨⟨am_in2 0 rfl rfl, am_in1 1 rfl rfl, by decide, by decide, by decide +kernel⟩, Or.inl (am_in1 238 rfl rfl), am_in1 239 rfl rfl⟩
theorem v_FF_75 : am_CV "FlowFabric" 75 y_Pt_join "(I)V" 1 2 := ⟨⟨am_in2 4 rfl rfl, am_in1 4 rfl rfl, by decide, by decide, by decide +kernel⟩, Or.inl (am_in2 1 rfl rfl), am_in2 2 rfl rfl, am_qPt, rfl, am_in2 3 rfl rfl⟩
theorem v_FF_79 : am_CV "FlowFabric" 79 y_FF_isEnd "(II)Z" 2 0 := ⟨⟨am_in2 12 rfl rfl, am_in1 1 rfl rfl, by decide, by decide, by decide +kernel⟩, Or.inl (am_in2 9 rfl rfl), am_in2 11 rfl rfl, am_qFF, rfl, am_inS (List.mem_of_getElem? (i := 2) rfl) rfl⟩
theorem f_FF_82 : am_F "FlowFabric" 82 2 3 := ⟨am_qPt, "FlowFabric$Port", rfl, by decide, Or.inl (am_in1 89 rfl rfl), Or.inl rfl⟩
theorem f_FF_86 : am_F "FlowFabric" 86 2 2 := ⟨am_qPt, "FlowFabric$Port", rfl, by decide, Or.inl (am_in1 85 rfl rfl), Or.inl rfl⟩
theorem s_FF_89 : am_CS "FlowFabric" 89 y_FF_switchOf "(I)I" 1 := ⟨⟨am_in2 15 rfl rfl, am_in1 1 rfl rfl, by decide, by decide, by decide +kernel⟩, Or.inl (am_in2 13 rfl rfl), am_in2 14 rfl rfl⟩
theorem v_FF_93 : am_CV "FlowFabric" 93 y_Nd_holdsLinks "()Z" 0 1 := ⟨⟨am_in2 19 rfl rfl, am_in1 3 rfl rfl, by decide, by decide, by decide +kernel⟩, Or.inl (am_in2 16 rfl rfl), am_in2 17 rfl rfl, am_qNd, rfl, am_in2 18 rfl rfl⟩
theorem v_FF_96 : am_CV "FlowFabric" 96 y_Nd_turnPort "(IZ)V" 2 1 := ⟨⟨am_in2 27 rfl rfl, am_in1 3 rfl rfl, by decide, by decide, by decide +kernel⟩, Or.inl (am_in2 24 rfl rfl), am_in2 25 rfl rfl, am_qNd, rfl, am_in2 26 rfl rfl⟩
theorem s_FF_100 : am_CS "FlowFabric" 100 y_FF_portOf "(I)I" 1 := ⟨⟨am_in2 124 rfl rfl, am_in1 1 rfl rfl, by decide, by decide, by decide +kernel⟩, Or.inl (am_in2 122 rfl rfl), am_in2 123 rfl rfl⟩
theorem v_Nd_41 : am_CV "FlowFabric$Node" 41 y_AL_size "()I" 0 12 := ⟨⟨am_in2 23 rfl rfl, am_in1 7 rfl rfl, by decide, by decide, by decide +kernel⟩, Or.inl (am_in2 20 rfl rfl), am_in2 21 rfl rfl, am_qAL, rfl, am_in2 22 rfl rfl⟩
theorem f_AL_48 : am_F "java/util/ArrayList" 48 12 2 := ⟨am_qAL, "java/util/ArrayList", rfl, by decide, Or.inl (am_in1 68 rfl rfl), Or.inl rfl⟩
theorem f_Nd_45 : am_F "FlowFabric$Node" 45 2 3 := ⟨am_qPt, "FlowFabric$Port", rfl, by decide, Or.inl (am_in1 88 rfl rfl), Or.inl rfl⟩
theorem p_Nd_45 (nm : String) : am_P "FlowFabric$Node" nm 2 3 .boolean := ⟨am_qPt, rfl, by decide +kernel, Or.inl rfl⟩
theorem f_Nd_49 : am_F "FlowFabric$Node" 49 2 0 := ⟨am_qPt, "FlowFabric$Port", rfl, by decide, Or.inl (am_in1 80 rfl rfl), Or.inl rfl⟩
theorem v_Nd_52 : am_CV "FlowFabric$Node" 52 y_AL_clear "()V" 0 12 := ⟨⟨am_in2 31 rfl rfl, am_in1 7 rfl rfl, by decide, by decide, by decide +kernel⟩, Or.inl (am_in2 28 rfl rfl), am_in2 29 rfl rfl, am_qAL, rfl, am_in2 30 rfl rfl⟩
theorem s_Nd_55 : am_CS "FlowFabric$Node" 55 y_Ms_ofValue "(II)LFlowFabric$Message;" 2 := ⟨⟨am_in2 34 rfl rfl, am_in1 12 rfl rfl, by decide, by decide, by decide +kernel⟩, Or.inl (am_in2 32 rfl rfl), am_in2 33 rfl rfl⟩
theorem v_Nd_61 : am_CV "FlowFabric$Node" 61 y_AL_add "(Ljava/lang/Object;)Z" 1 12 := ⟨⟨am_in2 69 rfl rfl, am_in1 7 rfl rfl, by decide, by decide, by decide +kernel⟩, Or.inl (am_in2 66 rfl rfl), am_in2 67 rfl rfl, am_qAL, rfl, am_in2 68 rfl rfl⟩
theorem f_AL_63 : am_F "java/util/ArrayList" 63 12 0 := ⟨am_qAL, "java/util/ArrayList", rfl, by decide, Or.inl (am_in1 70 rfl rfl), Or.inr (am_in1 71 rfl rfl)⟩
theorem p_AL_63 (nm : String) : am_P "java/util/ArrayList" nm 12 0 .int := ⟨am_qAL, rfl, by decide +kernel, Or.inl rfl⟩
theorem p_AL_48 (nm : String) : am_P "java/util/ArrayList" nm 12 2 .int := ⟨am_qAL, rfl, by decide +kernel, Or.inl rfl⟩
theorem n_Ms_10 : am_NW "FlowFabric$Message" 10 9 := ⟨am_qMs, rfl, am_in2 35 rfl rfl, am_in2 36 rfl rfl, am_in1 12 rfl rfl⟩
theorem i_Ms_27 : am_CI "FlowFabric$Message" 27 y_Ms_new "(IIIII)V" 5 := ⟨⟨am_in2 39 rfl rfl, am_in1 12 rfl rfl, by decide, by decide, by decide +kernel⟩, rfl, rfl, Or.inl (am_in2 37 rfl rfl), am_in2 38 rfl rfl⟩
theorem f_Ms_9 : am_F "FlowFabric$Message" 9 9 0 := ⟨am_qMs, "FlowFabric$Message", rfl, by decide, Or.inl (am_in2 41 rfl rfl), Or.inl rfl⟩
theorem p_Ms_9 : am_P "FlowFabric$Message" "<init>" 9 0 .int := ⟨am_qMs, rfl, by decide +kernel, Or.inr ⟨rfl, rfl, rfl⟩⟩
theorem f_Ms_15 : am_F "FlowFabric$Message" 15 9 1 := ⟨am_qMs, "FlowFabric$Message", rfl, by decide, Or.inl (am_in2 45 rfl rfl), Or.inl rfl⟩
theorem p_Ms_15 : am_P "FlowFabric$Message" "<init>" 9 1 .int := ⟨am_qMs, rfl, by decide +kernel, Or.inr ⟨rfl, rfl, rfl⟩⟩
theorem f_Ms_18 : am_F "FlowFabric$Message" 18 9 2 := ⟨am_qMs, "FlowFabric$Message", rfl, by decide, Or.inl (am_in2 48 rfl rfl), Or.inl rfl⟩
theorem p_Ms_18 : am_P "FlowFabric$Message" "<init>" 9 2 .int := ⟨am_qMs, rfl, by decide +kernel, Or.inr ⟨rfl, rfl, rfl⟩⟩
theorem f_Ms_21 : am_F "FlowFabric$Message" 21 9 3 := ⟨am_qMs, "FlowFabric$Message", rfl, by decide, Or.inl (am_in2 51 rfl rfl), Or.inl rfl⟩
theorem p_Ms_21 : am_P "FlowFabric$Message" "<init>" 9 3 .int := ⟨am_qMs, rfl, by decide +kernel, Or.inr ⟨rfl, rfl, rfl⟩⟩
theorem f_Ms_24 : am_F "FlowFabric$Message" 24 9 4 := ⟨am_qMs, "FlowFabric$Message", rfl, by decide, Or.inl (am_in2 54 rfl rfl), Or.inl rfl⟩
theorem p_Ms_24 : am_P "FlowFabric$Message" "<init>" 9 4 .int := ⟨am_qMs, rfl, by decide +kernel, Or.inr ⟨rfl, rfl, rfl⟩⟩
theorem v_AL_131 : am_CV "java/util/ArrayList" 131 y_AL_add2 "(Ljava/lang/Object;[Ljava/lang/Object;I)V" 3 12 := ⟨⟨am_in2 73 rfl rfl, am_in1 7 rfl rfl, by decide, by decide, by decide +kernel⟩, Or.inl (am_in2 70 rfl rfl), am_in2 72 rfl rfl, am_qAL, rfl, am_inS (List.mem_of_getElem? (i := 3) rfl) rfl⟩
theorem v_AL_129 : am_CV "java/util/ArrayList" 129 y_AL_grow "()[Ljava/lang/Object;" 0 12 := ⟨⟨am_in2 77 rfl rfl, am_in1 7 rfl rfl, by decide, by decide, by decide +kernel⟩, Or.inl (am_in2 74 rfl rfl), am_in2 76 rfl rfl, am_qAL, rfl, am_inS (List.mem_of_getElem? (i := 4) rfl) rfl⟩
theorem v_AL_69 : am_CV "java/util/ArrayList" 69 y_AL_grow2 "(I)[Ljava/lang/Object;" 1 12 := ⟨⟨am_in2 81 rfl rfl, am_in1 7 rfl rfl, by decide, by decide, by decide +kernel⟩, Or.inl (am_in2 78 rfl rfl), am_in2 80 rfl rfl, am_qAL, rfl, am_inS (List.mem_of_getElem? (i := 5) rfl) rfl⟩
theorem s_AL_73 : am_CS "java/util/ArrayList" 73 y_Sp_newLength "(III)I" 3 := ⟨⟨am_in2 84 rfl rfl, am_in1 13 rfl rfl, by decide, by decide, by decide +kernel⟩, Or.inl (am_in2 82 rfl rfl), am_in2 83 rfl rfl⟩
theorem s_AL_66 : am_CS "java/util/ArrayList" 66 y_As_copyOf "([Ljava/lang/Object;I)[Ljava/lang/Object;" 2 := ⟨⟨am_in2 92 rfl rfl, am_in1 9 rfl rfl, by decide, by decide, by decide +kernel⟩, Or.inl (am_in2 90 rfl rfl), am_in2 91 rfl rfl⟩
theorem s_AL_79 : am_CS "java/util/ArrayList" 79 y_Mt_max "(II)I" 2 := ⟨⟨am_in1 38 rfl rfl, am_in1 2 rfl rfl, by decide, by decide, by decide +kernel⟩, Or.inl (am_in2 120 rfl rfl), am_in1 37 rfl rfl⟩
theorem k_AL_7 : Cond.classLink "java/util/ArrayList" 7 "java/lang/Object" ∈ am_wz := am_in2 121 rfl rfl
theorem s_Sp_194 : am_CS "jdk/internal/util/ArraysSupport" 194 y_Mt_max "(II)I" 2 := ⟨⟨am_in1 38 rfl rfl, am_in1 2 rfl rfl, by decide, by decide, by decide +kernel⟩, Or.inl (am_in2 85 rfl rfl), am_in1 37 rfl rfl⟩
theorem s_Sp_201 : am_CS "jdk/internal/util/ArraysSupport" 201 y_Sp_hugeLength "(II)I" 2 := ⟨⟨am_in2 89 rfl rfl, am_in1 13 rfl rfl, by decide, by decide, by decide +kernel⟩, Or.inl (am_in2 87 rfl rfl), am_in2 88 rfl rfl⟩
theorem s_As_300 : am_CS "java/util/Arrays" 300 y_As_copyOf2 "([Ljava/lang/Object;ILjava/lang/Class;)[Ljava/lang/Object;" 3 := ⟨⟨am_in2 112 rfl rfl, am_in1 9 rfl rfl, by decide, by decide, by decide +kernel⟩, Or.inl (am_in2 110 rfl rfl), am_in2 111 rfl rfl⟩
theorem k_As_2 : Cond.classLink "java/util/Arrays" 2 "java/lang/Object" ∈ am_wz := am_in2 115 rfl rfl
theorem k_As_110 : Cond.classLink "java/util/Arrays" 110 "[Ljava/lang/Object;" ∈ am_wz := am_in2 113 rfl rfl
theorem s_As_304 : am_CS "java/util/Arrays" 304 y_Mt_min "(II)I" 2 := ⟨⟨am_in1 35 rfl rfl, am_in1 2 rfl rfl, by decide, by decide, by decide +kernel⟩, Or.inl (am_in2 116 rfl rfl), am_in1 34 rfl rfl⟩
theorem s_FF_107 : am_CS "FlowFabric" 107 y_Gd_isMatch "(I)Z" 1 := ⟨⟨am_in2 131 rfl rfl, am_in1 15 rfl rfl, by decide, by decide, by decide +kernel⟩, Or.inl (am_in2 129 rfl rfl), am_in2 130 rfl rfl⟩
theorem f_FF_112 : am_F "FlowFabric" 112 1 3 := ⟨am_qNd, "FlowFabric$Node", rfl, by decide, Or.inl (am_in1 106 rfl rfl), Or.inl rfl⟩
theorem v_FF_116 : am_CV "FlowFabric" 116 y_AL_size "()I" 0 12 := ⟨⟨am_in2 23 rfl rfl, am_in1 7 rfl rfl, by decide, by decide, by decide +kernel⟩, Or.inl (am_in2 132 rfl rfl), am_in2 21 rfl rfl, am_qAL, rfl, am_in2 22 rfl rfl⟩
theorem n_FF_108 : am_NW "FlowFabric" 108 8 := ⟨am_qGd, rfl, am_in2 133 rfl rfl, am_in2 134 rfl rfl, am_in1 15 rfl rfl⟩
theorem i_FF_122 : am_CI "FlowFabric" 122 y_Gd_new "(III)V" 3 := ⟨⟨am_in2 137 rfl rfl, am_in1 15 rfl rfl, by decide, by decide, by decide +kernel⟩, rfl, rfl, Or.inl (am_in2 135 rfl rfl), am_in2 136 rfl rfl⟩
theorem v_FF_123 : am_CV "FlowFabric" 123 y_AL_add "(Ljava/lang/Object;)Z" 1 12 := ⟨⟨am_in2 69 rfl rfl, am_in1 7 rfl rfl, by decide, by decide, by decide +kernel⟩, Or.inl (am_in2 156 rfl rfl), am_in2 67 rfl rfl, am_qAL, rfl, am_in2 68 rfl rfl⟩
theorem f_Gd_9 : am_F "FlowFabric$Guard" 9 8 0 := ⟨am_qGd, "FlowFabric$Guard", rfl, by decide, Or.inl (am_in2 139 rfl rfl), Or.inl rfl⟩
theorem p_Gd_9 : am_P "FlowFabric$Guard" "<init>" 8 0 .int := ⟨am_qGd, rfl, by decide +kernel, Or.inr ⟨rfl, rfl, rfl⟩⟩
theorem f_Gd_15 : am_F "FlowFabric$Guard" 15 8 1 := ⟨am_qGd, "FlowFabric$Guard", rfl, by decide, Or.inl (am_in2 141 rfl rfl), Or.inl rfl⟩
theorem p_Gd_15 : am_P "FlowFabric$Guard" "<init>" 8 1 .int := ⟨am_qGd, rfl, by decide +kernel, Or.inr ⟨rfl, rfl, rfl⟩⟩
theorem f_Gd_18 : am_F "FlowFabric$Guard" 18 8 2 := ⟨am_qGd, "FlowFabric$Guard", rfl, by decide, Or.inl (am_in2 142 rfl rfl), Or.inl rfl⟩
theorem p_Gd_18 : am_P "FlowFabric$Guard" "<init>" 8 2 .int := ⟨am_qGd, rfl, by decide +kernel, Or.inr ⟨rfl, rfl, rfl⟩⟩
theorem f_Gd_21 : am_F "FlowFabric$Guard" 21 8 3 := ⟨am_qGd, "FlowFabric$Guard", rfl, by decide, Or.inl (am_in2 144 rfl rfl), Or.inl rfl⟩
theorem p_Gd_21 (nm : String) : am_P "FlowFabric$Guard" nm 8 3 .int := ⟨am_qGd, rfl, by decide +kernel, Or.inl rfl⟩
theorem v_FF_127 : am_CV "FlowFabric" 127 y_FF_isGuard "(II)Z" 2 0 := ⟨⟨am_in2 164 rfl rfl, am_in1 1 rfl rfl, by decide, by decide, by decide +kernel⟩, Or.inl (am_in2 161 rfl rfl), am_in2 163 rfl rfl, am_qFF, rfl, am_inS (List.mem_of_getElem? (i := 6) rfl) rfl⟩
theorem v_FF_130 : am_CV "FlowFabric" 130 y_AL_remove "(I)Ljava/lang/Object;" 1 12 := ⟨⟨am_in2 168 rfl rfl, am_in1 7 rfl rfl, by decide, by decide, by decide +kernel⟩, Or.inl (am_in2 165 rfl rfl), am_in2 166 rfl rfl, am_qAL, rfl, am_in2 167 rfl rfl⟩
theorem k_FF_108 : Cond.classLink "FlowFabric" 108 "FlowFabric$Guard" ∈ am_wz := am_in2 133 rfl rfl
theorem f_FF_134 : am_F "FlowFabric" 134 8 3 := ⟨am_qGd, "FlowFabric$Guard", rfl, by decide, Or.inl (am_in2 146 rfl rfl), Or.inl rfl⟩
theorem s_AL_118 : am_CS "java/util/ArrayList" 118 y_Ob_checkIndex "(II)I" 2 := ⟨⟨am_in2 171 rfl rfl, am_in1 16 rfl rfl, by decide, by decide, by decide +kernel⟩, Or.inl (am_in2 169 rfl rfl), am_in2 170 rfl rfl⟩
theorem v_AL_144 : am_CV "java/util/ArrayList" 144 y_AL_fastRemove "([Ljava/lang/Object;I)V" 2 12 := ⟨⟨am_in2 178 rfl rfl, am_in1 7 rfl rfl, by decide, by decide, by decide +kernel⟩, Or.inl (am_in2 175 rfl rfl), am_in2 177 rfl rfl, am_qAL, rfl, am_inS (List.mem_of_getElem? (i := 7) rfl) rfl⟩
theorem s_Ob_105 : am_CS "java/util/Objects" 105 y_Pr_checkIndex "(IILjava/util/function/BiFunction;)I" 3 := ⟨⟨am_in2 174 rfl rfl, am_in1 17 rfl rfl, by decide, by decide, by decide +kernel⟩, Or.inl (am_in2 172 rfl rfl), am_in2 173 rfl rfl⟩
theorem v_FF_137 : am_CV "FlowFabric" 137 y_FF_isHost "(I)Z" 1 0 := ⟨⟨am_in2 187 rfl rfl, am_in1 1 rfl rfl, by decide, by decide, by decide +kernel⟩, Or.inl (am_in2 184 rfl rfl), am_in2 186 rfl rfl, am_qFF, rfl, am_inS (List.mem_of_getElem? (i := 8) rfl) rfl⟩
theorem f_FF_140 : am_F "FlowFabric" 140 3 1 := ⟨am_qHo, "FlowFabric$Host", rfl, by decide, Or.inl (am_in1 212 rfl rfl), Or.inl rfl⟩
theorem n_FF_143 : am_NW "FlowFabric" 143 6 := ⟨am_qDg, rfl, am_in2 188 rfl rfl, am_in2 189 rfl rfl, am_in1 18 rfl rfl⟩
theorem i_FF_145 : am_CI "FlowFabric" 145 y_Dg_new "(III)V" 3 := ⟨⟨am_in2 192 rfl rfl, am_in1 18 rfl rfl, by decide, by decide, by decide +kernel⟩, rfl, rfl, Or.inl (am_in2 190 rfl rfl), am_in2 191 rfl rfl⟩
theorem f_FF_146 : am_F "FlowFabric" 146 3 2 := ⟨am_qHo, "FlowFabric$Host", rfl, by decide, Or.inl (am_in1 214 rfl rfl), Or.inl rfl⟩
theorem v_FF_149 : am_CV "FlowFabric" 149 y_Nd_comeIn "(LFlowFabric$Datagram;II)V" 3 1 := ⟨⟨am_in2 220 rfl rfl, am_in1 3 rfl rfl, by decide, by decide, by decide +kernel⟩, Or.inl (am_in2 217 rfl rfl), am_in2 218 rfl rfl, am_qNd, rfl, am_in2 219 rfl rfl⟩
theorem f_Dg_7 : am_F "FlowFabric$Datagram" 7 6 0 := ⟨am_qDg, "FlowFabric$Datagram", rfl, by decide, Or.inl (am_in2 194 rfl rfl), Or.inl rfl⟩
theorem p_Dg_7 : am_P "FlowFabric$Datagram" "<init>" 6 0 .int := ⟨am_qDg, rfl, by decide +kernel, Or.inr ⟨rfl, rfl, rfl⟩⟩
theorem f_Dg_13 : am_F "FlowFabric$Datagram" 13 6 1 := ⟨am_qDg, "FlowFabric$Datagram", rfl, by decide, Or.inl (am_in2 200 rfl rfl), Or.inl rfl⟩
theorem p_Dg_13 : am_P "FlowFabric$Datagram" "<init>" 6 1 .int := ⟨am_qDg, rfl, by decide +kernel, Or.inr ⟨rfl, rfl, rfl⟩⟩
theorem f_Dg_16 : am_F "FlowFabric$Datagram" 16 6 2 := ⟨am_qDg, "FlowFabric$Datagram", rfl, by decide, Or.inl (am_in2 206 rfl rfl), Or.inl rfl⟩
theorem p_Dg_16 : am_P "FlowFabric$Datagram" "<init>" 6 2 .int := ⟨am_qDg, rfl, by decide +kernel, Or.inr ⟨rfl, rfl, rfl⟩⟩
theorem v_Nd_85 : am_CV "FlowFabric$Node" 85 y_Nd_strongestGuard "(LFlowFabric$Datagram;I)LFlowFabric$Guard;" 2 1 := ⟨⟨am_in2 224 rfl rfl, am_in1 3 rfl rfl, by decide, by decide, by decide +kernel⟩, Or.inl (am_in2 221 rfl rfl), am_in2 223 rfl rfl, am_qNd, rfl, am_inS (List.mem_of_getElem? (i := 9) rfl) rfl⟩
theorem f_Nd_89 : am_F "FlowFabric$Node" 89 8 3 := ⟨am_qGd, "FlowFabric$Guard", rfl, by decide, Or.inl (am_in2 145 rfl rfl), Or.inl rfl⟩
theorem p_Nd_89 (nm : String) : am_P "FlowFabric$Node" nm 8 3 .int := ⟨am_qGd, rfl, by decide +kernel, Or.inl rfl⟩
theorem f_Nd_94 : am_F "FlowFabric$Node" 94 8 2 := ⟨am_qGd, "FlowFabric$Guard", rfl, by decide, Or.inl (am_in2 143 rfl rfl), Or.inl rfl⟩
theorem s_Nd_97 : am_CS "FlowFabric$Node" 97 y_Fr_ofDatagram "(LFlowFabric$Datagram;)LFlowFabric$Frame;" 1 := ⟨⟨am_in3 3 rfl rfl, am_in1 19 rfl rfl, by decide, by decide, by decide +kernel⟩, Or.inl (am_in3 1 rfl rfl), am_in3 2 rfl rfl⟩
theorem v_Nd_101 : am_CV "FlowFabric$Node" 101 y_Pt_sendOut "(LFlowFabric$Frame;)V" 1 2 := ⟨⟨am_in3 23 rfl rfl, am_in1 4 rfl rfl, by decide, by decide, by decide +kernel⟩, Or.inl (am_in3 20 rfl rfl), am_in3 21 rfl rfl, am_qPt, rfl, am_in3 22 rfl rfl⟩
theorem v_Nd_105 : am_CV "FlowFabric$Node" 105 y_Nd_comeToRules "(LFlowFabric$Datagram;II)V" 3 1 := ⟨⟨am_in3 33 rfl rfl, am_in1 3 rfl rfl, by decide, by decide, by decide +kernel⟩, Or.inl (am_in3 30 rfl rfl), am_in3 32 rfl rfl, am_qNd, rfl, am_inS (List.mem_of_getElem? (i := 10) rfl) rfl⟩
theorem s_Nd_108 : am_CS "FlowFabric$Node" 108 y_Ms_ofDatagram "(IILFlowFabric$Datagram;)LFlowFabric$Message;" 3 := ⟨⟨am_in3 41 rfl rfl, am_in1 12 rfl rfl, by decide, by decide, by decide +kernel⟩, Or.inl (am_in3 39 rfl rfl), am_in3 40 rfl rfl⟩
theorem v_Nd_81 : am_CV "FlowFabric$Node" 81 y_Nd_addIfOpen "(LFlowFabric$Message;)V" 1 1 := ⟨⟨am_in3 45 rfl rfl, am_in1 3 rfl rfl, by decide, by decide, by decide +kernel⟩, Or.inl (am_in3 42 rfl rfl), am_in3 44 rfl rfl, am_qNd, rfl, am_inS (List.mem_of_getElem? (i := 11) rfl) rfl⟩
theorem v_Nd_111 : am_CV "FlowFabric$Node" 111 y_AL_get "(I)Ljava/lang/Object;" 1 12 := ⟨⟨am_in2 228 rfl rfl, am_in1 7 rfl rfl, by decide, by decide, by decide +kernel⟩, Or.inl (am_in2 225 rfl rfl), am_in2 226 rfl rfl, am_qAL, rfl, am_in2 227 rfl rfl⟩
theorem k_Nd_90 : Cond.classLink "FlowFabric$Node" 90 "FlowFabric$Guard" ∈ am_wz := am_in2 233 rfl rfl
theorem f_Nd_115 : am_F "FlowFabric$Node" 115 8 0 := ⟨am_qGd, "FlowFabric$Guard", rfl, by decide, Or.inl (am_in2 140 rfl rfl), Or.inl rfl⟩
theorem v_Nd_118 : am_CV "FlowFabric$Node" 118 y_Gd_matches "(LFlowFabric$Datagram;I)Z" 2 8 := ⟨⟨am_in2 237 rfl rfl, am_in1 15 rfl rfl, by decide, by decide, by decide +kernel⟩, Or.inl (am_in2 234 rfl rfl), am_in2 235 rfl rfl, am_qGd, rfl, am_in2 236 rfl rfl⟩
theorem v_AL_123 : am_CV "java/util/ArrayList" 123 y_AL_elementData "(I)Ljava/lang/Object;" 1 12 := ⟨⟨am_in2 232 rfl rfl, am_in1 7 rfl rfl, by decide, by decide, by decide +kernel⟩, Or.inl (am_in2 229 rfl rfl), am_in2 230 rfl rfl, am_qAL, rfl, am_in2 231 rfl rfl⟩
theorem s_Gd_24 : am_CS "FlowFabric$Guard" 24 y_Gd_fits "(II)Z" 2 := ⟨⟨am_in3 0 rfl rfl, am_in1 15 rfl rfl, by decide, by decide, by decide +kernel⟩, Or.inl (am_in2 238 rfl rfl), am_in2 239 rfl rfl⟩
theorem f_Gd_28 : am_F "FlowFabric$Guard" 28 6 0 := ⟨am_qDg, "FlowFabric$Datagram", rfl, by decide, Or.inl (am_in2 197 rfl rfl), Or.inl rfl⟩
theorem f_Gd_33 : am_F "FlowFabric$Guard" 33 6 1 := ⟨am_qDg, "FlowFabric$Datagram", rfl, by decide, Or.inl (am_in2 202 rfl rfl), Or.inl rfl⟩
theorem n_Fr_10 : am_NW "FlowFabric$Frame" 10 7 := ⟨am_qFr, rfl, am_in3 4 rfl rfl, am_in3 5 rfl rfl, am_in1 19 rfl rfl⟩
theorem i_Fr_19 : am_CI "FlowFabric$Frame" 19 y_Fr_new "(LFlowFabric$Datagram;I)V" 2 := ⟨⟨am_in3 8 rfl rfl, am_in1 19 rfl rfl, by decide, by decide, by decide +kernel⟩, rfl, rfl, Or.inl (am_in3 6 rfl rfl), am_in3 7 rfl rfl⟩
theorem f_Fr_9 : am_F "FlowFabric$Frame" 9 7 0 := ⟨am_qFr, "FlowFabric$Frame", rfl, by decide, Or.inl (am_in3 10 rfl rfl), Or.inl rfl⟩
theorem p_Fr_9 : am_P "FlowFabric$Frame" "<init>" 7 0 (.object "FlowFabric$Datagram") := ⟨am_qFr, rfl, by decide +kernel, Or.inr ⟨rfl, rfl, rfl⟩⟩
theorem f_Fr_15 : am_F "FlowFabric$Frame" 15 7 1 := ⟨am_qFr, "FlowFabric$Frame", rfl, by decide, Or.inl (am_in3 13 rfl rfl), Or.inl rfl⟩
theorem p_Fr_15 : am_P "FlowFabric$Frame" "<init>" 7 1 .int := ⟨am_qFr, rfl, by decide +kernel, Or.inr ⟨rfl, rfl, rfl⟩⟩
theorem f_Pt_30 : am_F "FlowFabric$Port" 30 7 0 := ⟨am_qFr, "FlowFabric$Frame", rfl, by decide, Or.inl (am_in3 12 rfl rfl), Or.inl rfl⟩
theorem f_Pt_36 : am_F "FlowFabric$Port" 36 6 1 := ⟨am_qDg, "FlowFabric$Datagram", rfl, by decide, Or.inl (am_in2 204 rfl rfl), Or.inl rfl⟩
theorem f_Pt_41 : am_F "FlowFabric$Port" 41 3 0 := ⟨am_qHo, "FlowFabric$Host", rfl, by decide, Or.inl (am_in1 210 rfl rfl), Or.inl rfl⟩
theorem v_Pt_46 : am_CV "FlowFabric$Port" 46 y_Ho_take "(LFlowFabric$Datagram;)V" 1 3 := ⟨⟨am_in3 27 rfl rfl, am_in1 11 rfl rfl, by decide, by decide, by decide +kernel⟩, Or.inl (am_in3 24 rfl rfl), am_in3 25 rfl rfl, am_qHo, rfl, am_in3 26 rfl rfl⟩
theorem v_Pt_50 : am_CV "FlowFabric$Port" 50 y_AL_size "()I" 0 12 := ⟨⟨am_in2 23 rfl rfl, am_in1 7 rfl rfl, by decide, by decide, by decide +kernel⟩, Or.inl (am_in3 28 rfl rfl), am_in2 21 rfl rfl, am_qAL, rfl, am_in2 22 rfl rfl⟩
theorem v_Pt_54 : am_CV "FlowFabric$Port" 54 y_AL_add "(Ljava/lang/Object;)Z" 1 12 := ⟨⟨am_in2 69 rfl rfl, am_in1 7 rfl rfl, by decide, by decide, by decide +kernel⟩, Or.inl (am_in3 29 rfl rfl), am_in2 67 rfl rfl, am_qAL, rfl, am_in2 68 rfl rfl⟩
theorem f_Ho_30 : am_F "FlowFabric$Host" 30 6 2 := ⟨am_qDg, "FlowFabric$Datagram", rfl, by decide, Or.inl (am_in2 207 rfl rfl), Or.inl rfl⟩
theorem f_Ho_33 : am_F "FlowFabric$Host" 33 6 0 := ⟨am_qDg, "FlowFabric$Datagram", rfl, by decide, Or.inl (am_in2 195 rfl rfl), Or.inl rfl⟩
theorem f_Nd_122 : am_F "FlowFabric$Node" 122 6 0 := ⟨am_qDg, "FlowFabric$Datagram", rfl, by decide, Or.inl (am_in2 199 rfl rfl), Or.inl rfl⟩
theorem f_Nd_127 : am_F "FlowFabric$Node" 127 6 1 := ⟨am_qDg, "FlowFabric$Datagram", rfl, by decide, Or.inl (am_in2 205 rfl rfl), Or.inl rfl⟩
theorem v_Nd_130 : am_CV "FlowFabric$Node" 130 y_Nd_ruleIndex "(II)I" 2 1 := ⟨⟨am_in3 37 rfl rfl, am_in1 3 rfl rfl, by decide, by decide, by decide +kernel⟩, Or.inl (am_in3 34 rfl rfl), am_in3 35 rfl rfl, am_qNd, rfl, am_in3 36 rfl rfl⟩
theorem k_Nd_134 : Cond.classLink "FlowFabric$Node" 134 "FlowFabric$Rule" ∈ am_wz := am_in3 38 rfl rfl
theorem f_Nd_136 : am_F "FlowFabric$Node" 136 10 5 := ⟨am_qRl, "FlowFabric$Rule", rfl, by decide, Or.inl (am_in3 100 rfl rfl), Or.inl rfl⟩
theorem p_Nd_136 (nm : String) : am_P "FlowFabric$Node" nm 10 5 .int := ⟨am_qRl, rfl, by decide +kernel, Or.inl rfl⟩
theorem f_Nd_139 : am_F "FlowFabric$Node" 139 10 4 := ⟨am_qRl, "FlowFabric$Rule", rfl, by decide, Or.inl (am_in3 98 rfl rfl), Or.inl rfl⟩
theorem p_Nd_139 (nm : String) : am_P "FlowFabric$Node" nm 10 4 .int := ⟨am_qRl, rfl, by decide +kernel, Or.inl rfl⟩
theorem f_Nd_142 : am_F "FlowFabric$Node" 142 10 2 := ⟨am_qRl, "FlowFabric$Rule", rfl, by decide, Or.inl (am_in3 94 rfl rfl), Or.inl rfl⟩
theorem f_Nd_145 : am_F "FlowFabric$Node" 145 10 0 := ⟨am_qRl, "FlowFabric$Rule", rfl, by decide, Or.inl (am_in3 90 rfl rfl), Or.inl rfl⟩
theorem f_Nd_146 : am_F "FlowFabric$Node" 146 10 1 := ⟨am_qRl, "FlowFabric$Rule", rfl, by decide, Or.inl (am_in3 92 rfl rfl), Or.inl rfl⟩
theorem f_Ms_30 : am_F "FlowFabric$Message" 30 6 0 := ⟨am_qDg, "FlowFabric$Datagram", rfl, by decide, Or.inl (am_in2 198 rfl rfl), Or.inl rfl⟩
theorem f_Ms_33 : am_F "FlowFabric$Message" 33 6 1 := ⟨am_qDg, "FlowFabric$Datagram", rfl, by decide, Or.inl (am_in2 203 rfl rfl), Or.inl rfl⟩
theorem f_Ms_34 : am_F "FlowFabric$Message" 34 6 2 := ⟨am_qDg, "FlowFabric$Datagram", rfl, by decide, Or.inl (am_in2 208 rfl rfl), Or.inl rfl⟩
theorem f_FF_153 : am_F "FlowFabric" 153 2 0 := ⟨am_qPt, "FlowFabric$Port", rfl, by decide, Or.inl (am_in1 81 rfl rfl), Or.inl rfl⟩
theorem v_FF_156 : am_CV "FlowFabric" 156 y_AL_isEmpty "()Z" 0 12 := ⟨⟨am_in3 53 rfl rfl, am_in1 7 rfl rfl, by decide, by decide, by decide +kernel⟩, Or.inl (am_in3 50 rfl rfl), am_in3 51 rfl rfl, am_qAL, rfl, am_in3 52 rfl rfl⟩
theorem k_FF_159 : Cond.classLink "FlowFabric" 159 "FlowFabric$Frame" ∈ am_wz := am_in3 54 rfl rfl
theorem v_FF_161 : am_CV "FlowFabric" 161 y_Nd_receive "(LFlowFabric$Frame;II)V" 3 1 := ⟨⟨am_in3 58 rfl rfl, am_in1 3 rfl rfl, by decide, by decide, by decide +kernel⟩, Or.inl (am_in3 55 rfl rfl), am_in3 56 rfl rfl, am_qNd, rfl, am_in3 57 rfl rfl⟩
theorem f_Nd_65 : am_F "FlowFabric$Node" 65 7 0 := ⟨am_qFr, "FlowFabric$Frame", rfl, by decide, Or.inl (am_in3 11 rfl rfl), Or.inl rfl⟩
theorem v_Nd_71 : am_CV "FlowFabric$Node" 71 y_Nd_comeIn "(LFlowFabric$Datagram;II)V" 3 1 := ⟨⟨am_in2 220 rfl rfl, am_in1 3 rfl rfl, by decide, by decide, by decide +kernel⟩, Or.inl (am_in3 59 rfl rfl), am_in2 218 rfl rfl, am_qNd, rfl, am_in2 219 rfl rfl⟩
theorem f_Nd_75 : am_F "FlowFabric$Node" 75 7 1 := ⟨am_qFr, "FlowFabric$Frame", rfl, by decide, Or.inl (am_in3 14 rfl rfl), Or.inl rfl⟩
theorem s_Nd_78 : am_CS "FlowFabric$Node" 78 y_Ms_ofProbe "(II)LFlowFabric$Message;" 2 := ⟨⟨am_in3 62 rfl rfl, am_in1 12 rfl rfl, by decide, by decide, by decide +kernel⟩, Or.inl (am_in3 60 rfl rfl), am_in3 61 rfl rfl⟩
theorem f_FF_165 : am_F "FlowFabric" 165 1 5 := ⟨am_qNd, "FlowFabric$Node", rfl, by decide, Or.inl (am_in1 111 rfl rfl), Or.inl rfl⟩
theorem k_FF_168 : Cond.classLink "FlowFabric" 168 "FlowFabric$Message" ∈ am_wz := am_in3 67 rfl rfl
theorem v_FF_170 : am_CV "FlowFabric" 170 y_Nd_carryOut "(LFlowFabric$Message;I)V" 2 1 := ⟨⟨am_in3 71 rfl rfl, am_in1 3 rfl rfl, by decide, by decide, by decide +kernel⟩, Or.inl (am_in3 68 rfl rfl), am_in3 69 rfl rfl, am_qNd, rfl, am_in3 70 rfl rfl⟩
theorem f_FF_174 : am_F "FlowFabric" 174 9 0 := ⟨am_qMs, "FlowFabric$Message", rfl, by decide, Or.inl (am_in2 43 rfl rfl), Or.inl rfl⟩
theorem f_Nd_147 : am_F "FlowFabric$Node" 147 9 0 := ⟨am_qMs, "FlowFabric$Message", rfl, by decide, Or.inl (am_in2 44 rfl rfl), Or.inl rfl⟩
theorem v_Nd_150 : am_CV "FlowFabric$Node" 150 y_Nd_putRule "(LFlowFabric$Message;I)V" 2 1 := ⟨⟨am_in3 75 rfl rfl, am_in1 3 rfl rfl, by decide, by decide, by decide +kernel⟩, Or.inl (am_in3 72 rfl rfl), am_in3 74 rfl rfl, am_qNd, rfl, am_inS (List.mem_of_getElem? (i := 12) rfl) rfl⟩
theorem f_Nd_154 : am_F "FlowFabric$Node" 154 9 2 := ⟨am_qMs, "FlowFabric$Message", rfl, by decide, Or.inl (am_in2 50 rfl rfl), Or.inl rfl⟩
theorem f_Nd_155 : am_F "FlowFabric$Node" 155 9 3 := ⟨am_qMs, "FlowFabric$Message", rfl, by decide, Or.inl (am_in2 53 rfl rfl), Or.inl rfl⟩
theorem v_Nd_156 : am_CV "FlowFabric$Node" 156 y_Nd_cutRule "(II)V" 2 1 := ⟨⟨am_in3 79 rfl rfl, am_in1 3 rfl rfl, by decide, by decide, by decide +kernel⟩, Or.inl (am_in3 76 rfl rfl), am_in3 78 rfl rfl, am_qNd, rfl, am_inS (List.mem_of_getElem? (i := 13) rfl) rfl⟩
theorem f_Nd_160 : am_F "FlowFabric$Node" 160 9 1 := ⟨am_qMs, "FlowFabric$Message", rfl, by decide, Or.inl (am_in2 47 rfl rfl), Or.inl rfl⟩
theorem v_Nd_163 : am_CV "FlowFabric$Node" 163 y_Ms_toDatagram "()LFlowFabric$Datagram;" 0 9 := ⟨⟨am_in3 118 rfl rfl, am_in1 12 rfl rfl, by decide, by decide, by decide +kernel⟩, Or.inl (am_in3 115 rfl rfl), am_in3 116 rfl rfl, am_qMs, rfl, am_in3 117 rfl rfl⟩
theorem v_Nd_167 : am_CV "FlowFabric$Node" 167 y_Nd_sendOutAt "(ILFlowFabric$Datagram;)V" 2 1 := ⟨⟨am_in3 124 rfl rfl, am_in1 3 rfl rfl, by decide, by decide, by decide +kernel⟩, Or.inl (am_in3 121 rfl rfl), am_in3 123 rfl rfl, am_qNd, rfl, am_inS (List.mem_of_getElem? (i := 14) rfl) rfl⟩
theorem v_Nd_171 : am_CV "FlowFabric$Node" 171 y_Nd_sendProbes "()V" 0 1 := ⟨⟨am_in3 128 rfl rfl, am_in1 3 rfl rfl, by decide, by decide, by decide +kernel⟩, Or.inl (am_in3 125 rfl rfl), am_in3 127 rfl rfl, am_qNd, rfl, am_inS (List.mem_of_getElem? (i := 15) rfl) rfl⟩
theorem s_Nd_174 : am_CS "FlowFabric$Node" 174 y_Ms_ofPair "(IIII)LFlowFabric$Message;" 4 := ⟨⟨am_in3 83 rfl rfl, am_in1 12 rfl rfl, by decide, by decide, by decide +kernel⟩, Or.inl (am_in3 81 rfl rfl), am_in3 82 rfl rfl⟩
theorem n_Nd_134 : am_NW "FlowFabric$Node" 134 10 := ⟨am_qRl, rfl, am_in3 38 rfl rfl, am_in3 84 rfl rfl, am_in1 20 rfl rfl⟩
theorem i_Nd_178 : am_CI "FlowFabric$Node" 178 y_Rl_new "(IIII)V" 4 := ⟨⟨am_in3 87 rfl rfl, am_in1 20 rfl rfl, by decide, by decide, by decide +kernel⟩, rfl, rfl, Or.inl (am_in3 85 rfl rfl), am_in3 86 rfl rfl⟩
theorem v_Nd_181 : am_CV "FlowFabric$Node" 181 y_AL_remove "(I)Ljava/lang/Object;" 1 12 := ⟨⟨am_in2 168 rfl rfl, am_in1 7 rfl rfl, by decide, by decide, by decide +kernel⟩, Or.inl (am_in3 80 rfl rfl), am_in2 166 rfl rfl, am_qAL, rfl, am_in2 167 rfl rfl⟩
theorem f_Rl_9 : am_F "FlowFabric$Rule" 9 10 0 := ⟨am_qRl, "FlowFabric$Rule", rfl, by decide, Or.inl (am_in3 89 rfl rfl), Or.inl rfl⟩
theorem p_Rl_9 : am_P "FlowFabric$Rule" "<init>" 10 0 .int := ⟨am_qRl, rfl, by decide +kernel, Or.inr ⟨rfl, rfl, rfl⟩⟩
theorem f_Rl_15 : am_F "FlowFabric$Rule" 15 10 1 := ⟨am_qRl, "FlowFabric$Rule", rfl, by decide, Or.inl (am_in3 91 rfl rfl), Or.inl rfl⟩
theorem p_Rl_15 : am_P "FlowFabric$Rule" "<init>" 10 1 .int := ⟨am_qRl, rfl, by decide +kernel, Or.inr ⟨rfl, rfl, rfl⟩⟩
theorem f_Rl_18 : am_F "FlowFabric$Rule" 18 10 2 := ⟨am_qRl, "FlowFabric$Rule", rfl, by decide, Or.inl (am_in3 93 rfl rfl), Or.inl rfl⟩
theorem p_Rl_18 : am_P "FlowFabric$Rule" "<init>" 10 2 .int := ⟨am_qRl, rfl, by decide +kernel, Or.inr ⟨rfl, rfl, rfl⟩⟩
theorem f_Rl_21 : am_F "FlowFabric$Rule" 21 10 3 := ⟨am_qRl, "FlowFabric$Rule", rfl, by decide, Or.inl (am_in3 96 rfl rfl), Or.inl rfl⟩
theorem p_Rl_21 : am_P "FlowFabric$Rule" "<init>" 10 3 .int := ⟨am_qRl, rfl, by decide +kernel, Or.inr ⟨rfl, rfl, rfl⟩⟩
theorem f_Rl_24 : am_F "FlowFabric$Rule" 24 10 4 := ⟨am_qRl, "FlowFabric$Rule", rfl, by decide, Or.inl (am_in3 97 rfl rfl), Or.inl rfl⟩
theorem p_Rl_24 (nm : String) : am_P "FlowFabric$Rule" nm 10 4 .int := ⟨am_qRl, rfl, by decide +kernel, Or.inl rfl⟩
theorem f_Rl_27 : am_F "FlowFabric$Rule" 27 10 5 := ⟨am_qRl, "FlowFabric$Rule", rfl, by decide, Or.inl (am_in3 99 rfl rfl), Or.inl rfl⟩
theorem p_Rl_27 (nm : String) : am_P "FlowFabric$Rule" nm 10 5 .int := ⟨am_qRl, rfl, by decide +kernel, Or.inl rfl⟩
theorem n_Ms_31 : am_NW "FlowFabric$Message" 31 6 := ⟨am_qDg, rfl, am_in3 119 rfl rfl, am_in2 189 rfl rfl, am_in1 18 rfl rfl⟩
theorem i_Ms_35 : am_CI "FlowFabric$Message" 35 y_Dg_new "(III)V" 3 := ⟨⟨am_in2 192 rfl rfl, am_in1 18 rfl rfl, by decide, by decide, by decide +kernel⟩, rfl, rfl, Or.inl (am_in3 120 rfl rfl), am_in2 191 rfl rfl⟩
theorem f_Nd_184 : am_F "FlowFabric$Node" 184 2 2 := ⟨am_qPt, "FlowFabric$Port", rfl, by decide, Or.inl (am_in1 86 rfl rfl), Or.inl rfl⟩
theorem s_Nd_187 : am_CS "FlowFabric$Node" 187 y_FF_endOf "(II)I" 2 := ⟨⟨am_in2 0 rfl rfl, am_in1 1 rfl rfl, by decide, by decide, by decide +kernel⟩, Or.inr ⟨"FlowFabric", by decide⟩, am_in1 239 rfl rfl⟩
theorem s_Nd_190 : am_CS "FlowFabric$Node" 190 y_Fr_ofProbe "(I)LFlowFabric$Frame;" 1 := ⟨⟨am_in3 132 rfl rfl, am_in1 19 rfl rfl, by decide, by decide, by decide +kernel⟩, Or.inl (am_in3 130 rfl rfl), am_in3 131 rfl rfl⟩
theorem f_FF_177 : am_F "FlowFabric" 177 1 6 := ⟨am_qNd, "FlowFabric$Node", rfl, by decide, Or.inl (am_in1 113 rfl rfl), Or.inl rfl⟩
theorem v_FF_180 : am_CV "FlowFabric" 180 y_Ct_handle "(ILFlowFabric$Message;)V" 2 4 := ⟨⟨am_in3 140 rfl rfl, am_in1 8 rfl rfl, by decide, by decide, by decide +kernel⟩, Or.inl (am_in3 137 rfl rfl), am_in3 138 rfl rfl, am_qCt, rfl, am_in3 139 rfl rfl⟩
theorem f_Ct_46 : am_F "FlowFabric$Controller" 46 9 0 := ⟨am_qMs, "FlowFabric$Message", rfl, by decide, Or.inl (am_in2 42 rfl rfl), Or.inl rfl⟩
theorem f_Ct_51 : am_F "FlowFabric$Controller" 51 9 1 := ⟨am_qMs, "FlowFabric$Message", rfl, by decide, Or.inl (am_in2 46 rfl rfl), Or.inl rfl⟩
theorem v_Ct_54 : am_CV "FlowFabric$Controller" 54 y_Ms_toDatagram "()LFlowFabric$Datagram;" 0 9 := ⟨⟨am_in3 118 rfl rfl, am_in1 12 rfl rfl, by decide, by decide, by decide +kernel⟩, Or.inl (am_in3 141 rfl rfl), am_in3 116 rfl rfl, am_qMs, rfl, am_in3 117 rfl rfl⟩
theorem v_Ct_58 : am_CV "FlowFabric$Controller" 58 y_Ct_handleMiss "(IILFlowFabric$Datagram;)V" 3 4 := ⟨⟨am_in3 145 rfl rfl, am_in1 8 rfl rfl, by decide, by decide, by decide +kernel⟩, Or.inl (am_in3 142 rfl rfl), am_in3 144 rfl rfl, am_qCt, rfl, am_inS (List.mem_of_getElem? (i := 16) rfl) rfl⟩
theorem s_Ct_62 : am_CS "FlowFabric$Controller" 62 y_FF_endOf "(II)I" 2 := ⟨⟨am_in2 0 rfl rfl, am_in1 1 rfl rfl, by decide, by decide, by decide +kernel⟩, Or.inr ⟨"FlowFabric", by decide⟩, am_in1 239 rfl rfl⟩
theorem f_Ct_66 : am_F "FlowFabric$Controller" 66 9 2 := ⟨am_qMs, "FlowFabric$Message", rfl, by decide, Or.inl (am_in2 49 rfl rfl), Or.inl rfl⟩
theorem v_Ct_69 : am_CV "FlowFabric$Controller" 69 y_Ct_handleSeen "(II)V" 2 4 := ⟨⟨am_in3 239 rfl rfl, am_in1 8 rfl rfl, by decide, by decide, by decide +kernel⟩, Or.inl (am_in3 236 rfl rfl), am_in3 238 rfl rfl, am_qCt, rfl, am_inS (List.mem_of_getElem? (i := 24) rfl) rfl⟩
theorem v_Ct_73 : am_CV "FlowFabric$Controller" 73 y_Ct_handleDone "(I)V" 1 4 := ⟨⟨am_in4 11 rfl rfl, am_in1 8 rfl rfl, by decide, by decide, by decide +kernel⟩, Or.inl (am_in4 8 rfl rfl), am_in4 10 rfl rfl, am_qCt, rfl, am_inS (List.mem_of_getElem? (i := 25) rfl) rfl⟩
theorem f_Ct_77 : am_F "FlowFabric$Controller" 77 9 3 := ⟨am_qMs, "FlowFabric$Message", rfl, by decide, Or.inl (am_in2 52 rfl rfl), Or.inl rfl⟩
theorem v_Ct_80 : am_CV "FlowFabric$Controller" 80 y_Ct_handleNoRoom "(II)V" 2 4 := ⟨⟨am_in4 24 rfl rfl, am_in1 8 rfl rfl, by decide, by decide, by decide +kernel⟩, Or.inl (am_in4 21 rfl rfl), am_in4 23 rfl rfl, am_qCt, rfl, am_inS (List.mem_of_getElem? (i := 28) rfl) rfl⟩
theorem v_Ct_83 : am_CV "FlowFabric$Controller" 83 y_Ct_handleGone "(III)V" 3 4 := ⟨⟨am_in4 28 rfl rfl, am_in1 8 rfl rfl, by decide, by decide, by decide +kernel⟩, Or.inl (am_in4 25 rfl rfl), am_in4 27 rfl rfl, am_qCt, rfl, am_inS (List.mem_of_getElem? (i := 29) rfl) rfl⟩
theorem v_Ct_87 : am_CV "FlowFabric$Controller" 87 y_Ct_handleDown "(I)V" 1 4 := ⟨⟨am_in4 37 rfl rfl, am_in1 8 rfl rfl, by decide, by decide, by decide +kernel⟩, Or.inl (am_in4 34 rfl rfl), am_in4 36 rfl rfl, am_qCt, rfl, am_inS (List.mem_of_getElem? (i := 30) rfl) rfl⟩
theorem f_Ct_90 : am_F "FlowFabric$Controller" 90 6 0 := ⟨am_qDg, "FlowFabric$Datagram", rfl, by decide, Or.inl (am_in2 196 rfl rfl), Or.inl rfl⟩
theorem f_Ct_93 : am_F "FlowFabric$Controller" 93 6 1 := ⟨am_qDg, "FlowFabric$Datagram", rfl, by decide, Or.inl (am_in2 201 rfl rfl), Or.inl rfl⟩
theorem v_Ct_94 : am_CV "FlowFabric$Controller" 94 y_Ct_courseOf "(II)LFlowFabric$Course;" 2 4 := ⟨⟨am_in3 150 rfl rfl, am_in1 8 rfl rfl, by decide, by decide, by decide +kernel⟩, Or.inl (am_in3 147 rfl rfl), am_in3 148 rfl rfl, am_qCt, rfl, am_in3 149 rfl rfl⟩
theorem f_Ct_98 : am_F "FlowFabric$Controller" 98 5 4 := ⟨am_qCo, "FlowFabric$Course", rfl, by decide, Or.inl (am_in3 202 rfl rfl), Or.inl rfl⟩
theorem p_Ct_98 (nm : String) : am_P "FlowFabric$Controller" nm 5 4 (.object "FlowFabric$Datagram") := ⟨am_qCo, rfl, by decide +kernel, Or.inl rfl⟩
theorem f_Ct_104 : am_F "FlowFabric$Controller" 104 5 2 := ⟨am_qCo, "FlowFabric$Course", rfl, by decide, Or.inl (am_in3 196 rfl rfl), Or.inl rfl⟩
theorem v_Ct_107 : am_CV "FlowFabric$Controller" 107 y_Ct_clearCourse "(LFlowFabric$Course;)V" 1 4 := ⟨⟨am_in3 157 rfl rfl, am_in1 8 rfl rfl, by decide, by decide, by decide +kernel⟩, Or.inl (am_in3 154 rfl rfl), am_in3 156 rfl rfl, am_qCt, rfl, am_inS (List.mem_of_getElem? (i := 17) rfl) rfl⟩
theorem v_Ct_111 : am_CV "FlowFabric$Controller" 111 y_Ct_orderOuts "(IILFlowFabric$Datagram;)V" 3 4 := ⟨⟨am_in3 165 rfl rfl, am_in1 8 rfl rfl, by decide, by decide, by decide +kernel⟩, Or.inl (am_in3 162 rfl rfl), am_in3 164 rfl rfl, am_qCt, rfl, am_inS (List.mem_of_getElem? (i := 18) rfl) rfl⟩
theorem v_Ct_114 : am_CV "FlowFabric$Controller" 114 y_Ct_makeCourse "(LFlowFabric$Datagram;)V" 1 4 := ⟨⟨am_in3 170 rfl rfl, am_in1 8 rfl rfl, by decide, by decide, by decide +kernel⟩, Or.inl (am_in3 167 rfl rfl), am_in3 169 rfl rfl, am_qCt, rfl, am_inS (List.mem_of_getElem? (i := 19) rfl) rfl⟩
theorem v_Ct_123 : am_CV "FlowFabric$Controller" 123 y_AL_size "()I" 0 12 := ⟨⟨am_in2 23 rfl rfl, am_in1 7 rfl rfl, by decide, by decide, by decide +kernel⟩, Or.inl (am_in3 151 rfl rfl), am_in2 21 rfl rfl, am_qAL, rfl, am_in2 22 rfl rfl⟩
theorem v_Ct_148 : am_CV "FlowFabric$Controller" 148 y_AL_get "(I)Ljava/lang/Object;" 1 12 := ⟨⟨am_in2 228 rfl rfl, am_in1 7 rfl rfl, by decide, by decide, by decide +kernel⟩, Or.inl (am_in3 152 rfl rfl), am_in2 226 rfl rfl, am_qAL, rfl, am_in2 227 rfl rfl⟩
theorem k_Ct_99 : Cond.classLink "FlowFabric$Controller" 99 "FlowFabric$Course" ∈ am_wz := am_in3 153 rfl rfl
theorem f_Ct_179 : am_F "FlowFabric$Controller" 179 5 0 := ⟨am_qCo, "FlowFabric$Course", rfl, by decide, Or.inl (am_in3 192 rfl rfl), Or.inl rfl⟩
theorem f_Ct_180 : am_F "FlowFabric$Controller" 180 5 1 := ⟨am_qCo, "FlowFabric$Course", rfl, by decide, Or.inl (am_in3 194 rfl rfl), Or.inl rfl⟩
theorem p_Ct_104 (nm : String) : am_P "FlowFabric$Controller" nm 5 2 .int := ⟨am_qCo, rfl, by decide +kernel, Or.inl rfl⟩
theorem f_Ct_160 : am_F "FlowFabric$Controller" 160 5 5 := ⟨am_qCo, "FlowFabric$Course", rfl, by decide, Or.inl (am_in3 205 rfl rfl), Or.inl rfl⟩
theorem p_Ct_160 (nm : String) : am_P "FlowFabric$Controller" nm 5 5 .int := ⟨am_qCo, rfl, by decide +kernel, Or.inl rfl⟩
theorem f_Ct_184 : am_F "FlowFabric$Controller" 184 5 3 := ⟨am_qCo, "FlowFabric$Course", rfl, by decide, Or.inl (am_in3 199 rfl rfl), Or.inl rfl⟩
theorem f_Ct_173 : am_F "FlowFabric$Controller" 173 5 6 := ⟨am_qCo, "FlowFabric$Course", rfl, by decide, Or.inl (am_in3 207 rfl rfl), Or.inl rfl⟩
theorem p_Ct_173 (nm : String) : am_P "FlowFabric$Controller" nm 5 6 .int := ⟨am_qCo, rfl, by decide +kernel, Or.inl rfl⟩
theorem s_Ct_197 : am_CS "FlowFabric$Controller" 197 y_Ms_ofPair "(IIII)LFlowFabric$Message;" 4 := ⟨⟨am_in3 83 rfl rfl, am_in1 12 rfl rfl, by decide, by decide, by decide +kernel⟩, Or.inl (am_in3 158 rfl rfl), am_in3 82 rfl rfl⟩
theorem s_Ct_201 : am_CS "FlowFabric$Controller" 201 y_Ms_ofValue "(II)LFlowFabric$Message;" 2 := ⟨⟨am_in2 34 rfl rfl, am_in1 12 rfl rfl, by decide, by decide, by decide +kernel⟩, Or.inl (am_in3 159 rfl rfl), am_in2 33 rfl rfl⟩
theorem s_Ct_187 : am_CS "FlowFabric$Controller" 187 y_FF_switchOf "(I)I" 1 := ⟨⟨am_in2 15 rfl rfl, am_in1 1 rfl rfl, by decide, by decide, by decide +kernel⟩, Or.inr ⟨"FlowFabric", by decide⟩, am_in2 14 rfl rfl⟩
theorem f_Ct_118 : am_F "FlowFabric$Controller" 118 1 5 := ⟨am_qNd, "FlowFabric$Node", rfl, by decide, Or.inl (am_in1 110 rfl rfl), Or.inl rfl⟩
theorem v_Ct_131 : am_CV "FlowFabric$Controller" 131 y_AL_add "(Ljava/lang/Object;)Z" 1 12 := ⟨⟨am_in2 69 rfl rfl, am_in1 7 rfl rfl, by decide, by decide, by decide +kernel⟩, Or.inl (am_in3 161 rfl rfl), am_in2 67 rfl rfl, am_qAL, rfl, am_in2 68 rfl rfl⟩
theorem s_Ct_127 : am_CS "FlowFabric$Controller" 127 y_Ms_ofDatagram "(IILFlowFabric$Datagram;)LFlowFabric$Message;" 3 := ⟨⟨am_in3 41 rfl rfl, am_in1 12 rfl rfl, by decide, by decide, by decide +kernel⟩, Or.inl (am_in3 166 rfl rfl), am_in3 40 rfl rfl⟩
theorem v_Ct_135 : am_CV "FlowFabric$Controller" 135 y_Ct_findWay "(II)[I" 2 4 := ⟨⟨am_in3 174 rfl rfl, am_in1 8 rfl rfl, by decide, by decide, by decide +kernel⟩, Or.inl (am_in3 171 rfl rfl), am_in3 173 rfl rfl, am_qCt, rfl, am_inS (List.mem_of_getElem? (i := 20) rfl) rfl⟩
theorem n_Ct_99 : am_NW "FlowFabric$Controller" 99 5 := ⟨am_qCo, rfl, am_in3 153 rfl rfl, am_in3 185 rfl rfl, am_in1 21 rfl rfl⟩
theorem i_Ct_139 : am_CI "FlowFabric$Controller" 139 y_Co_new "(IILFlowFabric$Datagram;)V" 3 := ⟨⟨am_in3 188 rfl rfl, am_in1 21 rfl rfl, by decide, by decide, by decide +kernel⟩, rfl, rfl, Or.inl (am_in3 186 rfl rfl), am_in3 187 rfl rfl⟩
theorem v_Ct_141 : am_CV "FlowFabric$Controller" 141 y_Co_beginLaying "([I)V" 1 5 := ⟨⟨am_in3 230 rfl rfl, am_in1 21 rfl rfl, by decide, by decide, by decide +kernel⟩, Or.inl (am_in3 227 rfl rfl), am_in3 228 rfl rfl, am_qCo, rfl, am_in3 229 rfl rfl⟩
theorem v_Ct_145 : am_CV "FlowFabric$Controller" 145 y_Ct_leadAhead "(LFlowFabric$Course;)V" 1 4 := ⟨⟨am_in3 234 rfl rfl, am_in1 8 rfl rfl, by decide, by decide, by decide +kernel⟩, Or.inl (am_in3 231 rfl rfl), am_in3 233 rfl rfl, am_qCt, rfl, am_inS (List.mem_of_getElem? (i := 23) rfl) rfl⟩
theorem v_Ct_208 : am_CV "FlowFabric$Controller" 208 y_Ct_countSteps "(I)V" 1 4 := ⟨⟨am_in3 180 rfl rfl, am_in1 8 rfl rfl, by decide, by decide, by decide +kernel⟩, Or.inl (am_in3 177 rfl rfl), am_in3 179 rfl rfl, am_qCt, rfl, am_inS (List.mem_of_getElem? (i := 21) rfl) rfl⟩
theorem v_Ct_211 : am_CV "FlowFabric$Controller" 211 y_Ct_nextEnd "(I)I" 1 4 := ⟨⟨am_in3 184 rfl rfl, am_in1 8 rfl rfl, by decide, by decide, by decide +kernel⟩, Or.inl (am_in3 181 rfl rfl), am_in3 183 rfl rfl, am_qCt, rfl, am_inS (List.mem_of_getElem? (i := 22) rfl) rfl⟩
theorem f_Co_9 : am_F "FlowFabric$Course" 9 5 0 := ⟨am_qCo, "FlowFabric$Course", rfl, by decide, Or.inl (am_in3 191 rfl rfl), Or.inl rfl⟩
theorem p_Co_9 : am_P "FlowFabric$Course" "<init>" 5 0 .int := ⟨am_qCo, rfl, by decide +kernel, Or.inr ⟨rfl, rfl, rfl⟩⟩
theorem f_Co_15 : am_F "FlowFabric$Course" 15 5 1 := ⟨am_qCo, "FlowFabric$Course", rfl, by decide, Or.inl (am_in3 193 rfl rfl), Or.inl rfl⟩
theorem p_Co_15 : am_P "FlowFabric$Course" "<init>" 5 1 .int := ⟨am_qCo, rfl, by decide +kernel, Or.inr ⟨rfl, rfl, rfl⟩⟩
theorem f_Co_18 : am_F "FlowFabric$Course" 18 5 2 := ⟨am_qCo, "FlowFabric$Course", rfl, by decide, Or.inl (am_in3 195 rfl rfl), Or.inl rfl⟩
theorem p_Co_18 (nm : String) : am_P "FlowFabric$Course" nm 5 2 .int := ⟨am_qCo, rfl, by decide +kernel, Or.inl rfl⟩
theorem f_Co_25 : am_F "FlowFabric$Course" 25 5 3 := ⟨am_qCo, "FlowFabric$Course", rfl, by decide, Or.inl (am_in3 198 rfl rfl), Or.inl rfl⟩
theorem p_Co_25 (nm : String) : am_P "FlowFabric$Course" nm 5 3 (.array .int) := ⟨am_qCo, rfl, by decide +kernel, Or.inl rfl⟩
theorem f_Co_28 : am_F "FlowFabric$Course" 28 5 4 := ⟨am_qCo, "FlowFabric$Course", rfl, by decide, Or.inl (am_in3 201 rfl rfl), Or.inl rfl⟩
theorem p_Co_28 (nm : String) : am_P "FlowFabric$Course" nm 5 4 (.object "FlowFabric$Datagram") := ⟨am_qCo, rfl, by decide +kernel, Or.inl rfl⟩
theorem f_Co_32 : am_F "FlowFabric$Course" 32 5 5 := ⟨am_qCo, "FlowFabric$Course", rfl, by decide, Or.inl (am_in3 204 rfl rfl), Or.inl rfl⟩
theorem p_Co_32 (nm : String) : am_P "FlowFabric$Course" nm 5 5 .int := ⟨am_qCo, rfl, by decide +kernel, Or.inl rfl⟩
theorem f_Co_35 : am_F "FlowFabric$Course" 35 5 6 := ⟨am_qCo, "FlowFabric$Course", rfl, by decide, Or.inl (am_in3 206 rfl rfl), Or.inl rfl⟩
theorem p_Co_35 (nm : String) : am_P "FlowFabric$Course" nm 5 6 .int := ⟨am_qCo, rfl, by decide +kernel, Or.inl rfl⟩
theorem f_Co_38 : am_F "FlowFabric$Course" 38 5 7 := ⟨am_qCo, "FlowFabric$Course", rfl, by decide, Or.inl (am_in3 208 rfl rfl), Or.inl rfl⟩
theorem p_Co_38 (nm : String) : am_P "FlowFabric$Course" nm 5 7 .int := ⟨am_qCo, rfl, by decide +kernel, Or.inl rfl⟩
theorem f_Ct_167 : am_F "FlowFabric$Controller" 167 5 7 := ⟨am_qCo, "FlowFabric$Course", rfl, by decide, Or.inl (am_in3 209 rfl rfl), Or.inl rfl⟩
theorem p_Ct_167 (nm : String) : am_P "FlowFabric$Controller" nm 5 7 .int := ⟨am_qCo, rfl, by decide +kernel, Or.inl rfl⟩
theorem s_Ct_205 : am_CS "FlowFabric$Controller" 205 y_FF_portOf "(I)I" 1 := ⟨⟨am_in2 124 rfl rfl, am_in1 1 rfl rfl, by decide, by decide, by decide +kernel⟩, Or.inr ⟨"FlowFabric", by decide⟩, am_in2 123 rfl rfl⟩
theorem v_Ct_152 : am_CV "FlowFabric$Controller" 152 y_Co_endsWith "(I)Z" 1 5 := ⟨⟨am_in4 3 rfl rfl, am_in1 21 rfl rfl, by decide, by decide, by decide +kernel⟩, Or.inl (am_in4 0 rfl rfl), am_in4 1 rfl rfl, am_qCo, rfl, am_in4 2 rfl rfl⟩
theorem v_Ct_156 : am_CV "FlowFabric$Controller" 156 y_Co_isLayingOrLaid "()Z" 0 5 := ⟨⟨am_in4 7 rfl rfl, am_in1 21 rfl rfl, by decide, by decide, by decide +kernel⟩, Or.inl (am_in4 4 rfl rfl), am_in4 5 rfl rfl, am_qCo, rfl, am_in4 6 rfl rfl⟩
theorem v_Ct_163 : am_CV "FlowFabric$Controller" 163 y_Ct_countDone "(LFlowFabric$Course;I)V" 2 4 := ⟨⟨am_in4 15 rfl rfl, am_in1 8 rfl rfl, by decide, by decide, by decide +kernel⟩, Or.inl (am_in4 12 rfl rfl), am_in4 14 rfl rfl, am_qCt, rfl, am_inS (List.mem_of_getElem? (i := 26) rfl) rfl⟩
theorem v_Ct_170 : am_CV "FlowFabric$Controller" 170 y_Ct_finishLaying "(LFlowFabric$Course;)V" 1 4 := ⟨⟨am_in4 20 rfl rfl, am_in1 8 rfl rfl, by decide, by decide, by decide +kernel⟩, Or.inl (am_in4 17 rfl rfl), am_in4 19 rfl rfl, am_qCt, rfl, am_inS (List.mem_of_getElem? (i := 27) rfl) rfl⟩
theorem v_Ct_181 : am_CV "FlowFabric$Controller" 181 y_AL_remove "(I)Ljava/lang/Object;" 1 12 := ⟨⟨am_in2 168 rfl rfl, am_in1 7 rfl rfl, by decide, by decide, by decide +kernel⟩, Or.inl (am_in4 16 rfl rfl), am_in2 166 rfl rfl, am_qAL, rfl, am_in2 167 rfl rfl⟩
theorem v_Ct_191 : am_CV "FlowFabric$Controller" 191 y_Co_passes "(I)Z" 1 5 := ⟨⟨am_in4 32 rfl rfl, am_in1 21 rfl rfl, by decide, by decide, by decide +kernel⟩, Or.inl (am_in4 29 rfl rfl), am_in4 30 rfl rfl, am_qCo, rfl, am_in4 31 rfl rfl⟩
theorem s_Co_41 : am_CS "FlowFabric$Course" 41 y_FF_switchOf "(I)I" 1 := ⟨⟨am_in2 15 rfl rfl, am_in1 1 rfl rfl, by decide, by decide, by decide +kernel⟩, Or.inr ⟨"FlowFabric", by decide⟩, am_in2 14 rfl rfl⟩
theorem v_Ct_194 : am_CV "FlowFabric$Controller" 194 y_Co_leadsOutOf "(I)Z" 1 5 := ⟨⟨am_in4 41 rfl rfl, am_in1 21 rfl rfl, by decide, by decide, by decide +kernel⟩, Or.inl (am_in4 38 rfl rfl), am_in4 39 rfl rfl, am_qCo, rfl, am_in4 40 rfl rfl⟩
theorem s_FF_184 : am_CS "FlowFabric" 184 y_Ms_ofValue "(II)LFlowFabric$Message;" 2 := ⟨⟨am_in2 34 rfl rfl, am_in1 12 rfl rfl, by decide, by decide, by decide +kernel⟩, Or.inl (am_in4 46 rfl rfl), am_in2 33 rfl rfl⟩
theorem v_FF_188 : am_CV "FlowFabric" 188 y_Nd_dropOldRules "(II)I" 2 1 := ⟨⟨am_in4 54 rfl rfl, am_in1 3 rfl rfl, by decide, by decide, by decide +kernel⟩, Or.inl (am_in4 51 rfl rfl), am_in4 52 rfl rfl, am_qNd, rfl, am_in4 53 rfl rfl⟩
theorem v_Nd_193 : am_CV "FlowFabric$Node" 193 y_Rl_isOld "(II)Z" 2 10 := ⟨⟨am_in4 58 rfl rfl, am_in1 20 rfl rfl, by decide, by decide, by decide +kernel⟩, Or.inl (am_in4 55 rfl rfl), am_in4 56 rfl rfl, am_qRl, rfl, am_in4 57 rfl rfl⟩
theorem v_FF_191 : am_CV "FlowFabric" 191 y_Nd_ruleIndex "(II)I" 2 1 := ⟨⟨am_in3 37 rfl rfl, am_in1 3 rfl rfl, by decide, by decide, by decide +kernel⟩, Or.inl (am_in4 67 rfl rfl), am_in3 35 rfl rfl, am_qNd, rfl, am_in3 36 rfl rfl⟩
theorem f_FF_194 : am_F "FlowFabric" 194 1 4 := ⟨am_qNd, "FlowFabric$Node", rfl, by decide, Or.inl (am_in1 108 rfl rfl), Or.inl rfl⟩
theorem v_FF_197 : am_CV "FlowFabric" 197 y_AL_get "(I)Ljava/lang/Object;" 1 12 := ⟨⟨am_in2 228 rfl rfl, am_in1 7 rfl rfl, by decide, by decide, by decide +kernel⟩, Or.inl (am_in4 68 rfl rfl), am_in2 226 rfl rfl, am_qAL, rfl, am_in2 227 rfl rfl⟩
theorem k_FF_200 : Cond.classLink "FlowFabric" 200 "FlowFabric$Rule" ∈ am_wz := am_in4 69 rfl rfl
theorem f_FF_202 : am_F "FlowFabric" 202 10 2 := ⟨am_qRl, "FlowFabric$Rule", rfl, by decide, Or.inl (am_in3 95 rfl rfl), Or.inl rfl⟩
theorem f_FF_203 : am_F "FlowFabric" 203 10 5 := ⟨am_qRl, "FlowFabric$Rule", rfl, by decide, Or.inl (am_in3 101 rfl rfl), Or.inl rfl⟩
theorem f_FF_206 : am_F "FlowFabric" 206 3 3 := ⟨am_qHo, "FlowFabric$Host", rfl, by decide, Or.inl (am_in1 216 rfl rfl), Or.inl rfl⟩
theorem f_FF_209 : am_F "FlowFabric" 209 3 4 := ⟨am_qHo, "FlowFabric$Host", rfl, by decide, Or.inl (am_in1 218 rfl rfl), Or.inl rfl⟩
theorem f_FF_212 : am_F "FlowFabric" 212 3 5 := ⟨am_qHo, "FlowFabric$Host", rfl, by decide, Or.inl (am_in1 220 rfl rfl), Or.inl rfl⟩
theorem f_FF_215 : am_F "FlowFabric" 215 4 1 := ⟨am_qCt, "FlowFabric$Controller", rfl, by decide, Or.inl (am_in1 144 rfl rfl), Or.inl rfl⟩
theorem f_FF_219 : am_F "FlowFabric" 219 4 3 := ⟨am_qCt, "FlowFabric$Controller", rfl, by decide, Or.inl (am_in1 147 rfl rfl), Or.inl rfl⟩
theorem v_FF_222 : am_CV "FlowFabric" 222 y_Ct_courseOf "(II)LFlowFabric$Course;" 2 4 := ⟨⟨am_in3 150 rfl rfl, am_in1 8 rfl rfl, by decide, by decide, by decide +kernel⟩, Or.inl (am_in4 90 rfl rfl), am_in3 148 rfl rfl, am_qCt, rfl, am_in3 149 rfl rfl⟩
theorem f_FF_226 : am_F "FlowFabric" 226 5 3 := ⟨am_qCo, "FlowFabric$Course", rfl, by decide, Or.inl (am_in3 200 rfl rfl), Or.inl rfl⟩
theorem f_FF_231 : am_F "FlowFabric" 231 5 2 := ⟨am_qCo, "FlowFabric$Course", rfl, by decide, Or.inl (am_in3 197 rfl rfl), Or.inl rfl⟩
theorem f_FF_234 : am_F "FlowFabric" 234 5 4 := ⟨am_qCo, "FlowFabric$Course", rfl, by decide, Or.inl (am_in3 203 rfl rfl), Or.inl rfl⟩
theorem f_FF_238 : am_F "FlowFabric" 238 6 2 := ⟨am_qDg, "FlowFabric$Datagram", rfl, by decide, Or.inl (am_in2 209 rfl rfl), Or.inl rfl⟩
theorem f_M_7 : am_F "FlowFabricModel" 7 11 4 := ⟨am_qM, "FlowFabricModel", rfl, by decide, Or.inl (am_in4 107 rfl rfl), Or.inl rfl⟩
theorem p_M_7 : am_P "FlowFabricModel" "<init>" 11 4 (.array .int) := ⟨am_qM, rfl, by decide +kernel, Or.inr ⟨rfl, rfl, rfl⟩⟩
theorem f_M_13 : am_F "FlowFabricModel" 13 11 5 := ⟨am_qM, "FlowFabricModel", rfl, by decide, Or.inl (am_in4 108 rfl rfl), Or.inl rfl⟩
theorem p_M_13 : am_P "FlowFabricModel" "<init>" 11 5 (.array .int) := ⟨am_qM, rfl, by decide +kernel, Or.inr ⟨rfl, rfl, rfl⟩⟩
theorem f_M_16 : am_F "FlowFabricModel" 16 11 6 := ⟨am_qM, "FlowFabricModel", rfl, by decide, Or.inl (am_in4 109 rfl rfl), Or.inl rfl⟩
theorem p_M_16 : am_P "FlowFabricModel" "<init>" 11 6 (.array .boolean) := ⟨am_qM, rfl, by decide +kernel, Or.inr ⟨rfl, rfl, rfl⟩⟩
theorem f_M_20 : am_F "FlowFabricModel" 20 11 8 := ⟨am_qM, "FlowFabricModel", rfl, by decide, Or.inl (am_in4 111 rfl rfl), Or.inl rfl⟩
theorem p_M_20 : am_P "FlowFabricModel" "<init>" 11 8 (.array .int) := ⟨am_qM, rfl, by decide +kernel, Or.inr ⟨rfl, rfl, rfl⟩⟩
theorem f_M_23 : am_F "FlowFabricModel" 23 11 9 := ⟨am_qM, "FlowFabricModel", rfl, by decide, Or.inl (am_in4 112 rfl rfl), Or.inl rfl⟩
theorem p_M_23 : am_P "FlowFabricModel" "<init>" 11 9 (.array .int) := ⟨am_qM, rfl, by decide +kernel, Or.inr ⟨rfl, rfl, rfl⟩⟩
theorem f_M_26 : am_F "FlowFabricModel" 26 11 10 := ⟨am_qM, "FlowFabricModel", rfl, by decide, Or.inl (am_in4 113 rfl rfl), Or.inl rfl⟩
theorem p_M_26 : am_P "FlowFabricModel" "<init>" 11 10 (.array .int) := ⟨am_qM, rfl, by decide +kernel, Or.inr ⟨rfl, rfl, rfl⟩⟩
theorem f_M_29 : am_F "FlowFabricModel" 29 11 11 := ⟨am_qM, "FlowFabricModel", rfl, by decide, Or.inl (am_in4 114 rfl rfl), Or.inl rfl⟩
theorem p_M_29 : am_P "FlowFabricModel" "<init>" 11 11 (.array .int) := ⟨am_qM, rfl, by decide +kernel, Or.inr ⟨rfl, rfl, rfl⟩⟩
theorem f_M_32 : am_F "FlowFabricModel" 32 11 12 := ⟨am_qM, "FlowFabricModel", rfl, by decide, Or.inl (am_in4 115 rfl rfl), Or.inl rfl⟩
theorem p_M_32 : am_P "FlowFabricModel" "<init>" 11 12 (.array .int) := ⟨am_qM, rfl, by decide +kernel, Or.inr ⟨rfl, rfl, rfl⟩⟩
theorem f_M_35 : am_F "FlowFabricModel" 35 11 13 := ⟨am_qM, "FlowFabricModel", rfl, by decide, Or.inl (am_in4 116 rfl rfl), Or.inl rfl⟩
theorem p_M_35 : am_P "FlowFabricModel" "<init>" 11 13 (.array .int) := ⟨am_qM, rfl, by decide +kernel, Or.inr ⟨rfl, rfl, rfl⟩⟩
theorem f_M_38 : am_F "FlowFabricModel" 38 11 14 := ⟨am_qM, "FlowFabricModel", rfl, by decide, Or.inl (am_in4 117 rfl rfl), Or.inl rfl⟩
theorem p_M_38 : am_P "FlowFabricModel" "<init>" 11 14 (.array .int) := ⟨am_qM, rfl, by decide +kernel, Or.inr ⟨rfl, rfl, rfl⟩⟩
theorem f_M_41 : am_F "FlowFabricModel" 41 11 15 := ⟨am_qM, "FlowFabricModel", rfl, by decide, Or.inl (am_in4 118 rfl rfl), Or.inl rfl⟩
theorem p_M_41 : am_P "FlowFabricModel" "<init>" 11 15 (.array .int) := ⟨am_qM, rfl, by decide +kernel, Or.inr ⟨rfl, rfl, rfl⟩⟩
theorem f_M_44 : am_F "FlowFabricModel" 44 11 16 := ⟨am_qM, "FlowFabricModel", rfl, by decide, Or.inl (am_in4 119 rfl rfl), Or.inl rfl⟩
theorem p_M_44 : am_P "FlowFabricModel" "<init>" 11 16 (.array .int) := ⟨am_qM, rfl, by decide +kernel, Or.inr ⟨rfl, rfl, rfl⟩⟩
theorem f_M_47 : am_F "FlowFabricModel" 47 11 17 := ⟨am_qM, "FlowFabricModel", rfl, by decide, Or.inl (am_in4 120 rfl rfl), Or.inl rfl⟩
theorem p_M_47 : am_P "FlowFabricModel" "<init>" 11 17 (.array .int) := ⟨am_qM, rfl, by decide +kernel, Or.inr ⟨rfl, rfl, rfl⟩⟩
theorem f_M_50 : am_F "FlowFabricModel" 50 11 18 := ⟨am_qM, "FlowFabricModel", rfl, by decide, Or.inl (am_in4 121 rfl rfl), Or.inl rfl⟩
theorem p_M_50 : am_P "FlowFabricModel" "<init>" 11 18 (.array .int) := ⟨am_qM, rfl, by decide +kernel, Or.inr ⟨rfl, rfl, rfl⟩⟩
theorem f_M_53 : am_F "FlowFabricModel" 53 11 19 := ⟨am_qM, "FlowFabricModel", rfl, by decide, Or.inl (am_in4 122 rfl rfl), Or.inl rfl⟩
theorem p_M_53 : am_P "FlowFabricModel" "<init>" 11 19 (.array .int) := ⟨am_qM, rfl, by decide +kernel, Or.inr ⟨rfl, rfl, rfl⟩⟩
theorem f_M_56 : am_F "FlowFabricModel" 56 11 20 := ⟨am_qM, "FlowFabricModel", rfl, by decide, Or.inl (am_in4 123 rfl rfl), Or.inl rfl⟩
theorem p_M_56 : am_P "FlowFabricModel" "<init>" 11 20 (.array .int) := ⟨am_qM, rfl, by decide +kernel, Or.inr ⟨rfl, rfl, rfl⟩⟩
theorem f_M_59 : am_F "FlowFabricModel" 59 11 21 := ⟨am_qM, "FlowFabricModel", rfl, by decide, Or.inl (am_in4 124 rfl rfl), Or.inl rfl⟩
theorem p_M_59 : am_P "FlowFabricModel" "<init>" 11 21 (.array .int) := ⟨am_qM, rfl, by decide +kernel, Or.inr ⟨rfl, rfl, rfl⟩⟩
theorem f_M_62 : am_F "FlowFabricModel" 62 11 22 := ⟨am_qM, "FlowFabricModel", rfl, by decide, Or.inl (am_in4 125 rfl rfl), Or.inl rfl⟩
theorem p_M_62 : am_P "FlowFabricModel" "<init>" 11 22 (.array .int) := ⟨am_qM, rfl, by decide +kernel, Or.inr ⟨rfl, rfl, rfl⟩⟩
theorem f_M_65 : am_F "FlowFabricModel" 65 11 23 := ⟨am_qM, "FlowFabricModel", rfl, by decide, Or.inl (am_in4 126 rfl rfl), Or.inl rfl⟩
theorem p_M_65 : am_P "FlowFabricModel" "<init>" 11 23 (.array .int) := ⟨am_qM, rfl, by decide +kernel, Or.inr ⟨rfl, rfl, rfl⟩⟩
theorem f_M_68 : am_F "FlowFabricModel" 68 11 24 := ⟨am_qM, "FlowFabricModel", rfl, by decide, Or.inl (am_in4 127 rfl rfl), Or.inl rfl⟩
theorem p_M_68 : am_P "FlowFabricModel" "<init>" 11 24 (.array .int) := ⟨am_qM, rfl, by decide +kernel, Or.inr ⟨rfl, rfl, rfl⟩⟩
theorem f_M_71 : am_F "FlowFabricModel" 71 11 25 := ⟨am_qM, "FlowFabricModel", rfl, by decide, Or.inl (am_in4 128 rfl rfl), Or.inl rfl⟩
theorem p_M_71 : am_P "FlowFabricModel" "<init>" 11 25 (.array .int) := ⟨am_qM, rfl, by decide +kernel, Or.inr ⟨rfl, rfl, rfl⟩⟩
theorem f_M_74 : am_F "FlowFabricModel" 74 11 26 := ⟨am_qM, "FlowFabricModel", rfl, by decide, Or.inl (am_in4 129 rfl rfl), Or.inl rfl⟩
theorem p_M_74 : am_P "FlowFabricModel" "<init>" 11 26 (.array .int) := ⟨am_qM, rfl, by decide +kernel, Or.inr ⟨rfl, rfl, rfl⟩⟩
theorem f_M_77 : am_F "FlowFabricModel" 77 11 27 := ⟨am_qM, "FlowFabricModel", rfl, by decide, Or.inl (am_in4 130 rfl rfl), Or.inl rfl⟩
theorem p_M_77 : am_P "FlowFabricModel" "<init>" 11 27 (.array .int) := ⟨am_qM, rfl, by decide +kernel, Or.inr ⟨rfl, rfl, rfl⟩⟩
theorem f_M_80 : am_F "FlowFabricModel" 80 11 28 := ⟨am_qM, "FlowFabricModel", rfl, by decide, Or.inl (am_in4 131 rfl rfl), Or.inl rfl⟩
theorem p_M_80 : am_P "FlowFabricModel" "<init>" 11 28 (.array .int) := ⟨am_qM, rfl, by decide +kernel, Or.inr ⟨rfl, rfl, rfl⟩⟩
theorem f_M_83 : am_F "FlowFabricModel" 83 11 29 := ⟨am_qM, "FlowFabricModel", rfl, by decide, Or.inl (am_in4 132 rfl rfl), Or.inl rfl⟩
theorem p_M_83 : am_P "FlowFabricModel" "<init>" 11 29 (.array .boolean) := ⟨am_qM, rfl, by decide +kernel, Or.inr ⟨rfl, rfl, rfl⟩⟩
theorem f_M_86 : am_F "FlowFabricModel" 86 11 30 := ⟨am_qM, "FlowFabricModel", rfl, by decide, Or.inl (am_in4 133 rfl rfl), Or.inl rfl⟩
theorem p_M_86 : am_P "FlowFabricModel" "<init>" 11 30 (.array .int) := ⟨am_qM, rfl, by decide +kernel, Or.inr ⟨rfl, rfl, rfl⟩⟩
theorem f_M_89 : am_F "FlowFabricModel" 89 11 33 := ⟨am_qM, "FlowFabricModel", rfl, by decide, Or.inl (am_in4 136 rfl rfl), Or.inl rfl⟩
theorem p_M_89 : am_P "FlowFabricModel" "<init>" 11 33 (.array .int) := ⟨am_qM, rfl, by decide +kernel, Or.inr ⟨rfl, rfl, rfl⟩⟩
theorem f_M_92 : am_F "FlowFabricModel" 92 11 34 := ⟨am_qM, "FlowFabricModel", rfl, by decide, Or.inl (am_in4 137 rfl rfl), Or.inl rfl⟩
theorem p_M_92 : am_P "FlowFabricModel" "<init>" 11 34 (.array .int) := ⟨am_qM, rfl, by decide +kernel, Or.inr ⟨rfl, rfl, rfl⟩⟩
theorem f_M_95 : am_F "FlowFabricModel" 95 11 35 := ⟨am_qM, "FlowFabricModel", rfl, by decide, Or.inl (am_in4 138 rfl rfl), Or.inl rfl⟩
theorem p_M_95 : am_P "FlowFabricModel" "<init>" 11 35 (.array .int) := ⟨am_qM, rfl, by decide +kernel, Or.inr ⟨rfl, rfl, rfl⟩⟩
theorem f_M_98 : am_F "FlowFabricModel" 98 11 36 := ⟨am_qM, "FlowFabricModel", rfl, by decide, Or.inl (am_in4 139 rfl rfl), Or.inl rfl⟩
theorem p_M_98 : am_P "FlowFabricModel" "<init>" 11 36 (.array .int) := ⟨am_qM, rfl, by decide +kernel, Or.inr ⟨rfl, rfl, rfl⟩⟩
theorem f_M_101 : am_F "FlowFabricModel" 101 11 37 := ⟨am_qM, "FlowFabricModel", rfl, by decide, Or.inl (am_in4 140 rfl rfl), Or.inl rfl⟩
theorem p_M_101 : am_P "FlowFabricModel" "<init>" 11 37 (.array .int) := ⟨am_qM, rfl, by decide +kernel, Or.inr ⟨rfl, rfl, rfl⟩⟩
theorem f_M_104 : am_F "FlowFabricModel" 104 11 38 := ⟨am_qM, "FlowFabricModel", rfl, by decide, Or.inl (am_in4 141 rfl rfl), Or.inl rfl⟩
theorem p_M_104 : am_P "FlowFabricModel" "<init>" 11 38 (.array .int) := ⟨am_qM, rfl, by decide +kernel, Or.inr ⟨rfl, rfl, rfl⟩⟩
theorem f_M_107 : am_F "FlowFabricModel" 107 11 39 := ⟨am_qM, "FlowFabricModel", rfl, by decide, Or.inl (am_in4 142 rfl rfl), Or.inl rfl⟩
theorem p_M_107 : am_P "FlowFabricModel" "<init>" 11 39 (.array .int) := ⟨am_qM, rfl, by decide +kernel, Or.inr ⟨rfl, rfl, rfl⟩⟩
theorem f_M_110 : am_F "FlowFabricModel" 110 11 40 := ⟨am_qM, "FlowFabricModel", rfl, by decide, Or.inl (am_in4 143 rfl rfl), Or.inl rfl⟩
theorem p_M_110 : am_P "FlowFabricModel" "<init>" 11 40 (.array .boolean) := ⟨am_qM, rfl, by decide +kernel, Or.inr ⟨rfl, rfl, rfl⟩⟩
theorem f_M_113 : am_F "FlowFabricModel" 113 11 41 := ⟨am_qM, "FlowFabricModel", rfl, by decide, Or.inl (am_in4 144 rfl rfl), Or.inl rfl⟩
theorem p_M_113 : am_P "FlowFabricModel" "<init>" 11 41 (.array .int) := ⟨am_qM, rfl, by decide +kernel, Or.inr ⟨rfl, rfl, rfl⟩⟩
theorem f_M_116 : am_F "FlowFabricModel" 116 11 43 := ⟨am_qM, "FlowFabricModel", rfl, by decide, Or.inl (am_in4 146 rfl rfl), Or.inl rfl⟩
theorem p_M_116 : am_P "FlowFabricModel" "<init>" 11 43 (.array .int) := ⟨am_qM, rfl, by decide +kernel, Or.inr ⟨rfl, rfl, rfl⟩⟩
theorem s_M_119 : am_CS "FlowFabricModel" 119 y_M_between "(III)I" 3 := ⟨⟨am_in4 102 rfl rfl, am_in1 10 rfl rfl, by decide, by decide, by decide +kernel⟩, Or.inl (am_in4 100 rfl rfl), am_in4 101 rfl rfl⟩
theorem f_M_123 : am_F "FlowFabricModel" 123 11 0 := ⟨am_qM, "FlowFabricModel", rfl, by decide, Or.inl (am_in4 103 rfl rfl), Or.inl rfl⟩
theorem p_M_123 : am_P "FlowFabricModel" "<init>" 11 0 .int := ⟨am_qM, rfl, by decide +kernel, Or.inr ⟨rfl, rfl, rfl⟩⟩
theorem f_M_127 : am_F "FlowFabricModel" 127 11 1 := ⟨am_qM, "FlowFabricModel", rfl, by decide, Or.inl (am_in4 104 rfl rfl), Or.inl rfl⟩
theorem p_M_127 : am_P "FlowFabricModel" "<init>" 11 1 .int := ⟨am_qM, rfl, by decide +kernel, Or.inr ⟨rfl, rfl, rfl⟩⟩
theorem f_M_130 : am_F "FlowFabricModel" 130 11 2 := ⟨am_qM, "FlowFabricModel", rfl, by decide, Or.inl (am_in4 105 rfl rfl), Or.inl rfl⟩
theorem p_M_130 : am_P "FlowFabricModel" "<init>" 11 2 .int := ⟨am_qM, rfl, by decide +kernel, Or.inr ⟨rfl, rfl, rfl⟩⟩
theorem v_M_140 : am_CV "FlowFabricModel" 140 y_M_isPort "(II)Z" 2 11 := ⟨⟨am_in5 3 rfl rfl, am_in1 10 rfl rfl, by decide, by decide, by decide +kernel⟩, Or.inl (am_in5 0 rfl rfl), am_in5 2 rfl rfl, am_qM, rfl, am_inS (List.mem_of_getElem? (i := 31) rfl) rfl⟩
theorem f_M_137 : am_F "FlowFabricModel" 137 11 7 := ⟨am_qM, "FlowFabricModel", rfl, by decide, Or.inl (am_in4 110 rfl rfl), Or.inl rfl⟩
theorem p_M_137 (nm : String) : am_P "FlowFabricModel" nm 11 7 .int := ⟨am_qM, rfl, by decide +kernel, Or.inl rfl⟩
theorem v_M_133 : am_CV "FlowFabricModel" 133 y_M_isSwitch "(I)Z" 1 11 := ⟨⟨am_in5 7 rfl rfl, am_in1 10 rfl rfl, by decide, by decide, by decide +kernel⟩, Or.inl (am_in5 4 rfl rfl), am_in5 6 rfl rfl, am_qM, rfl, am_inS (List.mem_of_getElem? (i := 32) rfl) rfl⟩
theorem v_M_144 : am_CV "FlowFabricModel" 144 y_M_join "(II)V" 2 11 := ⟨⟨am_in5 15 rfl rfl, am_in1 10 rfl rfl, by decide, by decide, by decide +kernel⟩, Or.inl (am_in5 12 rfl rfl), am_in5 14 rfl rfl, am_qM, rfl, am_inS (List.mem_of_getElem? (i := 33) rfl) rfl⟩
theorem v_M_148 : am_CV "FlowFabricModel" 148 y_M_tell "(IIIIII)V" 6 11 := ⟨⟨am_in5 23 rfl rfl, am_in1 10 rfl rfl, by decide, by decide, by decide +kernel⟩, Or.inl (am_in5 20 rfl rfl), am_in5 22 rfl rfl, am_qM, rfl, am_inS (List.mem_of_getElem? (i := 34) rfl) rfl⟩
theorem v_M_155 : am_CV "FlowFabricModel" 155 y_M_add "(IIIIII)V" 6 11 := ⟨⟨am_in5 27 rfl rfl, am_in1 10 rfl rfl, by decide, by decide, by decide +kernel⟩, Or.inl (am_in5 24 rfl rfl), am_in5 26 rfl rfl, am_qM, rfl, am_inS (List.mem_of_getElem? (i := 35) rfl) rfl⟩
theorem v_M_152 : am_CV "FlowFabricModel" 152 y_M_isGuard "(II)Z" 2 11 := ⟨⟨am_in5 39 rfl rfl, am_in1 10 rfl rfl, by decide, by decide, by decide +kernel⟩, Or.inl (am_in5 36 rfl rfl), am_in5 38 rfl rfl, am_qM, rfl, am_inS (List.mem_of_getElem? (i := 36) rfl) rfl⟩
theorem v_M_177 : am_CV "FlowFabricModel" 177 y_M_isHost "(I)Z" 1 11 := ⟨⟨am_in5 51 rfl rfl, am_in1 10 rfl rfl, by decide, by decide, by decide +kernel⟩, Or.inl (am_in5 48 rfl rfl), am_in5 50 rfl rfl, am_qM, rfl, am_inS (List.mem_of_getElem? (i := 37) rfl) rfl⟩
theorem v_M_180 : am_CV "FlowFabricModel" 180 y_M_comesIn "(IIIII)V" 5 11 := ⟨⟨am_in5 55 rfl rfl, am_in1 10 rfl rfl, by decide, by decide, by decide +kernel⟩, Or.inl (am_in5 52 rfl rfl), am_in5 54 rfl rfl, am_qM, rfl, am_inS (List.mem_of_getElem? (i := 38) rfl) rfl⟩
theorem s_M_158 : am_CS "FlowFabricModel" 158 y_M_matches "(IIII)Z" 4 := ⟨⟨am_in5 58 rfl rfl, am_in1 10 rfl rfl, by decide, by decide, by decide +kernel⟩, Or.inl (am_in5 56 rfl rfl), am_in5 57 rfl rfl⟩
theorem v_M_162 : am_CV "FlowFabricModel" 162 y_M_out "(IIII)V" 4 11 := ⟨⟨am_in5 62 rfl rfl, am_in1 10 rfl rfl, by decide, by decide, by decide +kernel⟩, Or.inl (am_in5 59 rfl rfl), am_in5 61 rfl rfl, am_qM, rfl, am_inS (List.mem_of_getElem? (i := 39) rfl) rfl⟩
theorem v_M_166 : am_CV "FlowFabricModel" 166 y_M_toRules "(IIIII)V" 5 11 := ⟨⟨am_in5 66 rfl rfl, am_in1 10 rfl rfl, by decide, by decide, by decide +kernel⟩, Or.inl (am_in5 63 rfl rfl), am_in5 65 rfl rfl, am_qM, rfl, am_inS (List.mem_of_getElem? (i := 40) rfl) rfl⟩
theorem v_M_170 : am_CV "FlowFabricModel" 170 y_M_ruleAt "(II)I" 2 11 := ⟨⟨am_in5 70 rfl rfl, am_in1 10 rfl rfl, by decide, by decide, by decide +kernel⟩, Or.inl (am_in5 67 rfl rfl), am_in5 69 rfl rfl, am_qM, rfl, am_inS (List.mem_of_getElem? (i := 41) rfl) rfl⟩
theorem f_M_174 : am_F "FlowFabricModel" 174 11 3 := ⟨am_qM, "FlowFabricModel", rfl, by decide, Or.inl (am_in4 106 rfl rfl), Or.inl rfl⟩
theorem v_M_186 : am_CV "FlowFabricModel" 186 y_M_take "(I)V" 1 11 := ⟨⟨am_in5 82 rfl rfl, am_in1 10 rfl rfl, by decide, by decide, by decide +kernel⟩, Or.inl (am_in5 79 rfl rfl), am_in5 81 rfl rfl, am_qM, rfl, am_inS (List.mem_of_getElem? (i := 42) rfl) rfl⟩
theorem v_M_190 : am_CV "FlowFabricModel" 190 y_M_put "(III)V" 3 11 := ⟨⟨am_in5 86 rfl rfl, am_in1 10 rfl rfl, by decide, by decide, by decide +kernel⟩, Or.inl (am_in5 83 rfl rfl), am_in5 85 rfl rfl, am_qM, rfl, am_inS (List.mem_of_getElem? (i := 43) rfl) rfl⟩
theorem v_M_183 : am_CV "FlowFabricModel" 183 y_M_removeRule "(II)V" 2 11 := ⟨⟨am_in5 90 rfl rfl, am_in1 10 rfl rfl, by decide, by decide, by decide +kernel⟩, Or.inl (am_in5 87 rfl rfl), am_in5 89 rfl rfl, am_qM, rfl, am_inS (List.mem_of_getElem? (i := 44) rfl) rfl⟩
theorem v_M_194 : am_CV "FlowFabricModel" 194 y_M_order "(IIIIII)V" 6 11 := ⟨⟨am_in5 98 rfl rfl, am_in1 10 rfl rfl, by decide, by decide, by decide +kernel⟩, Or.inl (am_in5 95 rfl rfl), am_in5 97 rfl rfl, am_qM, rfl, am_inS (List.mem_of_getElem? (i := 45) rfl) rfl⟩
theorem p_M_174 (nm : String) : am_P "FlowFabricModel" nm 11 3 .int := ⟨am_qM, rfl, by decide +kernel, Or.inl rfl⟩
theorem v_M_215 : am_CV "FlowFabricModel" 215 y_M_missed "(IIIII)V" 5 11 := ⟨⟨am_in5 110 rfl rfl, am_in1 10 rfl rfl, by decide, by decide, by decide +kernel⟩, Or.inl (am_in5 107 rfl rfl), am_in5 109 rfl rfl, am_qM, rfl, am_inS (List.mem_of_getElem? (i := 46) rfl) rfl⟩
theorem v_M_218 : am_CV "FlowFabricModel" 218 y_M_seen "(II)V" 2 11 := ⟨⟨am_in5 150 rfl rfl, am_in1 10 rfl rfl, by decide, by decide, by decide +kernel⟩, Or.inl (am_in5 147 rfl rfl), am_in5 149 rfl rfl, am_qM, rfl, am_inS (List.mem_of_getElem? (i := 56) rfl) rfl⟩
theorem v_M_221 : am_CV "FlowFabricModel" 221 y_M_done "(I)V" 1 11 := ⟨⟨am_in5 158 rfl rfl, am_in1 10 rfl rfl, by decide, by decide, by decide +kernel⟩, Or.inl (am_in5 155 rfl rfl), am_in5 157 rfl rfl, am_qM, rfl, am_inS (List.mem_of_getElem? (i := 58) rfl) rfl⟩
theorem v_M_224 : am_CV "FlowFabricModel" 224 y_M_down "(I)V" 1 11 := ⟨⟨am_in5 174 rfl rfl, am_in1 10 rfl rfl, by decide, by decide, by decide +kernel⟩, Or.inl (am_in5 171 rfl rfl), am_in5 173 rfl rfl, am_qM, rfl, am_inS (List.mem_of_getElem? (i := 62) rfl) rfl⟩
theorem v_M_227 : am_CV "FlowFabricModel" 227 y_M_courseOf "(I)I" 1 11 := ⟨⟨am_in5 114 rfl rfl, am_in1 10 rfl rfl, by decide, by decide, by decide +kernel⟩, Or.inl (am_in5 111 rfl rfl), am_in5 113 rfl rfl, am_qM, rfl, am_inS (List.mem_of_getElem? (i := 47) rfl) rfl⟩
theorem v_M_231 : am_CV "FlowFabricModel" 231 y_M_clear "(I)V" 1 11 := ⟨⟨am_in5 122 rfl rfl, am_in1 10 rfl rfl, by decide, by decide, by decide +kernel⟩, Or.inl (am_in5 119 rfl rfl), am_in5 121 rfl rfl, am_qM, rfl, am_inS (List.mem_of_getElem? (i := 49) rfl) rfl⟩
theorem v_M_234 : am_CV "FlowFabricModel" 234 y_M_passes "(II)Z" 2 11 := ⟨⟨am_in5 178 rfl rfl, am_in1 10 rfl rfl, by decide, by decide, by decide +kernel⟩, Or.inl (am_in5 175 rfl rfl), am_in5 177 rfl rfl, am_qM, rfl, am_inS (List.mem_of_getElem? (i := 63) rfl) rfl⟩
theorem v_M_237 : am_CV "FlowFabricModel" 237 y_M_keep "(II)V" 2 11 := ⟨⟨am_in5 118 rfl rfl, am_in1 10 rfl rfl, by decide, by decide, by decide +kernel⟩, Or.inl (am_in5 115 rfl rfl), am_in5 117 rfl rfl, am_qM, rfl, am_inS (List.mem_of_getElem? (i := 48) rfl) rfl⟩
theorem v_M_240 : am_CV "FlowFabricModel" 240 y_M_flood "(IIIII)V" 5 11 := ⟨⟨am_in5 126 rfl rfl, am_in1 10 rfl rfl, by decide, by decide, by decide +kernel⟩, Or.inl (am_in5 123 rfl rfl), am_in5 125 rfl rfl, am_qM, rfl, am_inS (List.mem_of_getElem? (i := 50) rfl) rfl⟩
theorem f_M_206 : am_F "FlowFabricModel" 206 11 32 := ⟨am_qM, "FlowFabricModel", rfl, by decide, Or.inl (am_in4 135 rfl rfl), Or.inl rfl⟩
theorem v_M_243 : am_CV "FlowFabricModel" 243 y_M_search "(I)Z" 1 11 := ⟨⟨am_in5 130 rfl rfl, am_in1 10 rfl rfl, by decide, by decide, by decide +kernel⟩, Or.inl (am_in5 127 rfl rfl), am_in5 129 rfl rfl, am_qM, rfl, am_inS (List.mem_of_getElem? (i := 51) rfl) rfl⟩
theorem p_M_206 (nm : String) : am_P "FlowFabricModel" nm 11 32 .int := ⟨am_qM, rfl, by decide +kernel, Or.inl rfl⟩
theorem v_M_246 : am_CV "FlowFabricModel" 246 y_M_lay "(I)V" 1 11 := ⟨⟨am_in5 142 rfl rfl, am_in1 10 rfl rfl, by decide, by decide, by decide +kernel⟩, Or.inl (am_in5 139 rfl rfl), am_in5 141 rfl rfl, am_qM, rfl, am_inS (List.mem_of_getElem? (i := 54) rfl) rfl⟩
theorem f_M_209 : am_F "FlowFabricModel" 209 11 31 := ⟨am_qM, "FlowFabricModel", rfl, by decide, Or.inl (am_in4 134 rfl rfl), Or.inl rfl⟩
theorem p_M_209 (nm : String) : am_P "FlowFabricModel" nm 11 31 .int := ⟨am_qM, rfl, by decide +kernel, Or.inl rfl⟩
theorem f_M_200 : am_F "FlowFabricModel" 200 11 42 := ⟨am_qM, "FlowFabricModel", rfl, by decide, Or.inl (am_in4 145 rfl rfl), Or.inl rfl⟩
theorem p_M_200 (nm : String) : am_P "FlowFabricModel" nm 11 42 .int := ⟨am_qM, rfl, by decide +kernel, Or.inl rfl⟩
theorem v_M_203 : am_CV "FlowFabricModel" 203 y_M_isWay "(IIII)Z" 4 11 := ⟨⟨am_in5 134 rfl rfl, am_in1 10 rfl rfl, by decide, by decide, by decide +kernel⟩, Or.inl (am_in5 131 rfl rfl), am_in5 133 rfl rfl, am_qM, rfl, am_inS (List.mem_of_getElem? (i := 52) rfl) rfl⟩
theorem v_M_197 : am_CV "FlowFabricModel" 197 y_M_leads "(II)I" 2 11 := ⟨⟨am_in5 138 rfl rfl, am_in1 10 rfl rfl, by decide, by decide, by decide +kernel⟩, Or.inl (am_in5 135 rfl rfl), am_in5 137 rfl rfl, am_qM, rfl, am_inS (List.mem_of_getElem? (i := 53) rfl) rfl⟩
theorem v_M_212 : am_CV "FlowFabricModel" 212 y_M_lead "(II)V" 2 11 := ⟨⟨am_in5 146 rfl rfl, am_in1 10 rfl rfl, by decide, by decide, by decide +kernel⟩, Or.inl (am_in5 143 rfl rfl), am_in5 145 rfl rfl, am_qM, rfl, am_inS (List.mem_of_getElem? (i := 55) rfl) rfl⟩
theorem v_M_249 : am_CV "FlowFabricModel" 249 y_M_portOf "(II)I" 2 11 := ⟨⟨am_in5 154 rfl rfl, am_in1 10 rfl rfl, by decide, by decide, by decide +kernel⟩, Or.inl (am_in5 151 rfl rfl), am_in5 153 rfl rfl, am_qM, rfl, am_inS (List.mem_of_getElem? (i := 57) rfl) rfl⟩
theorem v_M_252 : am_CV "FlowFabricModel" 252 y_M_cleared "(I)V" 1 11 := ⟨⟨am_in5 162 rfl rfl, am_in1 10 rfl rfl, by decide, by decide, by decide +kernel⟩, Or.inl (am_in5 159 rfl rfl), am_in5 161 rfl rfl, am_qM, rfl, am_inS (List.mem_of_getElem? (i := 59) rfl) rfl⟩
theorem v_M_255 : am_CV "FlowFabricModel" 255 y_M_led "(I)V" 1 11 := ⟨⟨am_in5 170 rfl rfl, am_in1 10 rfl rfl, by decide, by decide, by decide +kernel⟩, Or.inl (am_in5 167 rfl rfl), am_in5 169 rfl rfl, am_qM, rfl, am_inS (List.mem_of_getElem? (i := 61) rfl) rfl⟩
theorem v_M_258 : am_CV "FlowFabricModel" 258 y_M_drop "(I)V" 1 11 := ⟨⟨am_in5 166 rfl rfl, am_in1 10 rfl rfl, by decide, by decide, by decide +kernel⟩, Or.inl (am_in5 163 rfl rfl), am_in5 165 rfl rfl, am_qM, rfl, am_inS (List.mem_of_getElem? (i := 60) rfl) rfl⟩
end
section
theorem d_Mt_min_0 : am_D y_Mt_min.2.2.1 0 (.iload_n 0) 1 1 := ⟨by decide +kernel, rfl⟩
theorem d_Mt_min_1 : am_D y_Mt_min.2.2.1 1 (.iload_n 1) 1 2 := ⟨by decide +kernel, rfl⟩
theorem d_Mt_min_2 : am_D y_Mt_min.2.2.1 2 (.if_icmp .gt 7) 3 5 := ⟨by decide +kernel, rfl⟩
theorem d_Mt_min_5 : am_D y_Mt_min.2.2.1 5 (.iload_n 0) 1 6 := ⟨by decide +kernel, rfl⟩
theorem d_Mt_min_6 : am_D y_Mt_min.2.2.1 6 (.goto 4) 3 9 := ⟨by decide +kernel, rfl⟩
theorem d_Mt_min_9 : am_D y_Mt_min.2.2.1 9 (.iload_n 1) 1 10 := ⟨by decide +kernel, rfl⟩
theorem d_Mt_min_10 : am_D y_Mt_min.2.2.1 10 (.ireturn) 1 11 := ⟨by decide +kernel, rfl⟩
theorem d_Mt_max_0 : am_D y_Mt_max.2.2.1 0 (.iload_n 0) 1 1 := ⟨by decide +kernel, rfl⟩
theorem d_Mt_max_1 : am_D y_Mt_max.2.2.1 1 (.iload_n 1) 1 2 := ⟨by decide +kernel, rfl⟩
theorem d_Mt_max_2 : am_D y_Mt_max.2.2.1 2 (.if_icmp .lt 7) 3 5 := ⟨by decide +kernel, rfl⟩
theorem d_Mt_max_5 : am_D y_Mt_max.2.2.1 5 (.iload_n 0) 1 6 := ⟨by decide +kernel, rfl⟩
theorem d_Mt_max_6 : am_D y_Mt_max.2.2.1 6 (.goto 4) 3 9 := ⟨by decide +kernel, rfl⟩
theorem d_Mt_max_9 : am_D y_Mt_max.2.2.1 9 (.iload_n 1) 1 10 := ⟨by decide +kernel, rfl⟩
theorem d_Mt_max_10 : am_D y_Mt_max.2.2.1 10 (.ireturn) 1 11 := ⟨by decide +kernel, rfl⟩
theorem d_AL_new_0 : am_D y_AL_new.2.2.1 0 (.aload_n 0) 1 1 := ⟨by decide +kernel, rfl⟩
theorem d_AL_new_1 : am_D y_AL_new.2.2.1 1 (.invokespecial 1) 3 4 := ⟨by decide +kernel, rfl⟩
theorem d_AL_new_4 : am_D y_AL_new.2.2.1 4 (.aload_n 0) 1 5 := ⟨by decide +kernel, rfl⟩
theorem d_AL_new_5 : am_D y_AL_new.2.2.1 5 (.getstatic 39) 3 8 := ⟨by decide +kernel, rfl⟩
theorem d_AL_new_8 : am_D y_AL_new.2.2.1 8 (.putfield 9) 3 11 := ⟨by decide +kernel, rfl⟩
theorem d_AL_new_11 : am_D y_AL_new.2.2.1 11 (.return_) 1 12 := ⟨by decide +kernel, rfl⟩
theorem d_Al_new_0 : am_D y_Al_new.2.2.1 0 (.aload_n 0) 1 1 := ⟨by decide +kernel, rfl⟩
theorem d_Al_new_1 : am_D y_Al_new.2.2.1 1 (.invokespecial 1) 3 4 := ⟨by decide +kernel, rfl⟩
theorem d_Al_new_4 : am_D y_Al_new.2.2.1 4 (.aload_n 0) 1 5 := ⟨by decide +kernel, rfl⟩
theorem d_Al_new_5 : am_D y_Al_new.2.2.1 5 (.iconst 0) 1 6 := ⟨by decide +kernel, rfl⟩
theorem d_Al_new_6 : am_D y_Al_new.2.2.1 6 (.putfield 7) 3 9 := ⟨by decide +kernel, rfl⟩
theorem d_Al_new_9 : am_D y_Al_new.2.2.1 9 (.return_) 1 10 := ⟨by decide +kernel, rfl⟩
theorem d_Ac_new_0 : am_D y_Ac_new.2.2.1 0 (.aload_n 0) 1 1 := ⟨by decide +kernel, rfl⟩
theorem d_Ac_new_1 : am_D y_Ac_new.2.2.1 1 (.invokespecial 1) 3 4 := ⟨by decide +kernel, rfl⟩
theorem d_Ac_new_4 : am_D y_Ac_new.2.2.1 4 (.return_) 1 5 := ⟨by decide +kernel, rfl⟩
theorem d_As_fill_0 : am_D y_As_fill.2.2.1 0 (.iconst 0) 1 1 := ⟨by decide +kernel, rfl⟩
theorem d_As_fill_1 : am_D y_As_fill.2.2.1 1 (.istore_n 2) 1 2 := ⟨by decide +kernel, rfl⟩
theorem d_As_fill_2 : am_D y_As_fill.2.2.1 2 (.aload_n 0) 1 3 := ⟨by decide +kernel, rfl⟩
theorem d_As_fill_3 : am_D y_As_fill.2.2.1 3 (.arraylength) 1 4 := ⟨by decide +kernel, rfl⟩
theorem d_As_fill_4 : am_D y_As_fill.2.2.1 4 (.istore_n 3) 1 5 := ⟨by decide +kernel, rfl⟩
theorem d_As_fill_5 : am_D y_As_fill.2.2.1 5 (.iload_n 2) 1 6 := ⟨by decide +kernel, rfl⟩
theorem d_As_fill_6 : am_D y_As_fill.2.2.1 6 (.iload_n 3) 1 7 := ⟨by decide +kernel, rfl⟩
theorem d_As_fill_7 : am_D y_As_fill.2.2.1 7 (.if_icmp .ge 13) 3 10 := ⟨by decide +kernel, rfl⟩
theorem d_As_fill_10 : am_D y_As_fill.2.2.1 10 (.aload_n 0) 1 11 := ⟨by decide +kernel, rfl⟩
theorem d_As_fill_11 : am_D y_As_fill.2.2.1 11 (.iload_n 2) 1 12 := ⟨by decide +kernel, rfl⟩
theorem d_As_fill_12 : am_D y_As_fill.2.2.1 12 (.iload_n 1) 1 13 := ⟨by decide +kernel, rfl⟩
theorem d_As_fill_13 : am_D y_As_fill.2.2.1 13 (.iastore) 1 14 := ⟨by decide +kernel, rfl⟩
theorem d_As_fill_14 : am_D y_As_fill.2.2.1 14 (.iinc 2 1) 3 17 := ⟨by decide +kernel, rfl⟩
theorem d_As_fill_17 : am_D y_As_fill.2.2.1 17 (.goto (-12)) 3 20 := ⟨by decide +kernel, rfl⟩
theorem d_As_fill_20 : am_D y_As_fill.2.2.1 20 (.return_) 1 21 := ⟨by decide +kernel, rfl⟩
theorem d_AL_size_0 : am_D y_AL_size.2.2.1 0 (.aload_n 0) 1 1 := ⟨by decide +kernel, rfl⟩
theorem d_AL_size_1 : am_D y_AL_size.2.2.1 1 (.getfield 48) 3 4 := ⟨by decide +kernel, rfl⟩
theorem d_AL_size_4 : am_D y_AL_size.2.2.1 4 (.ireturn) 1 5 := ⟨by decide +kernel, rfl⟩
theorem d_AL_clear_0 : am_D y_AL_clear.2.2.1 0 (.aload_n 0) 1 1 := ⟨by decide +kernel, rfl⟩
theorem d_AL_clear_1 : am_D y_AL_clear.2.2.1 1 (.dup) 1 2 := ⟨by decide +kernel, rfl⟩
theorem d_AL_clear_2 : am_D y_AL_clear.2.2.1 2 (.getfield 63) 3 5 := ⟨by decide +kernel, rfl⟩
theorem d_AL_clear_5 : am_D y_AL_clear.2.2.1 5 (.iconst 1) 1 6 := ⟨by decide +kernel, rfl⟩
theorem d_AL_clear_6 : am_D y_AL_clear.2.2.1 6 (.iadd) 1 7 := ⟨by decide +kernel, rfl⟩
theorem d_AL_clear_7 : am_D y_AL_clear.2.2.1 7 (.putfield 63) 3 10 := ⟨by decide +kernel, rfl⟩
theorem d_AL_clear_10 : am_D y_AL_clear.2.2.1 10 (.aload_n 0) 1 11 := ⟨by decide +kernel, rfl⟩
theorem d_AL_clear_11 : am_D y_AL_clear.2.2.1 11 (.getfield 9) 3 14 := ⟨by decide +kernel, rfl⟩
theorem d_AL_clear_14 : am_D y_AL_clear.2.2.1 14 (.astore_n 1) 1 15 := ⟨by decide +kernel, rfl⟩
theorem d_AL_clear_15 : am_D y_AL_clear.2.2.1 15 (.aload_n 0) 1 16 := ⟨by decide +kernel, rfl⟩
theorem d_AL_clear_16 : am_D y_AL_clear.2.2.1 16 (.getfield 48) 3 19 := ⟨by decide +kernel, rfl⟩
theorem d_AL_clear_19 : am_D y_AL_clear.2.2.1 19 (.istore_n 2) 1 20 := ⟨by decide +kernel, rfl⟩
theorem d_AL_clear_20 : am_D y_AL_clear.2.2.1 20 (.aload_n 0) 1 21 := ⟨by decide +kernel, rfl⟩
theorem d_AL_clear_21 : am_D y_AL_clear.2.2.1 21 (.iconst 0) 1 22 := ⟨by decide +kernel, rfl⟩
theorem d_AL_clear_22 : am_D y_AL_clear.2.2.1 22 (.dup_x1) 1 23 := ⟨by decide +kernel, rfl⟩
theorem d_AL_clear_23 : am_D y_AL_clear.2.2.1 23 (.putfield 48) 3 26 := ⟨by decide +kernel, rfl⟩
theorem d_AL_clear_26 : am_D y_AL_clear.2.2.1 26 (.istore_n 3) 1 27 := ⟨by decide +kernel, rfl⟩
theorem d_AL_clear_27 : am_D y_AL_clear.2.2.1 27 (.iload_n 3) 1 28 := ⟨by decide +kernel, rfl⟩
theorem d_AL_clear_28 : am_D y_AL_clear.2.2.1 28 (.iload_n 2) 1 29 := ⟨by decide +kernel, rfl⟩
theorem d_AL_clear_29 : am_D y_AL_clear.2.2.1 29 (.if_icmp .ge 13) 3 32 := ⟨by decide +kernel, rfl⟩
theorem d_AL_clear_32 : am_D y_AL_clear.2.2.1 32 (.aload_n 1) 1 33 := ⟨by decide +kernel, rfl⟩
theorem d_AL_clear_33 : am_D y_AL_clear.2.2.1 33 (.iload_n 3) 1 34 := ⟨by decide +kernel, rfl⟩
theorem d_AL_clear_34 : am_D y_AL_clear.2.2.1 34 (.aconst_null) 1 35 := ⟨by decide +kernel, rfl⟩
theorem d_AL_clear_35 : am_D y_AL_clear.2.2.1 35 (.aastore) 1 36 := ⟨by decide +kernel, rfl⟩
theorem d_AL_clear_36 : am_D y_AL_clear.2.2.1 36 (.iinc 3 1) 3 39 := ⟨by decide +kernel, rfl⟩
theorem d_AL_clear_39 : am_D y_AL_clear.2.2.1 39 (.goto (-12)) 3 42 := ⟨by decide +kernel, rfl⟩
theorem d_AL_clear_42 : am_D y_AL_clear.2.2.1 42 (.return_) 1 43 := ⟨by decide +kernel, rfl⟩
theorem d_AL_add_0 : am_D y_AL_add.2.2.1 0 (.aload_n 0) 1 1 := ⟨by decide +kernel, rfl⟩
theorem d_AL_add_1 : am_D y_AL_add.2.2.1 1 (.dup) 1 2 := ⟨by decide +kernel, rfl⟩
theorem d_AL_add_2 : am_D y_AL_add.2.2.1 2 (.getfield 63) 3 5 := ⟨by decide +kernel, rfl⟩
theorem d_AL_add_5 : am_D y_AL_add.2.2.1 5 (.iconst 1) 1 6 := ⟨by decide +kernel, rfl⟩
theorem d_AL_add_6 : am_D y_AL_add.2.2.1 6 (.iadd) 1 7 := ⟨by decide +kernel, rfl⟩
theorem d_AL_add_7 : am_D y_AL_add.2.2.1 7 (.putfield 63) 3 10 := ⟨by decide +kernel, rfl⟩
theorem d_AL_add_10 : am_D y_AL_add.2.2.1 10 (.aload_n 0) 1 11 := ⟨by decide +kernel, rfl⟩
theorem d_AL_add_11 : am_D y_AL_add.2.2.1 11 (.aload_n 1) 1 12 := ⟨by decide +kernel, rfl⟩
theorem d_AL_add_12 : am_D y_AL_add.2.2.1 12 (.aload_n 0) 1 13 := ⟨by decide +kernel, rfl⟩
theorem d_AL_add_13 : am_D y_AL_add.2.2.1 13 (.getfield 9) 3 16 := ⟨by decide +kernel, rfl⟩
theorem d_AL_add_16 : am_D y_AL_add.2.2.1 16 (.aload_n 0) 1 17 := ⟨by decide +kernel, rfl⟩
theorem d_AL_add_17 : am_D y_AL_add.2.2.1 17 (.getfield 48) 3 20 := ⟨by decide +kernel, rfl⟩
theorem d_AL_add_20 : am_D y_AL_add.2.2.1 20 (.invokevirtual 131) 3 23 := ⟨by decide +kernel, rfl⟩
theorem d_AL_add_23 : am_D y_AL_add.2.2.1 23 (.iconst 1) 1 24 := ⟨by decide +kernel, rfl⟩
theorem d_AL_add_24 : am_D y_AL_add.2.2.1 24 (.ireturn) 1 25 := ⟨by decide +kernel, rfl⟩
theorem d_AL_add2_0 : am_D y_AL_add2.2.2.1 0 (.iload_n 3) 1 1 := ⟨by decide +kernel, rfl⟩
theorem d_AL_add2_1 : am_D y_AL_add2.2.2.1 1 (.aload_n 2) 1 2 := ⟨by decide +kernel, rfl⟩
theorem d_AL_add2_2 : am_D y_AL_add2.2.2.1 2 (.arraylength) 1 3 := ⟨by decide +kernel, rfl⟩
theorem d_AL_add2_3 : am_D y_AL_add2.2.2.1 3 (.if_icmp .ne 8) 3 6 := ⟨by decide +kernel, rfl⟩
theorem d_AL_add2_6 : am_D y_AL_add2.2.2.1 6 (.aload_n 0) 1 7 := ⟨by decide +kernel, rfl⟩
theorem d_AL_add2_7 : am_D y_AL_add2.2.2.1 7 (.invokevirtual 129) 3 10 := ⟨by decide +kernel, rfl⟩
theorem d_AL_add2_10 : am_D y_AL_add2.2.2.1 10 (.astore_n 2) 1 11 := ⟨by decide +kernel, rfl⟩
theorem d_AL_add2_11 : am_D y_AL_add2.2.2.1 11 (.aload_n 2) 1 12 := ⟨by decide +kernel, rfl⟩
theorem d_AL_add2_12 : am_D y_AL_add2.2.2.1 12 (.iload_n 3) 1 13 := ⟨by decide +kernel, rfl⟩
theorem d_AL_add2_13 : am_D y_AL_add2.2.2.1 13 (.aload_n 1) 1 14 := ⟨by decide +kernel, rfl⟩
theorem d_AL_add2_14 : am_D y_AL_add2.2.2.1 14 (.aastore) 1 15 := ⟨by decide +kernel, rfl⟩
theorem d_AL_add2_15 : am_D y_AL_add2.2.2.1 15 (.aload_n 0) 1 16 := ⟨by decide +kernel, rfl⟩
theorem d_AL_add2_16 : am_D y_AL_add2.2.2.1 16 (.iload_n 3) 1 17 := ⟨by decide +kernel, rfl⟩
theorem d_AL_add2_17 : am_D y_AL_add2.2.2.1 17 (.iconst 1) 1 18 := ⟨by decide +kernel, rfl⟩
theorem d_AL_add2_18 : am_D y_AL_add2.2.2.1 18 (.iadd) 1 19 := ⟨by decide +kernel, rfl⟩
theorem d_AL_add2_19 : am_D y_AL_add2.2.2.1 19 (.putfield 48) 3 22 := ⟨by decide +kernel, rfl⟩
theorem d_AL_add2_22 : am_D y_AL_add2.2.2.1 22 (.return_) 1 23 := ⟨by decide +kernel, rfl⟩
theorem d_AL_grow_0 : am_D y_AL_grow.2.2.1 0 (.aload_n 0) 1 1 := ⟨by decide +kernel, rfl⟩
theorem d_AL_grow_1 : am_D y_AL_grow.2.2.1 1 (.aload_n 0) 1 2 := ⟨by decide +kernel, rfl⟩
theorem d_AL_grow_2 : am_D y_AL_grow.2.2.1 2 (.getfield 48) 3 5 := ⟨by decide +kernel, rfl⟩
theorem d_AL_grow_5 : am_D y_AL_grow.2.2.1 5 (.iconst 1) 1 6 := ⟨by decide +kernel, rfl⟩
theorem d_AL_grow_6 : am_D y_AL_grow.2.2.1 6 (.iadd) 1 7 := ⟨by decide +kernel, rfl⟩
theorem d_AL_grow_7 : am_D y_AL_grow.2.2.1 7 (.invokevirtual 69) 3 10 := ⟨by decide +kernel, rfl⟩
theorem d_AL_grow_10 : am_D y_AL_grow.2.2.1 10 (.areturn) 1 11 := ⟨by decide +kernel, rfl⟩
theorem d_AL_grow2_0 : am_D y_AL_grow2.2.2.1 0 (.aload_n 0) 1 1 := ⟨by decide +kernel, rfl⟩
theorem d_AL_grow2_1 : am_D y_AL_grow2.2.2.1 1 (.getfield 9) 3 4 := ⟨by decide +kernel, rfl⟩
theorem d_AL_grow2_4 : am_D y_AL_grow2.2.2.1 4 (.arraylength) 1 5 := ⟨by decide +kernel, rfl⟩
theorem d_AL_grow2_5 : am_D y_AL_grow2.2.2.1 5 (.istore_n 2) 1 6 := ⟨by decide +kernel, rfl⟩
theorem d_AL_grow2_6 : am_D y_AL_grow2.2.2.1 6 (.iload_n 2) 1 7 := ⟨by decide +kernel, rfl⟩
theorem d_AL_grow2_7 : am_D y_AL_grow2.2.2.1 7 (.ifCond .gt 13) 3 10 := ⟨by decide +kernel, rfl⟩
theorem d_AL_grow2_10 : am_D y_AL_grow2.2.2.1 10 (.aload_n 0) 1 11 := ⟨by decide +kernel, rfl⟩
theorem d_AL_grow2_11 : am_D y_AL_grow2.2.2.1 11 (.getfield 9) 3 14 := ⟨by decide +kernel, rfl⟩
theorem d_AL_grow2_14 : am_D y_AL_grow2.2.2.1 14 (.getstatic 39) 3 17 := ⟨by decide +kernel, rfl⟩
theorem d_AL_grow2_17 : am_D y_AL_grow2.2.2.1 17 (.if_acmp .eq 28) 3 20 := ⟨by decide +kernel, rfl⟩
theorem d_AL_grow2_20 : am_D y_AL_grow2.2.2.1 20 (.iload_n 2) 1 21 := ⟨by decide +kernel, rfl⟩
theorem d_AL_grow2_21 : am_D y_AL_grow2.2.2.1 21 (.iload_n 1) 1 22 := ⟨by decide +kernel, rfl⟩
theorem d_AL_grow2_22 : am_D y_AL_grow2.2.2.1 22 (.iload_n 2) 1 23 := ⟨by decide +kernel, rfl⟩
theorem d_AL_grow2_23 : am_D y_AL_grow2.2.2.1 23 (.isub) 1 24 := ⟨by decide +kernel, rfl⟩
theorem d_AL_grow2_24 : am_D y_AL_grow2.2.2.1 24 (.iload_n 2) 1 25 := ⟨by decide +kernel, rfl⟩
theorem d_AL_grow2_25 : am_D y_AL_grow2.2.2.1 25 (.iconst 1) 1 26 := ⟨by decide +kernel, rfl⟩
theorem d_AL_grow2_26 : am_D y_AL_grow2.2.2.1 26 (.ishr) 1 27 := ⟨by decide +kernel, rfl⟩
theorem d_AL_grow2_27 : am_D y_AL_grow2.2.2.1 27 (.invokestatic 73) 3 30 := ⟨by decide +kernel, rfl⟩
theorem d_AL_grow2_30 : am_D y_AL_grow2.2.2.1 30 (.istore_n 3) 1 31 := ⟨by decide +kernel, rfl⟩
theorem d_AL_grow2_31 : am_D y_AL_grow2.2.2.1 31 (.aload_n 0) 1 32 := ⟨by decide +kernel, rfl⟩
theorem d_AL_grow2_32 : am_D y_AL_grow2.2.2.1 32 (.aload_n 0) 1 33 := ⟨by decide +kernel, rfl⟩
theorem d_AL_grow2_33 : am_D y_AL_grow2.2.2.1 33 (.getfield 9) 3 36 := ⟨by decide +kernel, rfl⟩
theorem d_AL_grow2_36 : am_D y_AL_grow2.2.2.1 36 (.iload_n 3) 1 37 := ⟨by decide +kernel, rfl⟩
theorem d_AL_grow2_37 : am_D y_AL_grow2.2.2.1 37 (.invokestatic 66) 3 40 := ⟨by decide +kernel, rfl⟩
theorem d_AL_grow2_40 : am_D y_AL_grow2.2.2.1 40 (.dup_x1) 1 41 := ⟨by decide +kernel, rfl⟩
theorem d_AL_grow2_41 : am_D y_AL_grow2.2.2.1 41 (.putfield 9) 3 44 := ⟨by decide +kernel, rfl⟩
theorem d_AL_grow2_44 : am_D y_AL_grow2.2.2.1 44 (.areturn) 1 45 := ⟨by decide +kernel, rfl⟩
theorem d_AL_grow2_45 : am_D y_AL_grow2.2.2.1 45 (.aload_n 0) 1 46 := ⟨by decide +kernel, rfl⟩
theorem d_AL_grow2_46 : am_D y_AL_grow2.2.2.1 46 (.bipush 10) 2 48 := ⟨by decide +kernel, rfl⟩
theorem d_AL_grow2_48 : am_D y_AL_grow2.2.2.1 48 (.iload_n 1) 1 49 := ⟨by decide +kernel, rfl⟩
theorem d_AL_grow2_49 : am_D y_AL_grow2.2.2.1 49 (.invokestatic 79) 3 52 := ⟨by decide +kernel, rfl⟩
theorem d_AL_grow2_52 : am_D y_AL_grow2.2.2.1 52 (.anewarray 7) 3 55 := ⟨by decide +kernel, rfl⟩
theorem d_AL_grow2_55 : am_D y_AL_grow2.2.2.1 55 (.dup_x1) 1 56 := ⟨by decide +kernel, rfl⟩
theorem d_AL_grow2_56 : am_D y_AL_grow2.2.2.1 56 (.putfield 9) 3 59 := ⟨by decide +kernel, rfl⟩
theorem d_AL_grow2_59 : am_D y_AL_grow2.2.2.1 59 (.areturn) 1 60 := ⟨by decide +kernel, rfl⟩
theorem d_Sp_newLength_0 : am_D y_Sp_newLength.2.2.1 0 (.iload_n 0) 1 1 := ⟨by decide +kernel, rfl⟩
theorem d_Sp_newLength_1 : am_D y_Sp_newLength.2.2.1 1 (.iload_n 1) 1 2 := ⟨by decide +kernel, rfl⟩
theorem d_Sp_newLength_2 : am_D y_Sp_newLength.2.2.1 2 (.iload_n 2) 1 3 := ⟨by decide +kernel, rfl⟩
theorem d_Sp_newLength_3 : am_D y_Sp_newLength.2.2.1 3 (.invokestatic 194) 3 6 := ⟨by decide +kernel, rfl⟩
theorem d_Sp_newLength_6 : am_D y_Sp_newLength.2.2.1 6 (.iadd) 1 7 := ⟨by decide +kernel, rfl⟩
theorem d_Sp_newLength_7 : am_D y_Sp_newLength.2.2.1 7 (.istore_n 3) 1 8 := ⟨by decide +kernel, rfl⟩
theorem d_Sp_newLength_8 : am_D y_Sp_newLength.2.2.1 8 (.iconst 0) 1 9 := ⟨by decide +kernel, rfl⟩
theorem d_Sp_newLength_9 : am_D y_Sp_newLength.2.2.1 9 (.iload_n 3) 1 10 := ⟨by decide +kernel, rfl⟩
theorem d_Sp_newLength_10 : am_D y_Sp_newLength.2.2.1 10 (.if_icmp .ge 11) 3 13 := ⟨by decide +kernel, rfl⟩
theorem d_Sp_newLength_13 : am_D y_Sp_newLength.2.2.1 13 (.iload_n 3) 1 14 := ⟨by decide +kernel, rfl⟩
theorem d_Sp_newLength_14 : am_D y_Sp_newLength.2.2.1 14 (.ldc 200) 2 16 := ⟨by decide +kernel, rfl⟩
theorem d_Sp_newLength_16 : am_D y_Sp_newLength.2.2.1 16 (.if_icmp .gt 5) 3 19 := ⟨by decide +kernel, rfl⟩
theorem d_Sp_newLength_19 : am_D y_Sp_newLength.2.2.1 19 (.iload_n 3) 1 20 := ⟨by decide +kernel, rfl⟩
theorem d_Sp_newLength_20 : am_D y_Sp_newLength.2.2.1 20 (.ireturn) 1 21 := ⟨by decide +kernel, rfl⟩
theorem d_Sp_newLength_21 : am_D y_Sp_newLength.2.2.1 21 (.iload_n 0) 1 22 := ⟨by decide +kernel, rfl⟩
theorem d_Sp_newLength_22 : am_D y_Sp_newLength.2.2.1 22 (.iload_n 1) 1 23 := ⟨by decide +kernel, rfl⟩
theorem d_Sp_newLength_23 : am_D y_Sp_newLength.2.2.1 23 (.invokestatic 201) 3 26 := ⟨by decide +kernel, rfl⟩
theorem d_Sp_newLength_26 : am_D y_Sp_newLength.2.2.1 26 (.ireturn) 1 27 := ⟨by decide +kernel, rfl⟩
theorem d_As_copyOf_0 : am_D y_As_copyOf.2.2.1 0 (.aload_n 0) 1 1 := ⟨by decide +kernel, rfl⟩
theorem d_As_copyOf_1 : am_D y_As_copyOf.2.2.1 1 (.iload_n 1) 1 2 := ⟨by decide +kernel, rfl⟩
theorem d_As_copyOf_2 : am_D y_As_copyOf.2.2.1 2 (.aload_n 0) 1 3 := ⟨by decide +kernel, rfl⟩
theorem d_As_copyOf_3 : am_D y_As_copyOf.2.2.1 3 (.invokevirtual 86) 3 6 := ⟨by decide +kernel, rfl⟩
theorem d_As_copyOf_6 : am_D y_As_copyOf.2.2.1 6 (.invokestatic 300) 3 9 := ⟨by decide +kernel, rfl⟩
theorem d_As_copyOf_9 : am_D y_As_copyOf.2.2.1 9 (.areturn) 1 10 := ⟨by decide +kernel, rfl⟩
theorem d_As_copyOf2_0 : am_D y_As_copyOf2.2.2.1 0 (.aload_n 2) 1 1 := ⟨by decide +kernel, rfl⟩
theorem d_As_copyOf2_1 : am_D y_As_copyOf2.2.2.1 1 (.ldc 110) 2 3 := ⟨by decide +kernel, rfl⟩
theorem d_As_copyOf2_3 : am_D y_As_copyOf2.2.2.1 3 (.if_acmp .ne 10) 3 6 := ⟨by decide +kernel, rfl⟩
theorem d_As_copyOf2_6 : am_D y_As_copyOf2.2.2.1 6 (.iload_n 1) 1 7 := ⟨by decide +kernel, rfl⟩
theorem d_As_copyOf2_7 : am_D y_As_copyOf2.2.2.1 7 (.anewarray 2) 3 10 := ⟨by decide +kernel, rfl⟩
theorem d_As_copyOf2_10 : am_D y_As_copyOf2.2.2.1 10 (.goto 14) 3 13 := ⟨by decide +kernel, rfl⟩
theorem d_As_copyOf2_13 : am_D y_As_copyOf2.2.2.1 13 (.aload_n 2) 1 14 := ⟨by decide +kernel, rfl⟩
theorem d_As_copyOf2_14 : am_D y_As_copyOf2.2.2.1 14 (.invokevirtual 90) 3 17 := ⟨by decide +kernel, rfl⟩
theorem d_As_copyOf2_17 : am_D y_As_copyOf2.2.2.1 17 (.iload_n 1) 1 18 := ⟨by decide +kernel, rfl⟩
theorem d_As_copyOf2_18 : am_D y_As_copyOf2.2.2.1 18 (.invokestatic 95) 3 21 := ⟨by decide +kernel, rfl⟩
theorem d_As_copyOf2_21 : am_D y_As_copyOf2.2.2.1 21 (.checkcast 110) 3 24 := ⟨by decide +kernel, rfl⟩
theorem d_As_copyOf2_24 : am_D y_As_copyOf2.2.2.1 24 (.astore_n 3) 1 25 := ⟨by decide +kernel, rfl⟩
theorem d_As_copyOf2_25 : am_D y_As_copyOf2.2.2.1 25 (.aload_n 0) 1 26 := ⟨by decide +kernel, rfl⟩
theorem d_As_copyOf2_26 : am_D y_As_copyOf2.2.2.1 26 (.iconst 0) 1 27 := ⟨by decide +kernel, rfl⟩
theorem d_As_copyOf2_27 : am_D y_As_copyOf2.2.2.1 27 (.aload_n 3) 1 28 := ⟨by decide +kernel, rfl⟩
theorem d_As_copyOf2_28 : am_D y_As_copyOf2.2.2.1 28 (.iconst 0) 1 29 := ⟨by decide +kernel, rfl⟩
theorem d_As_copyOf2_29 : am_D y_As_copyOf2.2.2.1 29 (.aload_n 0) 1 30 := ⟨by decide +kernel, rfl⟩
theorem d_As_copyOf2_30 : am_D y_As_copyOf2.2.2.1 30 (.arraylength) 1 31 := ⟨by decide +kernel, rfl⟩
theorem d_As_copyOf2_31 : am_D y_As_copyOf2.2.2.1 31 (.iload_n 1) 1 32 := ⟨by decide +kernel, rfl⟩
theorem d_As_copyOf2_32 : am_D y_As_copyOf2.2.2.1 32 (.invokestatic 304) 3 35 := ⟨by decide +kernel, rfl⟩
theorem d_As_copyOf2_35 : am_D y_As_copyOf2.2.2.1 35 (.invokestatic 150) 3 38 := ⟨by decide +kernel, rfl⟩
theorem d_As_copyOf2_38 : am_D y_As_copyOf2.2.2.1 38 (.aload_n 3) 1 39 := ⟨by decide +kernel, rfl⟩
theorem d_As_copyOf2_39 : am_D y_As_copyOf2.2.2.1 39 (.areturn) 1 40 := ⟨by decide +kernel, rfl⟩
theorem d_AL_remove_0 : am_D y_AL_remove.2.2.1 0 (.iload_n 1) 1 1 := ⟨by decide +kernel, rfl⟩
theorem d_AL_remove_1 : am_D y_AL_remove.2.2.1 1 (.aload_n 0) 1 2 := ⟨by decide +kernel, rfl⟩
theorem d_AL_remove_2 : am_D y_AL_remove.2.2.1 2 (.getfield 48) 3 5 := ⟨by decide +kernel, rfl⟩
theorem d_AL_remove_5 : am_D y_AL_remove.2.2.1 5 (.invokestatic 118) 3 8 := ⟨by decide +kernel, rfl⟩
theorem d_AL_remove_8 : am_D y_AL_remove.2.2.1 8 (.pop) 1 9 := ⟨by decide +kernel, rfl⟩
theorem d_AL_remove_9 : am_D y_AL_remove.2.2.1 9 (.aload_n 0) 1 10 := ⟨by decide +kernel, rfl⟩
theorem d_AL_remove_10 : am_D y_AL_remove.2.2.1 10 (.getfield 9) 3 13 := ⟨by decide +kernel, rfl⟩
theorem d_AL_remove_13 : am_D y_AL_remove.2.2.1 13 (.astore_n 2) 1 14 := ⟨by decide +kernel, rfl⟩
theorem d_AL_remove_14 : am_D y_AL_remove.2.2.1 14 (.aload_n 2) 1 15 := ⟨by decide +kernel, rfl⟩
theorem d_AL_remove_15 : am_D y_AL_remove.2.2.1 15 (.iload_n 1) 1 16 := ⟨by decide +kernel, rfl⟩
theorem d_AL_remove_16 : am_D y_AL_remove.2.2.1 16 (.aaload) 1 17 := ⟨by decide +kernel, rfl⟩
theorem d_AL_remove_17 : am_D y_AL_remove.2.2.1 17 (.astore_n 3) 1 18 := ⟨by decide +kernel, rfl⟩
theorem d_AL_remove_18 : am_D y_AL_remove.2.2.1 18 (.aload_n 0) 1 19 := ⟨by decide +kernel, rfl⟩
theorem d_AL_remove_19 : am_D y_AL_remove.2.2.1 19 (.aload_n 2) 1 20 := ⟨by decide +kernel, rfl⟩
theorem d_AL_remove_20 : am_D y_AL_remove.2.2.1 20 (.iload_n 1) 1 21 := ⟨by decide +kernel, rfl⟩
theorem d_AL_remove_21 : am_D y_AL_remove.2.2.1 21 (.invokevirtual 144) 3 24 := ⟨by decide +kernel, rfl⟩
theorem d_AL_remove_24 : am_D y_AL_remove.2.2.1 24 (.aload_n 3) 1 25 := ⟨by decide +kernel, rfl⟩
theorem d_AL_remove_25 : am_D y_AL_remove.2.2.1 25 (.areturn) 1 26 := ⟨by decide +kernel, rfl⟩
theorem d_Ob_checkIndex_0 : am_D y_Ob_checkIndex.2.2.1 0 (.iload_n 0) 1 1 := ⟨by decide +kernel, rfl⟩
theorem d_Ob_checkIndex_1 : am_D y_Ob_checkIndex.2.2.1 1 (.iload_n 1) 1 2 := ⟨by decide +kernel, rfl⟩
theorem d_Ob_checkIndex_2 : am_D y_Ob_checkIndex.2.2.1 2 (.aconst_null) 1 3 := ⟨by decide +kernel, rfl⟩
theorem d_Ob_checkIndex_3 : am_D y_Ob_checkIndex.2.2.1 3 (.invokestatic 105) 3 6 := ⟨by decide +kernel, rfl⟩
theorem d_Ob_checkIndex_6 : am_D y_Ob_checkIndex.2.2.1 6 (.ireturn) 1 7 := ⟨by decide +kernel, rfl⟩
theorem d_Pr_checkIndex_0 : am_D y_Pr_checkIndex.2.2.1 0 (.iload_n 0) 1 1 := ⟨by decide +kernel, rfl⟩
theorem d_Pr_checkIndex_1 : am_D y_Pr_checkIndex.2.2.1 1 (.ifCond .lt 8) 3 4 := ⟨by decide +kernel, rfl⟩
theorem d_Pr_checkIndex_4 : am_D y_Pr_checkIndex.2.2.1 4 (.iload_n 0) 1 5 := ⟨by decide +kernel, rfl⟩
theorem d_Pr_checkIndex_5 : am_D y_Pr_checkIndex.2.2.1 5 (.iload_n 1) 1 6 := ⟨by decide +kernel, rfl⟩
theorem d_Pr_checkIndex_6 : am_D y_Pr_checkIndex.2.2.1 6 (.if_icmp .lt 10) 3 9 := ⟨by decide +kernel, rfl⟩
theorem d_Pr_checkIndex_9 : am_D y_Pr_checkIndex.2.2.1 9 (.aload_n 2) 1 10 := ⟨by decide +kernel, rfl⟩
theorem d_Pr_checkIndex_10 : am_D y_Pr_checkIndex.2.2.1 10 (.iload_n 0) 1 11 := ⟨by decide +kernel, rfl⟩
theorem d_Pr_checkIndex_11 : am_D y_Pr_checkIndex.2.2.1 11 (.iload_n 1) 1 12 := ⟨by decide +kernel, rfl⟩
theorem d_Pr_checkIndex_12 : am_D y_Pr_checkIndex.2.2.1 12 (.invokestatic 95) 3 15 := ⟨by decide +kernel, rfl⟩
theorem d_Pr_checkIndex_15 : am_D y_Pr_checkIndex.2.2.1 15 (.athrow) 1 16 := ⟨by decide +kernel, rfl⟩
theorem d_Pr_checkIndex_16 : am_D y_Pr_checkIndex.2.2.1 16 (.iload_n 0) 1 17 := ⟨by decide +kernel, rfl⟩
theorem d_Pr_checkIndex_17 : am_D y_Pr_checkIndex.2.2.1 17 (.ireturn) 1 18 := ⟨by decide +kernel, rfl⟩
theorem d_AL_fastRemove_0 : am_D y_AL_fastRemove.2.2.1 0 (.aload_n 0) 1 1 := ⟨by decide +kernel, rfl⟩
theorem d_AL_fastRemove_1 : am_D y_AL_fastRemove.2.2.1 1 (.dup) 1 2 := ⟨by decide +kernel, rfl⟩
theorem d_AL_fastRemove_2 : am_D y_AL_fastRemove.2.2.1 2 (.getfield 63) 3 5 := ⟨by decide +kernel, rfl⟩
theorem d_AL_fastRemove_5 : am_D y_AL_fastRemove.2.2.1 5 (.iconst 1) 1 6 := ⟨by decide +kernel, rfl⟩
theorem d_AL_fastRemove_6 : am_D y_AL_fastRemove.2.2.1 6 (.iadd) 1 7 := ⟨by decide +kernel, rfl⟩
theorem d_AL_fastRemove_7 : am_D y_AL_fastRemove.2.2.1 7 (.putfield 63) 3 10 := ⟨by decide +kernel, rfl⟩
theorem d_AL_fastRemove_10 : am_D y_AL_fastRemove.2.2.1 10 (.aload_n 0) 1 11 := ⟨by decide +kernel, rfl⟩
theorem d_AL_fastRemove_11 : am_D y_AL_fastRemove.2.2.1 11 (.getfield 48) 3 14 := ⟨by decide +kernel, rfl⟩
theorem d_AL_fastRemove_14 : am_D y_AL_fastRemove.2.2.1 14 (.iconst 1) 1 15 := ⟨by decide +kernel, rfl⟩
theorem d_AL_fastRemove_15 : am_D y_AL_fastRemove.2.2.1 15 (.isub) 1 16 := ⟨by decide +kernel, rfl⟩
theorem d_AL_fastRemove_16 : am_D y_AL_fastRemove.2.2.1 16 (.dup) 1 17 := ⟨by decide +kernel, rfl⟩
theorem d_AL_fastRemove_17 : am_D y_AL_fastRemove.2.2.1 17 (.istore_n 3) 1 18 := ⟨by decide +kernel, rfl⟩
theorem d_AL_fastRemove_18 : am_D y_AL_fastRemove.2.2.1 18 (.iload_n 2) 1 19 := ⟨by decide +kernel, rfl⟩
theorem d_AL_fastRemove_19 : am_D y_AL_fastRemove.2.2.1 19 (.if_icmp .le 15) 3 22 := ⟨by decide +kernel, rfl⟩
theorem d_AL_fastRemove_22 : am_D y_AL_fastRemove.2.2.1 22 (.aload_n 1) 1 23 := ⟨by decide +kernel, rfl⟩
theorem d_AL_fastRemove_23 : am_D y_AL_fastRemove.2.2.1 23 (.iload_n 2) 1 24 := ⟨by decide +kernel, rfl⟩
theorem d_AL_fastRemove_24 : am_D y_AL_fastRemove.2.2.1 24 (.iconst 1) 1 25 := ⟨by decide +kernel, rfl⟩
theorem d_AL_fastRemove_25 : am_D y_AL_fastRemove.2.2.1 25 (.iadd) 1 26 := ⟨by decide +kernel, rfl⟩
theorem d_AL_fastRemove_26 : am_D y_AL_fastRemove.2.2.1 26 (.aload_n 1) 1 27 := ⟨by decide +kernel, rfl⟩
theorem d_AL_fastRemove_27 : am_D y_AL_fastRemove.2.2.1 27 (.iload_n 2) 1 28 := ⟨by decide +kernel, rfl⟩
theorem d_AL_fastRemove_28 : am_D y_AL_fastRemove.2.2.1 28 (.iload_n 3) 1 29 := ⟨by decide +kernel, rfl⟩
theorem d_AL_fastRemove_29 : am_D y_AL_fastRemove.2.2.1 29 (.iload_n 2) 1 30 := ⟨by decide +kernel, rfl⟩
theorem d_AL_fastRemove_30 : am_D y_AL_fastRemove.2.2.1 30 (.isub) 1 31 := ⟨by decide +kernel, rfl⟩
theorem d_AL_fastRemove_31 : am_D y_AL_fastRemove.2.2.1 31 (.invokestatic 112) 3 34 := ⟨by decide +kernel, rfl⟩
theorem d_AL_fastRemove_34 : am_D y_AL_fastRemove.2.2.1 34 (.aload_n 1) 1 35 := ⟨by decide +kernel, rfl⟩
theorem d_AL_fastRemove_35 : am_D y_AL_fastRemove.2.2.1 35 (.aload_n 0) 1 36 := ⟨by decide +kernel, rfl⟩
theorem d_AL_fastRemove_36 : am_D y_AL_fastRemove.2.2.1 36 (.iload_n 3) 1 37 := ⟨by decide +kernel, rfl⟩
theorem d_AL_fastRemove_37 : am_D y_AL_fastRemove.2.2.1 37 (.dup_x1) 1 38 := ⟨by decide +kernel, rfl⟩
theorem d_AL_fastRemove_38 : am_D y_AL_fastRemove.2.2.1 38 (.putfield 48) 3 41 := ⟨by decide +kernel, rfl⟩
theorem d_AL_fastRemove_41 : am_D y_AL_fastRemove.2.2.1 41 (.aconst_null) 1 42 := ⟨by decide +kernel, rfl⟩
theorem d_AL_fastRemove_42 : am_D y_AL_fastRemove.2.2.1 42 (.aastore) 1 43 := ⟨by decide +kernel, rfl⟩
theorem d_AL_fastRemove_43 : am_D y_AL_fastRemove.2.2.1 43 (.return_) 1 44 := ⟨by decide +kernel, rfl⟩
theorem d_AL_get_0 : am_D y_AL_get.2.2.1 0 (.iload_n 1) 1 1 := ⟨by decide +kernel, rfl⟩
theorem d_AL_get_1 : am_D y_AL_get.2.2.1 1 (.aload_n 0) 1 2 := ⟨by decide +kernel, rfl⟩
theorem d_AL_get_2 : am_D y_AL_get.2.2.1 2 (.getfield 48) 3 5 := ⟨by decide +kernel, rfl⟩
theorem d_AL_get_5 : am_D y_AL_get.2.2.1 5 (.invokestatic 118) 3 8 := ⟨by decide +kernel, rfl⟩
theorem d_AL_get_8 : am_D y_AL_get.2.2.1 8 (.pop) 1 9 := ⟨by decide +kernel, rfl⟩
theorem d_AL_get_9 : am_D y_AL_get.2.2.1 9 (.aload_n 0) 1 10 := ⟨by decide +kernel, rfl⟩
theorem d_AL_get_10 : am_D y_AL_get.2.2.1 10 (.iload_n 1) 1 11 := ⟨by decide +kernel, rfl⟩
theorem d_AL_get_11 : am_D y_AL_get.2.2.1 11 (.invokevirtual 123) 3 14 := ⟨by decide +kernel, rfl⟩
theorem d_AL_get_14 : am_D y_AL_get.2.2.1 14 (.areturn) 1 15 := ⟨by decide +kernel, rfl⟩
theorem d_AL_elementData_0 : am_D y_AL_elementData.2.2.1 0 (.aload_n 0) 1 1 := ⟨by decide +kernel, rfl⟩
theorem d_AL_elementData_1 : am_D y_AL_elementData.2.2.1 1 (.getfield 9) 3 4 := ⟨by decide +kernel, rfl⟩
theorem d_AL_elementData_4 : am_D y_AL_elementData.2.2.1 4 (.iload_n 1) 1 5 := ⟨by decide +kernel, rfl⟩
theorem d_AL_elementData_5 : am_D y_AL_elementData.2.2.1 5 (.aaload) 1 6 := ⟨by decide +kernel, rfl⟩
theorem d_AL_elementData_6 : am_D y_AL_elementData.2.2.1 6 (.areturn) 1 7 := ⟨by decide +kernel, rfl⟩
theorem d_AL_isEmpty_0 : am_D y_AL_isEmpty.2.2.1 0 (.aload_n 0) 1 1 := ⟨by decide +kernel, rfl⟩
theorem d_AL_isEmpty_1 : am_D y_AL_isEmpty.2.2.1 1 (.getfield 48) 3 4 := ⟨by decide +kernel, rfl⟩
theorem d_AL_isEmpty_4 : am_D y_AL_isEmpty.2.2.1 4 (.ifCond .ne 7) 3 7 := ⟨by decide +kernel, rfl⟩
theorem d_AL_isEmpty_7 : am_D y_AL_isEmpty.2.2.1 7 (.iconst 1) 1 8 := ⟨by decide +kernel, rfl⟩
theorem d_AL_isEmpty_8 : am_D y_AL_isEmpty.2.2.1 8 (.goto 4) 3 11 := ⟨by decide +kernel, rfl⟩
theorem d_AL_isEmpty_11 : am_D y_AL_isEmpty.2.2.1 11 (.iconst 0) 1 12 := ⟨by decide +kernel, rfl⟩
theorem d_AL_isEmpty_12 : am_D y_AL_isEmpty.2.2.1 12 (.ireturn) 1 13 := ⟨by decide +kernel, rfl⟩
end
section
theorem d_Ct_new_0 : am_D y_Ct_new.2.2.1 0 (.aload_n 0) 1 1 := ⟨by decide +kernel, rfl⟩
theorem d_Ct_new_1 : am_D y_Ct_new.2.2.1 1 (.invokespecial 3) 3 4 := ⟨by decide +kernel, rfl⟩
theorem d_Ct_new_4 : am_D y_Ct_new.2.2.1 4 (.aload_n 1) 1 5 := ⟨by decide +kernel, rfl⟩
theorem d_Ct_new_5 : am_D y_Ct_new.2.2.1 5 (.arraylength) 1 6 := ⟨by decide +kernel, rfl⟩
theorem d_Ct_new_6 : am_D y_Ct_new.2.2.1 6 (.iconst 4) 1 7 := ⟨by decide +kernel, rfl⟩
theorem d_Ct_new_7 : am_D y_Ct_new.2.2.1 7 (.imul) 1 8 := ⟨by decide +kernel, rfl⟩
theorem d_Ct_new_8 : am_D y_Ct_new.2.2.1 8 (.istore_n 2) 1 9 := ⟨by decide +kernel, rfl⟩
theorem d_Ct_new_9 : am_D y_Ct_new.2.2.1 9 (.aload_n 0) 1 10 := ⟨by decide +kernel, rfl⟩
theorem d_Ct_new_10 : am_D y_Ct_new.2.2.1 10 (.aload_n 1) 1 11 := ⟨by decide +kernel, rfl⟩
theorem d_Ct_new_11 : am_D y_Ct_new.2.2.1 11 (.putfield 9) 3 14 := ⟨by decide +kernel, rfl⟩
theorem d_Ct_new_14 : am_D y_Ct_new.2.2.1 14 (.aload_n 0) 1 15 := ⟨by decide +kernel, rfl⟩
theorem d_Ct_new_15 : am_D y_Ct_new.2.2.1 15 (.iload_n 2) 1 16 := ⟨by decide +kernel, rfl⟩
theorem d_Ct_new_16 : am_D y_Ct_new.2.2.1 16 (.newarray .int) 2 18 := ⟨by decide +kernel, rfl⟩
theorem d_Ct_new_18 : am_D y_Ct_new.2.2.1 18 (.putfield 15) 3 21 := ⟨by decide +kernel, rfl⟩
theorem d_Ct_new_21 : am_D y_Ct_new.2.2.1 21 (.aload_n 0) 1 22 := ⟨by decide +kernel, rfl⟩
theorem d_Ct_new_22 : am_D y_Ct_new.2.2.1 22 (.iload_n 2) 1 23 := ⟨by decide +kernel, rfl⟩
theorem d_Ct_new_23 : am_D y_Ct_new.2.2.1 23 (.newarray .boolean) 2 25 := ⟨by decide +kernel, rfl⟩
theorem d_Ct_new_25 : am_D y_Ct_new.2.2.1 25 (.putfield 19) 3 28 := ⟨by decide +kernel, rfl⟩
theorem d_Ct_new_28 : am_D y_Ct_new.2.2.1 28 (.aload_n 0) 1 29 := ⟨by decide +kernel, rfl⟩
theorem d_Ct_new_29 : am_D y_Ct_new.2.2.1 29 (.bipush 6) 2 31 := ⟨by decide +kernel, rfl⟩
theorem d_Ct_new_31 : am_D y_Ct_new.2.2.1 31 (.newarray .int) 2 33 := ⟨by decide +kernel, rfl⟩
theorem d_Ct_new_33 : am_D y_Ct_new.2.2.1 33 (.putfield 23) 3 36 := ⟨by decide +kernel, rfl⟩
theorem d_Ct_new_36 : am_D y_Ct_new.2.2.1 36 (.aload_n 0) 1 37 := ⟨by decide +kernel, rfl⟩
theorem d_Ct_new_37 : am_D y_Ct_new.2.2.1 37 (.new 26) 3 40 := ⟨by decide +kernel, rfl⟩
theorem d_Ct_new_40 : am_D y_Ct_new.2.2.1 40 (.dup) 1 41 := ⟨by decide +kernel, rfl⟩
theorem d_Ct_new_41 : am_D y_Ct_new.2.2.1 41 (.invokespecial 28) 3 44 := ⟨by decide +kernel, rfl⟩
theorem d_Ct_new_44 : am_D y_Ct_new.2.2.1 44 (.putfield 29) 3 47 := ⟨by decide +kernel, rfl⟩
theorem d_Ct_new_47 : am_D y_Ct_new.2.2.1 47 (.aload_n 0) 1 48 := ⟨by decide +kernel, rfl⟩
theorem d_Ct_new_48 : am_D y_Ct_new.2.2.1 48 (.aload_n 1) 1 49 := ⟨by decide +kernel, rfl⟩
theorem d_Ct_new_49 : am_D y_Ct_new.2.2.1 49 (.arraylength) 1 50 := ⟨by decide +kernel, rfl⟩
theorem d_Ct_new_50 : am_D y_Ct_new.2.2.1 50 (.newarray .int) 2 52 := ⟨by decide +kernel, rfl⟩
theorem d_Ct_new_52 : am_D y_Ct_new.2.2.1 52 (.putfield 33) 3 55 := ⟨by decide +kernel, rfl⟩
theorem d_Ct_new_55 : am_D y_Ct_new.2.2.1 55 (.aload_n 0) 1 56 := ⟨by decide +kernel, rfl⟩
theorem d_Ct_new_56 : am_D y_Ct_new.2.2.1 56 (.iconst 0) 1 57 := ⟨by decide +kernel, rfl⟩
theorem d_Ct_new_57 : am_D y_Ct_new.2.2.1 57 (.putfield 36) 3 60 := ⟨by decide +kernel, rfl⟩
theorem d_Ct_new_60 : am_D y_Ct_new.2.2.1 60 (.aload_n 0) 1 61 := ⟨by decide +kernel, rfl⟩
theorem d_Ct_new_61 : am_D y_Ct_new.2.2.1 61 (.getfield 15) 3 64 := ⟨by decide +kernel, rfl⟩
theorem d_Ct_new_64 : am_D y_Ct_new.2.2.1 64 (.iconst (-1)) 1 65 := ⟨by decide +kernel, rfl⟩
theorem d_Ct_new_65 : am_D y_Ct_new.2.2.1 65 (.invokestatic 40) 3 68 := ⟨by decide +kernel, rfl⟩
theorem d_Ct_new_68 : am_D y_Ct_new.2.2.1 68 (.aload_n 0) 1 69 := ⟨by decide +kernel, rfl⟩
theorem d_Ct_new_69 : am_D y_Ct_new.2.2.1 69 (.getfield 23) 3 72 := ⟨by decide +kernel, rfl⟩
theorem d_Ct_new_72 : am_D y_Ct_new.2.2.1 72 (.iconst (-1)) 1 73 := ⟨by decide +kernel, rfl⟩
theorem d_Ct_new_73 : am_D y_Ct_new.2.2.1 73 (.invokestatic 40) 3 76 := ⟨by decide +kernel, rfl⟩
theorem d_Ct_new_76 : am_D y_Ct_new.2.2.1 76 (.return_) 1 77 := ⟨by decide +kernel, rfl⟩
theorem d_Ct_handle_0 : am_D y_Ct_handle.2.2.1 0 (.aload_n 2) 1 1 := ⟨by decide +kernel, rfl⟩
theorem d_Ct_handle_1 : am_D y_Ct_handle.2.2.1 1 (.getfield 46) 3 4 := ⟨by decide +kernel, rfl⟩
theorem d_Ct_handle_4 : am_D y_Ct_handle.2.2.1 4 (.tableswitch 132 0 5 #[40, 56, 75, 86, 101, 117]) 40 44 := ⟨by decide +kernel, rfl⟩
theorem d_Ct_handle_44 : am_D y_Ct_handle.2.2.1 44 (.aload_n 0) 1 45 := ⟨by decide +kernel, rfl⟩
theorem d_Ct_handle_45 : am_D y_Ct_handle.2.2.1 45 (.iload_n 1) 1 46 := ⟨by decide +kernel, rfl⟩
theorem d_Ct_handle_46 : am_D y_Ct_handle.2.2.1 46 (.aload_n 2) 1 47 := ⟨by decide +kernel, rfl⟩
theorem d_Ct_handle_47 : am_D y_Ct_handle.2.2.1 47 (.getfield 51) 3 50 := ⟨by decide +kernel, rfl⟩
theorem d_Ct_handle_50 : am_D y_Ct_handle.2.2.1 50 (.aload_n 2) 1 51 := ⟨by decide +kernel, rfl⟩
theorem d_Ct_handle_51 : am_D y_Ct_handle.2.2.1 51 (.invokevirtual 54) 3 54 := ⟨by decide +kernel, rfl⟩
theorem d_Ct_handle_54 : am_D y_Ct_handle.2.2.1 54 (.invokevirtual 58) 3 57 := ⟨by decide +kernel, rfl⟩
theorem d_Ct_handle_57 : am_D y_Ct_handle.2.2.1 57 (.goto 79) 3 60 := ⟨by decide +kernel, rfl⟩
theorem d_Ct_handle_60 : am_D y_Ct_handle.2.2.1 60 (.aload_n 0) 1 61 := ⟨by decide +kernel, rfl⟩
theorem d_Ct_handle_61 : am_D y_Ct_handle.2.2.1 61 (.iload_n 1) 1 62 := ⟨by decide +kernel, rfl⟩
theorem d_Ct_handle_62 : am_D y_Ct_handle.2.2.1 62 (.aload_n 2) 1 63 := ⟨by decide +kernel, rfl⟩
theorem d_Ct_handle_63 : am_D y_Ct_handle.2.2.1 63 (.getfield 51) 3 66 := ⟨by decide +kernel, rfl⟩
theorem d_Ct_handle_66 : am_D y_Ct_handle.2.2.1 66 (.invokestatic 62) 3 69 := ⟨by decide +kernel, rfl⟩
theorem d_Ct_handle_69 : am_D y_Ct_handle.2.2.1 69 (.aload_n 2) 1 70 := ⟨by decide +kernel, rfl⟩
theorem d_Ct_handle_70 : am_D y_Ct_handle.2.2.1 70 (.getfield 66) 3 73 := ⟨by decide +kernel, rfl⟩
theorem d_Ct_handle_73 : am_D y_Ct_handle.2.2.1 73 (.invokevirtual 69) 3 76 := ⟨by decide +kernel, rfl⟩
theorem d_Ct_handle_76 : am_D y_Ct_handle.2.2.1 76 (.goto 60) 3 79 := ⟨by decide +kernel, rfl⟩
theorem d_Ct_handle_79 : am_D y_Ct_handle.2.2.1 79 (.aload_n 0) 1 80 := ⟨by decide +kernel, rfl⟩
theorem d_Ct_handle_80 : am_D y_Ct_handle.2.2.1 80 (.aload_n 2) 1 81 := ⟨by decide +kernel, rfl⟩
theorem d_Ct_handle_81 : am_D y_Ct_handle.2.2.1 81 (.getfield 51) 3 84 := ⟨by decide +kernel, rfl⟩
theorem d_Ct_handle_84 : am_D y_Ct_handle.2.2.1 84 (.invokevirtual 73) 3 87 := ⟨by decide +kernel, rfl⟩
theorem d_Ct_handle_87 : am_D y_Ct_handle.2.2.1 87 (.goto 49) 3 90 := ⟨by decide +kernel, rfl⟩
theorem d_Ct_handle_90 : am_D y_Ct_handle.2.2.1 90 (.aload_n 0) 1 91 := ⟨by decide +kernel, rfl⟩
theorem d_Ct_handle_91 : am_D y_Ct_handle.2.2.1 91 (.aload_n 2) 1 92 := ⟨by decide +kernel, rfl⟩
theorem d_Ct_handle_92 : am_D y_Ct_handle.2.2.1 92 (.getfield 66) 3 95 := ⟨by decide +kernel, rfl⟩
theorem d_Ct_handle_95 : am_D y_Ct_handle.2.2.1 95 (.aload_n 2) 1 96 := ⟨by decide +kernel, rfl⟩
theorem d_Ct_handle_96 : am_D y_Ct_handle.2.2.1 96 (.getfield 77) 3 99 := ⟨by decide +kernel, rfl⟩
theorem d_Ct_handle_99 : am_D y_Ct_handle.2.2.1 99 (.invokevirtual 80) 3 102 := ⟨by decide +kernel, rfl⟩
theorem d_Ct_handle_102 : am_D y_Ct_handle.2.2.1 102 (.goto 34) 3 105 := ⟨by decide +kernel, rfl⟩
theorem d_Ct_handle_105 : am_D y_Ct_handle.2.2.1 105 (.aload_n 0) 1 106 := ⟨by decide +kernel, rfl⟩
theorem d_Ct_handle_106 : am_D y_Ct_handle.2.2.1 106 (.iload_n 1) 1 107 := ⟨by decide +kernel, rfl⟩
theorem d_Ct_handle_107 : am_D y_Ct_handle.2.2.1 107 (.aload_n 2) 1 108 := ⟨by decide +kernel, rfl⟩
theorem d_Ct_handle_108 : am_D y_Ct_handle.2.2.1 108 (.getfield 66) 3 111 := ⟨by decide +kernel, rfl⟩
theorem d_Ct_handle_111 : am_D y_Ct_handle.2.2.1 111 (.aload_n 2) 1 112 := ⟨by decide +kernel, rfl⟩
theorem d_Ct_handle_112 : am_D y_Ct_handle.2.2.1 112 (.getfield 77) 3 115 := ⟨by decide +kernel, rfl⟩
theorem d_Ct_handle_115 : am_D y_Ct_handle.2.2.1 115 (.invokevirtual 83) 3 118 := ⟨by decide +kernel, rfl⟩
theorem d_Ct_handle_118 : am_D y_Ct_handle.2.2.1 118 (.goto 18) 3 121 := ⟨by decide +kernel, rfl⟩
theorem d_Ct_handle_121 : am_D y_Ct_handle.2.2.1 121 (.aload_n 0) 1 122 := ⟨by decide +kernel, rfl⟩
theorem d_Ct_handle_122 : am_D y_Ct_handle.2.2.1 122 (.iload_n 1) 1 123 := ⟨by decide +kernel, rfl⟩
theorem d_Ct_handle_123 : am_D y_Ct_handle.2.2.1 123 (.aload_n 2) 1 124 := ⟨by decide +kernel, rfl⟩
theorem d_Ct_handle_124 : am_D y_Ct_handle.2.2.1 124 (.getfield 51) 3 127 := ⟨by decide +kernel, rfl⟩
theorem d_Ct_handle_127 : am_D y_Ct_handle.2.2.1 127 (.invokestatic 62) 3 130 := ⟨by decide +kernel, rfl⟩
theorem d_Ct_handle_130 : am_D y_Ct_handle.2.2.1 130 (.invokevirtual 87) 3 133 := ⟨by decide +kernel, rfl⟩
theorem d_Ct_handle_133 : am_D y_Ct_handle.2.2.1 133 (.goto 3) 3 136 := ⟨by decide +kernel, rfl⟩
theorem d_Ct_handle_136 : am_D y_Ct_handle.2.2.1 136 (.return_) 1 137 := ⟨by decide +kernel, rfl⟩
theorem d_Ct_handleMiss_0 : am_D y_Ct_handleMiss.2.2.1 0 (.iload_n 2) 1 1 := ⟨by decide +kernel, rfl⟩
theorem d_Ct_handleMiss_1 : am_D y_Ct_handleMiss.2.2.1 1 (.iconst 4) 1 2 := ⟨by decide +kernel, rfl⟩
theorem d_Ct_handleMiss_2 : am_D y_Ct_handleMiss.2.2.1 2 (.if_icmp .eq 30) 3 5 := ⟨by decide +kernel, rfl⟩
theorem d_Ct_handleMiss_5 : am_D y_Ct_handleMiss.2.2.1 5 (.aload_n 0) 1 6 := ⟨by decide +kernel, rfl⟩
theorem d_Ct_handleMiss_6 : am_D y_Ct_handleMiss.2.2.1 6 (.getfield 19) 3 9 := ⟨by decide +kernel, rfl⟩
theorem d_Ct_handleMiss_9 : am_D y_Ct_handleMiss.2.2.1 9 (.iload_n 1) 1 10 := ⟨by decide +kernel, rfl⟩
theorem d_Ct_handleMiss_10 : am_D y_Ct_handleMiss.2.2.1 10 (.iload_n 2) 1 11 := ⟨by decide +kernel, rfl⟩
theorem d_Ct_handleMiss_11 : am_D y_Ct_handleMiss.2.2.1 11 (.invokestatic 62) 3 14 := ⟨by decide +kernel, rfl⟩
theorem d_Ct_handleMiss_14 : am_D y_Ct_handleMiss.2.2.1 14 (.baload) 1 15 := ⟨by decide +kernel, rfl⟩
theorem d_Ct_handleMiss_15 : am_D y_Ct_handleMiss.2.2.1 15 (.ifCond .ne 17) 3 18 := ⟨by decide +kernel, rfl⟩
theorem d_Ct_handleMiss_18 : am_D y_Ct_handleMiss.2.2.1 18 (.aload_n 0) 1 19 := ⟨by decide +kernel, rfl⟩
theorem d_Ct_handleMiss_19 : am_D y_Ct_handleMiss.2.2.1 19 (.getfield 23) 3 22 := ⟨by decide +kernel, rfl⟩
theorem d_Ct_handleMiss_22 : am_D y_Ct_handleMiss.2.2.1 22 (.aload_n 3) 1 23 := ⟨by decide +kernel, rfl⟩
theorem d_Ct_handleMiss_23 : am_D y_Ct_handleMiss.2.2.1 23 (.getfield 90) 3 26 := ⟨by decide +kernel, rfl⟩
theorem d_Ct_handleMiss_26 : am_D y_Ct_handleMiss.2.2.1 26 (.iload_n 1) 1 27 := ⟨by decide +kernel, rfl⟩
theorem d_Ct_handleMiss_27 : am_D y_Ct_handleMiss.2.2.1 27 (.iload_n 2) 1 28 := ⟨by decide +kernel, rfl⟩
theorem d_Ct_handleMiss_28 : am_D y_Ct_handleMiss.2.2.1 28 (.invokestatic 62) 3 31 := ⟨by decide +kernel, rfl⟩
theorem d_Ct_handleMiss_31 : am_D y_Ct_handleMiss.2.2.1 31 (.iastore) 1 32 := ⟨by decide +kernel, rfl⟩
theorem d_Ct_handleMiss_32 : am_D y_Ct_handleMiss.2.2.1 32 (.aload_n 0) 1 33 := ⟨by decide +kernel, rfl⟩
theorem d_Ct_handleMiss_33 : am_D y_Ct_handleMiss.2.2.1 33 (.aload_n 3) 1 34 := ⟨by decide +kernel, rfl⟩
theorem d_Ct_handleMiss_34 : am_D y_Ct_handleMiss.2.2.1 34 (.getfield 90) 3 37 := ⟨by decide +kernel, rfl⟩
theorem d_Ct_handleMiss_37 : am_D y_Ct_handleMiss.2.2.1 37 (.aload_n 3) 1 38 := ⟨by decide +kernel, rfl⟩
theorem d_Ct_handleMiss_38 : am_D y_Ct_handleMiss.2.2.1 38 (.getfield 93) 3 41 := ⟨by decide +kernel, rfl⟩
theorem d_Ct_handleMiss_41 : am_D y_Ct_handleMiss.2.2.1 41 (.invokevirtual 94) 3 44 := ⟨by decide +kernel, rfl⟩
theorem d_Ct_handleMiss_44 : am_D y_Ct_handleMiss.2.2.1 44 (.astore 4) 2 46 := ⟨by decide +kernel, rfl⟩
theorem d_Ct_handleMiss_46 : am_D y_Ct_handleMiss.2.2.1 46 (.aload 4) 2 48 := ⟨by decide +kernel, rfl⟩
theorem d_Ct_handleMiss_48 : am_D y_Ct_handleMiss.2.2.1 48 (.ifnull 27) 3 51 := ⟨by decide +kernel, rfl⟩
theorem d_Ct_handleMiss_51 : am_D y_Ct_handleMiss.2.2.1 51 (.aload 4) 2 53 := ⟨by decide +kernel, rfl⟩
theorem d_Ct_handleMiss_53 : am_D y_Ct_handleMiss.2.2.1 53 (.aload_n 3) 1 54 := ⟨by decide +kernel, rfl⟩
theorem d_Ct_handleMiss_54 : am_D y_Ct_handleMiss.2.2.1 54 (.putfield 98) 3 57 := ⟨by decide +kernel, rfl⟩
theorem d_Ct_handleMiss_57 : am_D y_Ct_handleMiss.2.2.1 57 (.aload 4) 2 59 := ⟨by decide +kernel, rfl⟩
theorem d_Ct_handleMiss_59 : am_D y_Ct_handleMiss.2.2.1 59 (.getfield 104) 3 62 := ⟨by decide +kernel, rfl⟩
theorem d_Ct_handleMiss_62 : am_D y_Ct_handleMiss.2.2.1 62 (.iconst 3) 1 63 := ⟨by decide +kernel, rfl⟩
theorem d_Ct_handleMiss_63 : am_D y_Ct_handleMiss.2.2.1 63 (.if_icmp .ne 40) 3 66 := ⟨by decide +kernel, rfl⟩
theorem d_Ct_handleMiss_66 : am_D y_Ct_handleMiss.2.2.1 66 (.aload_n 0) 1 67 := ⟨by decide +kernel, rfl⟩
theorem d_Ct_handleMiss_67 : am_D y_Ct_handleMiss.2.2.1 67 (.aload 4) 2 69 := ⟨by decide +kernel, rfl⟩
theorem d_Ct_handleMiss_69 : am_D y_Ct_handleMiss.2.2.1 69 (.invokevirtual 107) 3 72 := ⟨by decide +kernel, rfl⟩
theorem d_Ct_handleMiss_72 : am_D y_Ct_handleMiss.2.2.1 72 (.goto 31) 3 75 := ⟨by decide +kernel, rfl⟩
theorem d_Ct_handleMiss_75 : am_D y_Ct_handleMiss.2.2.1 75 (.aload_n 0) 1 76 := ⟨by decide +kernel, rfl⟩
theorem d_Ct_handleMiss_76 : am_D y_Ct_handleMiss.2.2.1 76 (.getfield 23) 3 79 := ⟨by decide +kernel, rfl⟩
theorem d_Ct_handleMiss_79 : am_D y_Ct_handleMiss.2.2.1 79 (.aload_n 3) 1 80 := ⟨by decide +kernel, rfl⟩
theorem d_Ct_handleMiss_80 : am_D y_Ct_handleMiss.2.2.1 80 (.getfield 93) 3 83 := ⟨by decide +kernel, rfl⟩
theorem d_Ct_handleMiss_83 : am_D y_Ct_handleMiss.2.2.1 83 (.iaload) 1 84 := ⟨by decide +kernel, rfl⟩
theorem d_Ct_handleMiss_84 : am_D y_Ct_handleMiss.2.2.1 84 (.iconst (-1)) 1 85 := ⟨by decide +kernel, rfl⟩
theorem d_Ct_handleMiss_85 : am_D y_Ct_handleMiss.2.2.1 85 (.if_icmp .ne 13) 3 88 := ⟨by decide +kernel, rfl⟩
theorem d_Ct_handleMiss_88 : am_D y_Ct_handleMiss.2.2.1 88 (.aload_n 0) 1 89 := ⟨by decide +kernel, rfl⟩
theorem d_Ct_handleMiss_89 : am_D y_Ct_handleMiss.2.2.1 89 (.iload_n 1) 1 90 := ⟨by decide +kernel, rfl⟩
theorem d_Ct_handleMiss_90 : am_D y_Ct_handleMiss.2.2.1 90 (.iload_n 2) 1 91 := ⟨by decide +kernel, rfl⟩
theorem d_Ct_handleMiss_91 : am_D y_Ct_handleMiss.2.2.1 91 (.aload_n 3) 1 92 := ⟨by decide +kernel, rfl⟩
theorem d_Ct_handleMiss_92 : am_D y_Ct_handleMiss.2.2.1 92 (.invokevirtual 111) 3 95 := ⟨by decide +kernel, rfl⟩
theorem d_Ct_handleMiss_95 : am_D y_Ct_handleMiss.2.2.1 95 (.goto 8) 3 98 := ⟨by decide +kernel, rfl⟩
theorem d_Ct_handleMiss_98 : am_D y_Ct_handleMiss.2.2.1 98 (.aload_n 0) 1 99 := ⟨by decide +kernel, rfl⟩
theorem d_Ct_handleMiss_99 : am_D y_Ct_handleMiss.2.2.1 99 (.aload_n 3) 1 100 := ⟨by decide +kernel, rfl⟩
theorem d_Ct_handleMiss_100 : am_D y_Ct_handleMiss.2.2.1 100 (.invokevirtual 114) 3 103 := ⟨by decide +kernel, rfl⟩
theorem d_Ct_handleMiss_103 : am_D y_Ct_handleMiss.2.2.1 103 (.return_) 1 104 := ⟨by decide +kernel, rfl⟩
theorem d_Ct_courseOf_0 : am_D y_Ct_courseOf.2.2.1 0 (.iconst 0) 1 1 := ⟨by decide +kernel, rfl⟩
theorem d_Ct_courseOf_1 : am_D y_Ct_courseOf.2.2.1 1 (.istore_n 3) 1 2 := ⟨by decide +kernel, rfl⟩
theorem d_Ct_courseOf_2 : am_D y_Ct_courseOf.2.2.1 2 (.iload_n 3) 1 3 := ⟨by decide +kernel, rfl⟩
theorem d_Ct_courseOf_3 : am_D y_Ct_courseOf.2.2.1 3 (.aload_n 0) 1 4 := ⟨by decide +kernel, rfl⟩
theorem d_Ct_courseOf_4 : am_D y_Ct_courseOf.2.2.1 4 (.getfield 29) 3 7 := ⟨by decide +kernel, rfl⟩
theorem d_Ct_courseOf_7 : am_D y_Ct_courseOf.2.2.1 7 (.invokevirtual 123) 3 10 := ⟨by decide +kernel, rfl⟩
theorem d_Ct_courseOf_10 : am_D y_Ct_courseOf.2.2.1 10 (.if_icmp .ge 43) 3 13 := ⟨by decide +kernel, rfl⟩
theorem d_Ct_courseOf_13 : am_D y_Ct_courseOf.2.2.1 13 (.aload_n 0) 1 14 := ⟨by decide +kernel, rfl⟩
theorem d_Ct_courseOf_14 : am_D y_Ct_courseOf.2.2.1 14 (.getfield 29) 3 17 := ⟨by decide +kernel, rfl⟩
theorem d_Ct_courseOf_17 : am_D y_Ct_courseOf.2.2.1 17 (.iload_n 3) 1 18 := ⟨by decide +kernel, rfl⟩
theorem d_Ct_courseOf_18 : am_D y_Ct_courseOf.2.2.1 18 (.invokevirtual 148) 3 21 := ⟨by decide +kernel, rfl⟩
theorem d_Ct_courseOf_21 : am_D y_Ct_courseOf.2.2.1 21 (.checkcast 99) 3 24 := ⟨by decide +kernel, rfl⟩
theorem d_Ct_courseOf_24 : am_D y_Ct_courseOf.2.2.1 24 (.astore 4) 2 26 := ⟨by decide +kernel, rfl⟩
theorem d_Ct_courseOf_26 : am_D y_Ct_courseOf.2.2.1 26 (.aload 4) 2 28 := ⟨by decide +kernel, rfl⟩
theorem d_Ct_courseOf_28 : am_D y_Ct_courseOf.2.2.1 28 (.getfield 179) 3 31 := ⟨by decide +kernel, rfl⟩
theorem d_Ct_courseOf_31 : am_D y_Ct_courseOf.2.2.1 31 (.iload_n 1) 1 32 := ⟨by decide +kernel, rfl⟩
theorem d_Ct_courseOf_32 : am_D y_Ct_courseOf.2.2.1 32 (.if_icmp .ne 15) 3 35 := ⟨by decide +kernel, rfl⟩
theorem d_Ct_courseOf_35 : am_D y_Ct_courseOf.2.2.1 35 (.aload 4) 2 37 := ⟨by decide +kernel, rfl⟩
theorem d_Ct_courseOf_37 : am_D y_Ct_courseOf.2.2.1 37 (.getfield 180) 3 40 := ⟨by decide +kernel, rfl⟩
theorem d_Ct_courseOf_40 : am_D y_Ct_courseOf.2.2.1 40 (.iload_n 2) 1 41 := ⟨by decide +kernel, rfl⟩
theorem d_Ct_courseOf_41 : am_D y_Ct_courseOf.2.2.1 41 (.if_icmp .ne 6) 3 44 := ⟨by decide +kernel, rfl⟩
theorem d_Ct_courseOf_44 : am_D y_Ct_courseOf.2.2.1 44 (.aload 4) 2 46 := ⟨by decide +kernel, rfl⟩
theorem d_Ct_courseOf_46 : am_D y_Ct_courseOf.2.2.1 46 (.areturn) 1 47 := ⟨by decide +kernel, rfl⟩
theorem d_Ct_courseOf_47 : am_D y_Ct_courseOf.2.2.1 47 (.iinc 3 1) 3 50 := ⟨by decide +kernel, rfl⟩
theorem d_Ct_courseOf_50 : am_D y_Ct_courseOf.2.2.1 50 (.goto (-48)) 3 53 := ⟨by decide +kernel, rfl⟩
theorem d_Ct_courseOf_53 : am_D y_Ct_courseOf.2.2.1 53 (.aconst_null) 1 54 := ⟨by decide +kernel, rfl⟩
theorem d_Ct_courseOf_54 : am_D y_Ct_courseOf.2.2.1 54 (.areturn) 1 55 := ⟨by decide +kernel, rfl⟩
theorem d_Ct_clearCourse_0 : am_D y_Ct_clearCourse.2.2.1 0 (.aload_n 0) 1 1 := ⟨by decide +kernel, rfl⟩
theorem d_Ct_clearCourse_1 : am_D y_Ct_clearCourse.2.2.1 1 (.dup) 1 2 := ⟨by decide +kernel, rfl⟩
theorem d_Ct_clearCourse_2 : am_D y_Ct_clearCourse.2.2.1 2 (.getfield 36) 3 5 := ⟨by decide +kernel, rfl⟩
theorem d_Ct_clearCourse_5 : am_D y_Ct_clearCourse.2.2.1 5 (.iconst 1) 1 6 := ⟨by decide +kernel, rfl⟩
theorem d_Ct_clearCourse_6 : am_D y_Ct_clearCourse.2.2.1 6 (.iadd) 1 7 := ⟨by decide +kernel, rfl⟩
theorem d_Ct_clearCourse_7 : am_D y_Ct_clearCourse.2.2.1 7 (.putfield 36) 3 10 := ⟨by decide +kernel, rfl⟩
theorem d_Ct_clearCourse_10 : am_D y_Ct_clearCourse.2.2.1 10 (.aload_n 1) 1 11 := ⟨by decide +kernel, rfl⟩
theorem d_Ct_clearCourse_11 : am_D y_Ct_clearCourse.2.2.1 11 (.iconst 1) 1 12 := ⟨by decide +kernel, rfl⟩
theorem d_Ct_clearCourse_12 : am_D y_Ct_clearCourse.2.2.1 12 (.putfield 104) 3 15 := ⟨by decide +kernel, rfl⟩
theorem d_Ct_clearCourse_15 : am_D y_Ct_clearCourse.2.2.1 15 (.aload_n 1) 1 16 := ⟨by decide +kernel, rfl⟩
theorem d_Ct_clearCourse_16 : am_D y_Ct_clearCourse.2.2.1 16 (.aload_n 0) 1 17 := ⟨by decide +kernel, rfl⟩
theorem d_Ct_clearCourse_17 : am_D y_Ct_clearCourse.2.2.1 17 (.getfield 36) 3 20 := ⟨by decide +kernel, rfl⟩
theorem d_Ct_clearCourse_20 : am_D y_Ct_clearCourse.2.2.1 20 (.putfield 160) 3 23 := ⟨by decide +kernel, rfl⟩
theorem d_Ct_clearCourse_23 : am_D y_Ct_clearCourse.2.2.1 23 (.aload_n 1) 1 24 := ⟨by decide +kernel, rfl⟩
theorem d_Ct_clearCourse_24 : am_D y_Ct_clearCourse.2.2.1 24 (.aload_n 1) 1 25 := ⟨by decide +kernel, rfl⟩
theorem d_Ct_clearCourse_25 : am_D y_Ct_clearCourse.2.2.1 25 (.getfield 184) 3 28 := ⟨by decide +kernel, rfl⟩
theorem d_Ct_clearCourse_28 : am_D y_Ct_clearCourse.2.2.1 28 (.arraylength) 1 29 := ⟨by decide +kernel, rfl⟩
theorem d_Ct_clearCourse_29 : am_D y_Ct_clearCourse.2.2.1 29 (.putfield 173) 3 32 := ⟨by decide +kernel, rfl⟩
theorem d_Ct_clearCourse_32 : am_D y_Ct_clearCourse.2.2.1 32 (.iconst 1) 1 33 := ⟨by decide +kernel, rfl⟩
theorem d_Ct_clearCourse_33 : am_D y_Ct_clearCourse.2.2.1 33 (.iconst (-1)) 1 34 := ⟨by decide +kernel, rfl⟩
theorem d_Ct_clearCourse_34 : am_D y_Ct_clearCourse.2.2.1 34 (.aload_n 1) 1 35 := ⟨by decide +kernel, rfl⟩
theorem d_Ct_clearCourse_35 : am_D y_Ct_clearCourse.2.2.1 35 (.getfield 179) 3 38 := ⟨by decide +kernel, rfl⟩
theorem d_Ct_clearCourse_38 : am_D y_Ct_clearCourse.2.2.1 38 (.aload_n 1) 1 39 := ⟨by decide +kernel, rfl⟩
theorem d_Ct_clearCourse_39 : am_D y_Ct_clearCourse.2.2.1 39 (.getfield 180) 3 42 := ⟨by decide +kernel, rfl⟩
theorem d_Ct_clearCourse_42 : am_D y_Ct_clearCourse.2.2.1 42 (.invokestatic 197) 3 45 := ⟨by decide +kernel, rfl⟩
theorem d_Ct_clearCourse_45 : am_D y_Ct_clearCourse.2.2.1 45 (.astore_n 2) 1 46 := ⟨by decide +kernel, rfl⟩
theorem d_Ct_clearCourse_46 : am_D y_Ct_clearCourse.2.2.1 46 (.iconst 2) 1 47 := ⟨by decide +kernel, rfl⟩
theorem d_Ct_clearCourse_47 : am_D y_Ct_clearCourse.2.2.1 47 (.aload_n 0) 1 48 := ⟨by decide +kernel, rfl⟩
theorem d_Ct_clearCourse_48 : am_D y_Ct_clearCourse.2.2.1 48 (.getfield 36) 3 51 := ⟨by decide +kernel, rfl⟩
theorem d_Ct_clearCourse_51 : am_D y_Ct_clearCourse.2.2.1 51 (.invokestatic 201) 3 54 := ⟨by decide +kernel, rfl⟩
theorem d_Ct_clearCourse_54 : am_D y_Ct_clearCourse.2.2.1 54 (.astore_n 3) 1 55 := ⟨by decide +kernel, rfl⟩
theorem d_Ct_clearCourse_55 : am_D y_Ct_clearCourse.2.2.1 55 (.aload_n 1) 1 56 := ⟨by decide +kernel, rfl⟩
theorem d_Ct_clearCourse_56 : am_D y_Ct_clearCourse.2.2.1 56 (.getfield 184) 3 59 := ⟨by decide +kernel, rfl⟩
theorem d_Ct_clearCourse_59 : am_D y_Ct_clearCourse.2.2.1 59 (.astore 4) 2 61 := ⟨by decide +kernel, rfl⟩
theorem d_Ct_clearCourse_61 : am_D y_Ct_clearCourse.2.2.1 61 (.aload 4) 2 63 := ⟨by decide +kernel, rfl⟩
theorem d_Ct_clearCourse_63 : am_D y_Ct_clearCourse.2.2.1 63 (.arraylength) 1 64 := ⟨by decide +kernel, rfl⟩
theorem d_Ct_clearCourse_64 : am_D y_Ct_clearCourse.2.2.1 64 (.istore 5) 2 66 := ⟨by decide +kernel, rfl⟩
theorem d_Ct_clearCourse_66 : am_D y_Ct_clearCourse.2.2.1 66 (.iconst 0) 1 67 := ⟨by decide +kernel, rfl⟩
theorem d_Ct_clearCourse_67 : am_D y_Ct_clearCourse.2.2.1 67 (.istore 6) 2 69 := ⟨by decide +kernel, rfl⟩
theorem d_Ct_clearCourse_69 : am_D y_Ct_clearCourse.2.2.1 69 (.iload 6) 2 71 := ⟨by decide +kernel, rfl⟩
theorem d_Ct_clearCourse_71 : am_D y_Ct_clearCourse.2.2.1 71 (.iload 5) 2 73 := ⟨by decide +kernel, rfl⟩
theorem d_Ct_clearCourse_73 : am_D y_Ct_clearCourse.2.2.1 73 (.if_icmp .ge 52) 3 76 := ⟨by decide +kernel, rfl⟩
theorem d_Ct_clearCourse_76 : am_D y_Ct_clearCourse.2.2.1 76 (.aload 4) 2 78 := ⟨by decide +kernel, rfl⟩
theorem d_Ct_clearCourse_78 : am_D y_Ct_clearCourse.2.2.1 78 (.iload 6) 2 80 := ⟨by decide +kernel, rfl⟩
theorem d_Ct_clearCourse_80 : am_D y_Ct_clearCourse.2.2.1 80 (.iaload) 1 81 := ⟨by decide +kernel, rfl⟩
theorem d_Ct_clearCourse_81 : am_D y_Ct_clearCourse.2.2.1 81 (.istore 7) 2 83 := ⟨by decide +kernel, rfl⟩
theorem d_Ct_clearCourse_83 : am_D y_Ct_clearCourse.2.2.1 83 (.aload_n 0) 1 84 := ⟨by decide +kernel, rfl⟩
theorem d_Ct_clearCourse_84 : am_D y_Ct_clearCourse.2.2.1 84 (.getfield 9) 3 87 := ⟨by decide +kernel, rfl⟩
theorem d_Ct_clearCourse_87 : am_D y_Ct_clearCourse.2.2.1 87 (.iload 7) 2 89 := ⟨by decide +kernel, rfl⟩
theorem d_Ct_clearCourse_89 : am_D y_Ct_clearCourse.2.2.1 89 (.invokestatic 187) 3 92 := ⟨by decide +kernel, rfl⟩
theorem d_Ct_clearCourse_92 : am_D y_Ct_clearCourse.2.2.1 92 (.aaload) 1 93 := ⟨by decide +kernel, rfl⟩
theorem d_Ct_clearCourse_93 : am_D y_Ct_clearCourse.2.2.1 93 (.getfield 118) 3 96 := ⟨by decide +kernel, rfl⟩
theorem d_Ct_clearCourse_96 : am_D y_Ct_clearCourse.2.2.1 96 (.aload_n 2) 1 97 := ⟨by decide +kernel, rfl⟩
theorem d_Ct_clearCourse_97 : am_D y_Ct_clearCourse.2.2.1 97 (.invokevirtual 131) 3 100 := ⟨by decide +kernel, rfl⟩
theorem d_Ct_clearCourse_100 : am_D y_Ct_clearCourse.2.2.1 100 (.pop) 1 101 := ⟨by decide +kernel, rfl⟩
theorem d_Ct_clearCourse_101 : am_D y_Ct_clearCourse.2.2.1 101 (.aload_n 0) 1 102 := ⟨by decide +kernel, rfl⟩
theorem d_Ct_clearCourse_102 : am_D y_Ct_clearCourse.2.2.1 102 (.getfield 9) 3 105 := ⟨by decide +kernel, rfl⟩
theorem d_Ct_clearCourse_105 : am_D y_Ct_clearCourse.2.2.1 105 (.iload 7) 2 107 := ⟨by decide +kernel, rfl⟩
theorem d_Ct_clearCourse_107 : am_D y_Ct_clearCourse.2.2.1 107 (.invokestatic 187) 3 110 := ⟨by decide +kernel, rfl⟩
theorem d_Ct_clearCourse_110 : am_D y_Ct_clearCourse.2.2.1 110 (.aaload) 1 111 := ⟨by decide +kernel, rfl⟩
theorem d_Ct_clearCourse_111 : am_D y_Ct_clearCourse.2.2.1 111 (.getfield 118) 3 114 := ⟨by decide +kernel, rfl⟩
theorem d_Ct_clearCourse_114 : am_D y_Ct_clearCourse.2.2.1 114 (.aload_n 3) 1 115 := ⟨by decide +kernel, rfl⟩
theorem d_Ct_clearCourse_115 : am_D y_Ct_clearCourse.2.2.1 115 (.invokevirtual 131) 3 118 := ⟨by decide +kernel, rfl⟩
theorem d_Ct_clearCourse_118 : am_D y_Ct_clearCourse.2.2.1 118 (.pop) 1 119 := ⟨by decide +kernel, rfl⟩
theorem d_Ct_clearCourse_119 : am_D y_Ct_clearCourse.2.2.1 119 (.iinc 6 1) 3 122 := ⟨by decide +kernel, rfl⟩
theorem d_Ct_clearCourse_122 : am_D y_Ct_clearCourse.2.2.1 122 (.goto (-53)) 3 125 := ⟨by decide +kernel, rfl⟩
theorem d_Ct_clearCourse_125 : am_D y_Ct_clearCourse.2.2.1 125 (.return_) 1 126 := ⟨by decide +kernel, rfl⟩
theorem d_Ct_orderOuts_0 : am_D y_Ct_orderOuts.2.2.1 0 (.iconst 0) 1 1 := ⟨by decide +kernel, rfl⟩
theorem d_Ct_orderOuts_1 : am_D y_Ct_orderOuts.2.2.1 1 (.istore 4) 2 3 := ⟨by decide +kernel, rfl⟩
theorem d_Ct_orderOuts_3 : am_D y_Ct_orderOuts.2.2.1 3 (.iload 4) 2 5 := ⟨by decide +kernel, rfl⟩
theorem d_Ct_orderOuts_5 : am_D y_Ct_orderOuts.2.2.1 5 (.aload_n 0) 1 6 := ⟨by decide +kernel, rfl⟩
theorem d_Ct_orderOuts_6 : am_D y_Ct_orderOuts.2.2.1 6 (.getfield 9) 3 9 := ⟨by decide +kernel, rfl⟩
theorem d_Ct_orderOuts_9 : am_D y_Ct_orderOuts.2.2.1 9 (.arraylength) 1 10 := ⟨by decide +kernel, rfl⟩
theorem d_Ct_orderOuts_10 : am_D y_Ct_orderOuts.2.2.1 10 (.if_icmp .ge 119) 3 13 := ⟨by decide +kernel, rfl⟩
theorem d_Ct_orderOuts_13 : am_D y_Ct_orderOuts.2.2.1 13 (.iconst 0) 1 14 := ⟨by decide +kernel, rfl⟩
theorem d_Ct_orderOuts_14 : am_D y_Ct_orderOuts.2.2.1 14 (.istore 5) 2 16 := ⟨by decide +kernel, rfl⟩
theorem d_Ct_orderOuts_16 : am_D y_Ct_orderOuts.2.2.1 16 (.iconst 0) 1 17 := ⟨by decide +kernel, rfl⟩
theorem d_Ct_orderOuts_17 : am_D y_Ct_orderOuts.2.2.1 17 (.istore 6) 2 19 := ⟨by decide +kernel, rfl⟩
theorem d_Ct_orderOuts_19 : am_D y_Ct_orderOuts.2.2.1 19 (.iload 6) 2 21 := ⟨by decide +kernel, rfl⟩
theorem d_Ct_orderOuts_21 : am_D y_Ct_orderOuts.2.2.1 21 (.iconst 4) 1 22 := ⟨by decide +kernel, rfl⟩
theorem d_Ct_orderOuts_22 : am_D y_Ct_orderOuts.2.2.1 22 (.if_icmp .ge 57) 3 25 := ⟨by decide +kernel, rfl⟩
theorem d_Ct_orderOuts_25 : am_D y_Ct_orderOuts.2.2.1 25 (.iload 4) 2 27 := ⟨by decide +kernel, rfl⟩
theorem d_Ct_orderOuts_27 : am_D y_Ct_orderOuts.2.2.1 27 (.iload_n 1) 1 28 := ⟨by decide +kernel, rfl⟩
theorem d_Ct_orderOuts_28 : am_D y_Ct_orderOuts.2.2.1 28 (.if_icmp .ne 13) 3 31 := ⟨by decide +kernel, rfl⟩
theorem d_Ct_orderOuts_31 : am_D y_Ct_orderOuts.2.2.1 31 (.iload 6) 2 33 := ⟨by decide +kernel, rfl⟩
theorem d_Ct_orderOuts_33 : am_D y_Ct_orderOuts.2.2.1 33 (.iload_n 2) 1 34 := ⟨by decide +kernel, rfl⟩
theorem d_Ct_orderOuts_34 : am_D y_Ct_orderOuts.2.2.1 34 (.if_icmp .ne 7) 3 37 := ⟨by decide +kernel, rfl⟩
theorem d_Ct_orderOuts_37 : am_D y_Ct_orderOuts.2.2.1 37 (.iconst 1) 1 38 := ⟨by decide +kernel, rfl⟩
theorem d_Ct_orderOuts_38 : am_D y_Ct_orderOuts.2.2.1 38 (.goto 4) 3 41 := ⟨by decide +kernel, rfl⟩
theorem d_Ct_orderOuts_41 : am_D y_Ct_orderOuts.2.2.1 41 (.iconst 0) 1 42 := ⟨by decide +kernel, rfl⟩
theorem d_Ct_orderOuts_42 : am_D y_Ct_orderOuts.2.2.1 42 (.istore 7) 2 44 := ⟨by decide +kernel, rfl⟩
theorem d_Ct_orderOuts_44 : am_D y_Ct_orderOuts.2.2.1 44 (.aload_n 0) 1 45 := ⟨by decide +kernel, rfl⟩
theorem d_Ct_orderOuts_45 : am_D y_Ct_orderOuts.2.2.1 45 (.getfield 19) 3 48 := ⟨by decide +kernel, rfl⟩
theorem d_Ct_orderOuts_48 : am_D y_Ct_orderOuts.2.2.1 48 (.iload 4) 2 50 := ⟨by decide +kernel, rfl⟩
theorem d_Ct_orderOuts_50 : am_D y_Ct_orderOuts.2.2.1 50 (.iload 6) 2 52 := ⟨by decide +kernel, rfl⟩
theorem d_Ct_orderOuts_52 : am_D y_Ct_orderOuts.2.2.1 52 (.invokestatic 62) 3 55 := ⟨by decide +kernel, rfl⟩
theorem d_Ct_orderOuts_55 : am_D y_Ct_orderOuts.2.2.1 55 (.baload) 1 56 := ⟨by decide +kernel, rfl⟩
theorem d_Ct_orderOuts_56 : am_D y_Ct_orderOuts.2.2.1 56 (.ifCond .ne 17) 3 59 := ⟨by decide +kernel, rfl⟩
theorem d_Ct_orderOuts_59 : am_D y_Ct_orderOuts.2.2.1 59 (.iload 7) 2 61 := ⟨by decide +kernel, rfl⟩
theorem d_Ct_orderOuts_61 : am_D y_Ct_orderOuts.2.2.1 61 (.ifCond .ne 12) 3 64 := ⟨by decide +kernel, rfl⟩
theorem d_Ct_orderOuts_64 : am_D y_Ct_orderOuts.2.2.1 64 (.iload 5) 2 66 := ⟨by decide +kernel, rfl⟩
theorem d_Ct_orderOuts_66 : am_D y_Ct_orderOuts.2.2.1 66 (.iconst 1) 1 67 := ⟨by decide +kernel, rfl⟩
theorem d_Ct_orderOuts_67 : am_D y_Ct_orderOuts.2.2.1 67 (.iload 6) 2 69 := ⟨by decide +kernel, rfl⟩
theorem d_Ct_orderOuts_69 : am_D y_Ct_orderOuts.2.2.1 69 (.ishl) 1 70 := ⟨by decide +kernel, rfl⟩
theorem d_Ct_orderOuts_70 : am_D y_Ct_orderOuts.2.2.1 70 (.ior) 1 71 := ⟨by decide +kernel, rfl⟩
theorem d_Ct_orderOuts_71 : am_D y_Ct_orderOuts.2.2.1 71 (.istore 5) 2 73 := ⟨by decide +kernel, rfl⟩
theorem d_Ct_orderOuts_73 : am_D y_Ct_orderOuts.2.2.1 73 (.iinc 6 1) 3 76 := ⟨by decide +kernel, rfl⟩
theorem d_Ct_orderOuts_76 : am_D y_Ct_orderOuts.2.2.1 76 (.goto (-57)) 3 79 := ⟨by decide +kernel, rfl⟩
theorem d_Ct_orderOuts_79 : am_D y_Ct_orderOuts.2.2.1 79 (.iload 5) 2 81 := ⟨by decide +kernel, rfl⟩
theorem d_Ct_orderOuts_81 : am_D y_Ct_orderOuts.2.2.1 81 (.ifCond .eq 42) 3 84 := ⟨by decide +kernel, rfl⟩
theorem d_Ct_orderOuts_84 : am_D y_Ct_orderOuts.2.2.1 84 (.aload_n 0) 1 85 := ⟨by decide +kernel, rfl⟩
theorem d_Ct_orderOuts_85 : am_D y_Ct_orderOuts.2.2.1 85 (.getfield 9) 3 88 := ⟨by decide +kernel, rfl⟩
theorem d_Ct_orderOuts_88 : am_D y_Ct_orderOuts.2.2.1 88 (.iload 4) 2 90 := ⟨by decide +kernel, rfl⟩
theorem d_Ct_orderOuts_90 : am_D y_Ct_orderOuts.2.2.1 90 (.aaload) 1 91 := ⟨by decide +kernel, rfl⟩
theorem d_Ct_orderOuts_91 : am_D y_Ct_orderOuts.2.2.1 91 (.getfield 118) 3 94 := ⟨by decide +kernel, rfl⟩
theorem d_Ct_orderOuts_94 : am_D y_Ct_orderOuts.2.2.1 94 (.invokevirtual 123) 3 97 := ⟨by decide +kernel, rfl⟩
theorem d_Ct_orderOuts_97 : am_D y_Ct_orderOuts.2.2.1 97 (.bipush 16) 2 99 := ⟨by decide +kernel, rfl⟩
theorem d_Ct_orderOuts_99 : am_D y_Ct_orderOuts.2.2.1 99 (.if_icmp .ge 24) 3 102 := ⟨by decide +kernel, rfl⟩
theorem d_Ct_orderOuts_102 : am_D y_Ct_orderOuts.2.2.1 102 (.aload_n 0) 1 103 := ⟨by decide +kernel, rfl⟩
theorem d_Ct_orderOuts_103 : am_D y_Ct_orderOuts.2.2.1 103 (.getfield 9) 3 106 := ⟨by decide +kernel, rfl⟩
theorem d_Ct_orderOuts_106 : am_D y_Ct_orderOuts.2.2.1 106 (.iload 4) 2 108 := ⟨by decide +kernel, rfl⟩
theorem d_Ct_orderOuts_108 : am_D y_Ct_orderOuts.2.2.1 108 (.aaload) 1 109 := ⟨by decide +kernel, rfl⟩
theorem d_Ct_orderOuts_109 : am_D y_Ct_orderOuts.2.2.1 109 (.getfield 118) 3 112 := ⟨by decide +kernel, rfl⟩
theorem d_Ct_orderOuts_112 : am_D y_Ct_orderOuts.2.2.1 112 (.iconst 3) 1 113 := ⟨by decide +kernel, rfl⟩
theorem d_Ct_orderOuts_113 : am_D y_Ct_orderOuts.2.2.1 113 (.iload 5) 2 115 := ⟨by decide +kernel, rfl⟩
theorem d_Ct_orderOuts_115 : am_D y_Ct_orderOuts.2.2.1 115 (.aload_n 3) 1 116 := ⟨by decide +kernel, rfl⟩
theorem d_Ct_orderOuts_116 : am_D y_Ct_orderOuts.2.2.1 116 (.invokestatic 127) 3 119 := ⟨by decide +kernel, rfl⟩
theorem d_Ct_orderOuts_119 : am_D y_Ct_orderOuts.2.2.1 119 (.invokevirtual 131) 3 122 := ⟨by decide +kernel, rfl⟩
theorem d_Ct_orderOuts_122 : am_D y_Ct_orderOuts.2.2.1 122 (.pop) 1 123 := ⟨by decide +kernel, rfl⟩
theorem d_Ct_orderOuts_123 : am_D y_Ct_orderOuts.2.2.1 123 (.iinc 4 1) 3 126 := ⟨by decide +kernel, rfl⟩
theorem d_Ct_orderOuts_126 : am_D y_Ct_orderOuts.2.2.1 126 (.goto (-123)) 3 129 := ⟨by decide +kernel, rfl⟩
theorem d_Ct_orderOuts_129 : am_D y_Ct_orderOuts.2.2.1 129 (.return_) 1 130 := ⟨by decide +kernel, rfl⟩
theorem d_Ct_makeCourse_0 : am_D y_Ct_makeCourse.2.2.1 0 (.aload_n 0) 1 1 := ⟨by decide +kernel, rfl⟩
theorem d_Ct_makeCourse_1 : am_D y_Ct_makeCourse.2.2.1 1 (.getfield 29) 3 4 := ⟨by decide +kernel, rfl⟩
theorem d_Ct_makeCourse_4 : am_D y_Ct_makeCourse.2.2.1 4 (.invokevirtual 123) 3 7 := ⟨by decide +kernel, rfl⟩
theorem d_Ct_makeCourse_7 : am_D y_Ct_makeCourse.2.2.1 7 (.bipush 6) 2 9 := ⟨by decide +kernel, rfl⟩
theorem d_Ct_makeCourse_9 : am_D y_Ct_makeCourse.2.2.1 9 (.if_icmp .lt 4) 3 12 := ⟨by decide +kernel, rfl⟩
theorem d_Ct_makeCourse_12 : am_D y_Ct_makeCourse.2.2.1 12 (.return_) 1 13 := ⟨by decide +kernel, rfl⟩
theorem d_Ct_makeCourse_13 : am_D y_Ct_makeCourse.2.2.1 13 (.aload_n 0) 1 14 := ⟨by decide +kernel, rfl⟩
theorem d_Ct_makeCourse_14 : am_D y_Ct_makeCourse.2.2.1 14 (.aload_n 1) 1 15 := ⟨by decide +kernel, rfl⟩
theorem d_Ct_makeCourse_15 : am_D y_Ct_makeCourse.2.2.1 15 (.getfield 90) 3 18 := ⟨by decide +kernel, rfl⟩
theorem d_Ct_makeCourse_18 : am_D y_Ct_makeCourse.2.2.1 18 (.aload_n 1) 1 19 := ⟨by decide +kernel, rfl⟩
theorem d_Ct_makeCourse_19 : am_D y_Ct_makeCourse.2.2.1 19 (.getfield 93) 3 22 := ⟨by decide +kernel, rfl⟩
theorem d_Ct_makeCourse_22 : am_D y_Ct_makeCourse.2.2.1 22 (.invokevirtual 135) 3 25 := ⟨by decide +kernel, rfl⟩
theorem d_Ct_makeCourse_25 : am_D y_Ct_makeCourse.2.2.1 25 (.astore_n 2) 1 26 := ⟨by decide +kernel, rfl⟩
theorem d_Ct_makeCourse_26 : am_D y_Ct_makeCourse.2.2.1 26 (.aload_n 2) 1 27 := ⟨by decide +kernel, rfl⟩
theorem d_Ct_makeCourse_27 : am_D y_Ct_makeCourse.2.2.1 27 (.arraylength) 1 28 := ⟨by decide +kernel, rfl⟩
theorem d_Ct_makeCourse_28 : am_D y_Ct_makeCourse.2.2.1 28 (.ifCond .ne 4) 3 31 := ⟨by decide +kernel, rfl⟩
theorem d_Ct_makeCourse_31 : am_D y_Ct_makeCourse.2.2.1 31 (.return_) 1 32 := ⟨by decide +kernel, rfl⟩
theorem d_Ct_makeCourse_32 : am_D y_Ct_makeCourse.2.2.1 32 (.new 99) 3 35 := ⟨by decide +kernel, rfl⟩
theorem d_Ct_makeCourse_35 : am_D y_Ct_makeCourse.2.2.1 35 (.dup) 1 36 := ⟨by decide +kernel, rfl⟩
theorem d_Ct_makeCourse_36 : am_D y_Ct_makeCourse.2.2.1 36 (.aload_n 1) 1 37 := ⟨by decide +kernel, rfl⟩
theorem d_Ct_makeCourse_37 : am_D y_Ct_makeCourse.2.2.1 37 (.getfield 90) 3 40 := ⟨by decide +kernel, rfl⟩
theorem d_Ct_makeCourse_40 : am_D y_Ct_makeCourse.2.2.1 40 (.aload_n 1) 1 41 := ⟨by decide +kernel, rfl⟩
theorem d_Ct_makeCourse_41 : am_D y_Ct_makeCourse.2.2.1 41 (.getfield 93) 3 44 := ⟨by decide +kernel, rfl⟩
theorem d_Ct_makeCourse_44 : am_D y_Ct_makeCourse.2.2.1 44 (.aload_n 1) 1 45 := ⟨by decide +kernel, rfl⟩
theorem d_Ct_makeCourse_45 : am_D y_Ct_makeCourse.2.2.1 45 (.invokespecial 139) 3 48 := ⟨by decide +kernel, rfl⟩
theorem d_Ct_makeCourse_48 : am_D y_Ct_makeCourse.2.2.1 48 (.astore_n 3) 1 49 := ⟨by decide +kernel, rfl⟩
theorem d_Ct_makeCourse_49 : am_D y_Ct_makeCourse.2.2.1 49 (.aload_n 0) 1 50 := ⟨by decide +kernel, rfl⟩
theorem d_Ct_makeCourse_50 : am_D y_Ct_makeCourse.2.2.1 50 (.getfield 29) 3 53 := ⟨by decide +kernel, rfl⟩
theorem d_Ct_makeCourse_53 : am_D y_Ct_makeCourse.2.2.1 53 (.aload_n 3) 1 54 := ⟨by decide +kernel, rfl⟩
theorem d_Ct_makeCourse_54 : am_D y_Ct_makeCourse.2.2.1 54 (.invokevirtual 131) 3 57 := ⟨by decide +kernel, rfl⟩
theorem d_Ct_makeCourse_57 : am_D y_Ct_makeCourse.2.2.1 57 (.pop) 1 58 := ⟨by decide +kernel, rfl⟩
theorem d_Ct_makeCourse_58 : am_D y_Ct_makeCourse.2.2.1 58 (.aload_n 3) 1 59 := ⟨by decide +kernel, rfl⟩
theorem d_Ct_makeCourse_59 : am_D y_Ct_makeCourse.2.2.1 59 (.aload_n 2) 1 60 := ⟨by decide +kernel, rfl⟩
theorem d_Ct_makeCourse_60 : am_D y_Ct_makeCourse.2.2.1 60 (.invokevirtual 141) 3 63 := ⟨by decide +kernel, rfl⟩
theorem d_Ct_makeCourse_63 : am_D y_Ct_makeCourse.2.2.1 63 (.aload_n 0) 1 64 := ⟨by decide +kernel, rfl⟩
theorem d_Ct_makeCourse_64 : am_D y_Ct_makeCourse.2.2.1 64 (.aload_n 3) 1 65 := ⟨by decide +kernel, rfl⟩
theorem d_Ct_makeCourse_65 : am_D y_Ct_makeCourse.2.2.1 65 (.invokevirtual 145) 3 68 := ⟨by decide +kernel, rfl⟩
theorem d_Ct_makeCourse_68 : am_D y_Ct_makeCourse.2.2.1 68 (.return_) 1 69 := ⟨by decide +kernel, rfl⟩
theorem d_Ct_findWay_0 : am_D y_Ct_findWay.2.2.1 0 (.aload_n 0) 1 1 := ⟨by decide +kernel, rfl⟩
theorem d_Ct_findWay_1 : am_D y_Ct_findWay.2.2.1 1 (.getfield 23) 3 4 := ⟨by decide +kernel, rfl⟩
theorem d_Ct_findWay_4 : am_D y_Ct_findWay.2.2.1 4 (.iload_n 1) 1 5 := ⟨by decide +kernel, rfl⟩
theorem d_Ct_findWay_5 : am_D y_Ct_findWay.2.2.1 5 (.iaload) 1 6 := ⟨by decide +kernel, rfl⟩
theorem d_Ct_findWay_6 : am_D y_Ct_findWay.2.2.1 6 (.iconst (-1)) 1 7 := ⟨by decide +kernel, rfl⟩
theorem d_Ct_findWay_7 : am_D y_Ct_findWay.2.2.1 7 (.if_icmp .eq 13) 3 10 := ⟨by decide +kernel, rfl⟩
theorem d_Ct_findWay_10 : am_D y_Ct_findWay.2.2.1 10 (.aload_n 0) 1 11 := ⟨by decide +kernel, rfl⟩
theorem d_Ct_findWay_11 : am_D y_Ct_findWay.2.2.1 11 (.getfield 23) 3 14 := ⟨by decide +kernel, rfl⟩
theorem d_Ct_findWay_14 : am_D y_Ct_findWay.2.2.1 14 (.iload_n 2) 1 15 := ⟨by decide +kernel, rfl⟩
theorem d_Ct_findWay_15 : am_D y_Ct_findWay.2.2.1 15 (.iaload) 1 16 := ⟨by decide +kernel, rfl⟩
theorem d_Ct_findWay_16 : am_D y_Ct_findWay.2.2.1 16 (.iconst (-1)) 1 17 := ⟨by decide +kernel, rfl⟩
theorem d_Ct_findWay_17 : am_D y_Ct_findWay.2.2.1 17 (.if_icmp .ne 7) 3 20 := ⟨by decide +kernel, rfl⟩
theorem d_Ct_findWay_20 : am_D y_Ct_findWay.2.2.1 20 (.getstatic 176) 3 23 := ⟨by decide +kernel, rfl⟩
theorem d_Ct_findWay_23 : am_D y_Ct_findWay.2.2.1 23 (.areturn) 1 24 := ⟨by decide +kernel, rfl⟩
theorem d_Ct_findWay_24 : am_D y_Ct_findWay.2.2.1 24 (.aload_n 0) 1 25 := ⟨by decide +kernel, rfl⟩
theorem d_Ct_findWay_25 : am_D y_Ct_findWay.2.2.1 25 (.aload_n 0) 1 26 := ⟨by decide +kernel, rfl⟩
theorem d_Ct_findWay_26 : am_D y_Ct_findWay.2.2.1 26 (.getfield 23) 3 29 := ⟨by decide +kernel, rfl⟩
theorem d_Ct_findWay_29 : am_D y_Ct_findWay.2.2.1 29 (.iload_n 2) 1 30 := ⟨by decide +kernel, rfl⟩
theorem d_Ct_findWay_30 : am_D y_Ct_findWay.2.2.1 30 (.iaload) 1 31 := ⟨by decide +kernel, rfl⟩
theorem d_Ct_findWay_31 : am_D y_Ct_findWay.2.2.1 31 (.invokestatic 187) 3 34 := ⟨by decide +kernel, rfl⟩
theorem d_Ct_findWay_34 : am_D y_Ct_findWay.2.2.1 34 (.invokevirtual 208) 3 37 := ⟨by decide +kernel, rfl⟩
theorem d_Ct_findWay_37 : am_D y_Ct_findWay.2.2.1 37 (.aload_n 0) 1 38 := ⟨by decide +kernel, rfl⟩
theorem d_Ct_findWay_38 : am_D y_Ct_findWay.2.2.1 38 (.getfield 23) 3 41 := ⟨by decide +kernel, rfl⟩
theorem d_Ct_findWay_41 : am_D y_Ct_findWay.2.2.1 41 (.iload_n 1) 1 42 := ⟨by decide +kernel, rfl⟩
theorem d_Ct_findWay_42 : am_D y_Ct_findWay.2.2.1 42 (.iaload) 1 43 := ⟨by decide +kernel, rfl⟩
theorem d_Ct_findWay_43 : am_D y_Ct_findWay.2.2.1 43 (.invokestatic 187) 3 46 := ⟨by decide +kernel, rfl⟩
theorem d_Ct_findWay_46 : am_D y_Ct_findWay.2.2.1 46 (.istore_n 3) 1 47 := ⟨by decide +kernel, rfl⟩
theorem d_Ct_findWay_47 : am_D y_Ct_findWay.2.2.1 47 (.aload_n 0) 1 48 := ⟨by decide +kernel, rfl⟩
theorem d_Ct_findWay_48 : am_D y_Ct_findWay.2.2.1 48 (.getfield 33) 3 51 := ⟨by decide +kernel, rfl⟩
theorem d_Ct_findWay_51 : am_D y_Ct_findWay.2.2.1 51 (.iload_n 3) 1 52 := ⟨by decide +kernel, rfl⟩
theorem d_Ct_findWay_52 : am_D y_Ct_findWay.2.2.1 52 (.iaload) 1 53 := ⟨by decide +kernel, rfl⟩
theorem d_Ct_findWay_53 : am_D y_Ct_findWay.2.2.1 53 (.iconst (-1)) 1 54 := ⟨by decide +kernel, rfl⟩
theorem d_Ct_findWay_54 : am_D y_Ct_findWay.2.2.1 54 (.if_icmp .ne 7) 3 57 := ⟨by decide +kernel, rfl⟩
theorem d_Ct_findWay_57 : am_D y_Ct_findWay.2.2.1 57 (.getstatic 176) 3 60 := ⟨by decide +kernel, rfl⟩
theorem d_Ct_findWay_60 : am_D y_Ct_findWay.2.2.1 60 (.areturn) 1 61 := ⟨by decide +kernel, rfl⟩
theorem d_Ct_findWay_61 : am_D y_Ct_findWay.2.2.1 61 (.aload_n 0) 1 62 := ⟨by decide +kernel, rfl⟩
theorem d_Ct_findWay_62 : am_D y_Ct_findWay.2.2.1 62 (.getfield 33) 3 65 := ⟨by decide +kernel, rfl⟩
theorem d_Ct_findWay_65 : am_D y_Ct_findWay.2.2.1 65 (.iload_n 3) 1 66 := ⟨by decide +kernel, rfl⟩
theorem d_Ct_findWay_66 : am_D y_Ct_findWay.2.2.1 66 (.iaload) 1 67 := ⟨by decide +kernel, rfl⟩
theorem d_Ct_findWay_67 : am_D y_Ct_findWay.2.2.1 67 (.iconst 1) 1 68 := ⟨by decide +kernel, rfl⟩
theorem d_Ct_findWay_68 : am_D y_Ct_findWay.2.2.1 68 (.iadd) 1 69 := ⟨by decide +kernel, rfl⟩
theorem d_Ct_findWay_69 : am_D y_Ct_findWay.2.2.1 69 (.newarray .int) 2 71 := ⟨by decide +kernel, rfl⟩
theorem d_Ct_findWay_71 : am_D y_Ct_findWay.2.2.1 71 (.astore 4) 2 73 := ⟨by decide +kernel, rfl⟩
theorem d_Ct_findWay_73 : am_D y_Ct_findWay.2.2.1 73 (.iconst 0) 1 74 := ⟨by decide +kernel, rfl⟩
theorem d_Ct_findWay_74 : am_D y_Ct_findWay.2.2.1 74 (.istore 5) 2 76 := ⟨by decide +kernel, rfl⟩
theorem d_Ct_findWay_76 : am_D y_Ct_findWay.2.2.1 76 (.iload 5) 2 78 := ⟨by decide +kernel, rfl⟩
theorem d_Ct_findWay_78 : am_D y_Ct_findWay.2.2.1 78 (.aload 4) 2 80 := ⟨by decide +kernel, rfl⟩
theorem d_Ct_findWay_80 : am_D y_Ct_findWay.2.2.1 80 (.arraylength) 1 81 := ⟨by decide +kernel, rfl⟩
theorem d_Ct_findWay_81 : am_D y_Ct_findWay.2.2.1 81 (.iconst 1) 1 82 := ⟨by decide +kernel, rfl⟩
theorem d_Ct_findWay_82 : am_D y_Ct_findWay.2.2.1 82 (.isub) 1 83 := ⟨by decide +kernel, rfl⟩
theorem d_Ct_findWay_83 : am_D y_Ct_findWay.2.2.1 83 (.if_icmp .ge 44) 3 86 := ⟨by decide +kernel, rfl⟩
theorem d_Ct_findWay_86 : am_D y_Ct_findWay.2.2.1 86 (.aload_n 0) 1 87 := ⟨by decide +kernel, rfl⟩
theorem d_Ct_findWay_87 : am_D y_Ct_findWay.2.2.1 87 (.iload_n 3) 1 88 := ⟨by decide +kernel, rfl⟩
theorem d_Ct_findWay_88 : am_D y_Ct_findWay.2.2.1 88 (.invokevirtual 211) 3 91 := ⟨by decide +kernel, rfl⟩
theorem d_Ct_findWay_91 : am_D y_Ct_findWay.2.2.1 91 (.istore 6) 2 93 := ⟨by decide +kernel, rfl⟩
theorem d_Ct_findWay_93 : am_D y_Ct_findWay.2.2.1 93 (.iload 6) 2 95 := ⟨by decide +kernel, rfl⟩
theorem d_Ct_findWay_95 : am_D y_Ct_findWay.2.2.1 95 (.iconst (-1)) 1 96 := ⟨by decide +kernel, rfl⟩
theorem d_Ct_findWay_96 : am_D y_Ct_findWay.2.2.1 96 (.if_icmp .ne 7) 3 99 := ⟨by decide +kernel, rfl⟩
theorem d_Ct_findWay_99 : am_D y_Ct_findWay.2.2.1 99 (.getstatic 176) 3 102 := ⟨by decide +kernel, rfl⟩
theorem d_Ct_findWay_102 : am_D y_Ct_findWay.2.2.1 102 (.areturn) 1 103 := ⟨by decide +kernel, rfl⟩
theorem d_Ct_findWay_103 : am_D y_Ct_findWay.2.2.1 103 (.aload 4) 2 105 := ⟨by decide +kernel, rfl⟩
theorem d_Ct_findWay_105 : am_D y_Ct_findWay.2.2.1 105 (.iload 5) 2 107 := ⟨by decide +kernel, rfl⟩
theorem d_Ct_findWay_107 : am_D y_Ct_findWay.2.2.1 107 (.iload 6) 2 109 := ⟨by decide +kernel, rfl⟩
theorem d_Ct_findWay_109 : am_D y_Ct_findWay.2.2.1 109 (.iastore) 1 110 := ⟨by decide +kernel, rfl⟩
theorem d_Ct_findWay_110 : am_D y_Ct_findWay.2.2.1 110 (.aload_n 0) 1 111 := ⟨by decide +kernel, rfl⟩
theorem d_Ct_findWay_111 : am_D y_Ct_findWay.2.2.1 111 (.getfield 15) 3 114 := ⟨by decide +kernel, rfl⟩
theorem d_Ct_findWay_114 : am_D y_Ct_findWay.2.2.1 114 (.iload 6) 2 116 := ⟨by decide +kernel, rfl⟩
theorem d_Ct_findWay_116 : am_D y_Ct_findWay.2.2.1 116 (.iaload) 1 117 := ⟨by decide +kernel, rfl⟩
theorem d_Ct_findWay_117 : am_D y_Ct_findWay.2.2.1 117 (.invokestatic 187) 3 120 := ⟨by decide +kernel, rfl⟩
theorem d_Ct_findWay_120 : am_D y_Ct_findWay.2.2.1 120 (.istore_n 3) 1 121 := ⟨by decide +kernel, rfl⟩
theorem d_Ct_findWay_121 : am_D y_Ct_findWay.2.2.1 121 (.iinc 5 1) 3 124 := ⟨by decide +kernel, rfl⟩
theorem d_Ct_findWay_124 : am_D y_Ct_findWay.2.2.1 124 (.goto (-48)) 3 127 := ⟨by decide +kernel, rfl⟩
theorem d_Ct_findWay_127 : am_D y_Ct_findWay.2.2.1 127 (.aload 4) 2 129 := ⟨by decide +kernel, rfl⟩
theorem d_Ct_findWay_129 : am_D y_Ct_findWay.2.2.1 129 (.aload 4) 2 131 := ⟨by decide +kernel, rfl⟩
theorem d_Ct_findWay_131 : am_D y_Ct_findWay.2.2.1 131 (.arraylength) 1 132 := ⟨by decide +kernel, rfl⟩
theorem d_Ct_findWay_132 : am_D y_Ct_findWay.2.2.1 132 (.iconst 1) 1 133 := ⟨by decide +kernel, rfl⟩
theorem d_Ct_findWay_133 : am_D y_Ct_findWay.2.2.1 133 (.isub) 1 134 := ⟨by decide +kernel, rfl⟩
theorem d_Ct_findWay_134 : am_D y_Ct_findWay.2.2.1 134 (.aload_n 0) 1 135 := ⟨by decide +kernel, rfl⟩
theorem d_Ct_findWay_135 : am_D y_Ct_findWay.2.2.1 135 (.getfield 23) 3 138 := ⟨by decide +kernel, rfl⟩
theorem d_Ct_findWay_138 : am_D y_Ct_findWay.2.2.1 138 (.iload_n 2) 1 139 := ⟨by decide +kernel, rfl⟩
theorem d_Ct_findWay_139 : am_D y_Ct_findWay.2.2.1 139 (.iaload) 1 140 := ⟨by decide +kernel, rfl⟩
theorem d_Ct_findWay_140 : am_D y_Ct_findWay.2.2.1 140 (.iastore) 1 141 := ⟨by decide +kernel, rfl⟩
theorem d_Ct_findWay_141 : am_D y_Ct_findWay.2.2.1 141 (.aload 4) 2 143 := ⟨by decide +kernel, rfl⟩
theorem d_Ct_findWay_143 : am_D y_Ct_findWay.2.2.1 143 (.areturn) 1 144 := ⟨by decide +kernel, rfl⟩
theorem d_Ct_countSteps_0 : am_D y_Ct_countSteps.2.2.1 0 (.iconst 0) 1 1 := ⟨by decide +kernel, rfl⟩
theorem d_Ct_countSteps_1 : am_D y_Ct_countSteps.2.2.1 1 (.istore_n 2) 1 2 := ⟨by decide +kernel, rfl⟩
theorem d_Ct_countSteps_2 : am_D y_Ct_countSteps.2.2.1 2 (.iload_n 2) 1 3 := ⟨by decide +kernel, rfl⟩
theorem d_Ct_countSteps_3 : am_D y_Ct_countSteps.2.2.1 3 (.aload_n 0) 1 4 := ⟨by decide +kernel, rfl⟩
theorem d_Ct_countSteps_4 : am_D y_Ct_countSteps.2.2.1 4 (.getfield 33) 3 7 := ⟨by decide +kernel, rfl⟩
theorem d_Ct_countSteps_7 : am_D y_Ct_countSteps.2.2.1 7 (.arraylength) 1 8 := ⟨by decide +kernel, rfl⟩
theorem d_Ct_countSteps_8 : am_D y_Ct_countSteps.2.2.1 8 (.if_icmp .ge 25) 3 11 := ⟨by decide +kernel, rfl⟩
theorem d_Ct_countSteps_11 : am_D y_Ct_countSteps.2.2.1 11 (.aload_n 0) 1 12 := ⟨by decide +kernel, rfl⟩
theorem d_Ct_countSteps_12 : am_D y_Ct_countSteps.2.2.1 12 (.getfield 33) 3 15 := ⟨by decide +kernel, rfl⟩
theorem d_Ct_countSteps_15 : am_D y_Ct_countSteps.2.2.1 15 (.iload_n 2) 1 16 := ⟨by decide +kernel, rfl⟩
theorem d_Ct_countSteps_16 : am_D y_Ct_countSteps.2.2.1 16 (.iload_n 2) 1 17 := ⟨by decide +kernel, rfl⟩
theorem d_Ct_countSteps_17 : am_D y_Ct_countSteps.2.2.1 17 (.iload_n 1) 1 18 := ⟨by decide +kernel, rfl⟩
theorem d_Ct_countSteps_18 : am_D y_Ct_countSteps.2.2.1 18 (.if_icmp .ne 7) 3 21 := ⟨by decide +kernel, rfl⟩
theorem d_Ct_countSteps_21 : am_D y_Ct_countSteps.2.2.1 21 (.iconst 0) 1 22 := ⟨by decide +kernel, rfl⟩
theorem d_Ct_countSteps_22 : am_D y_Ct_countSteps.2.2.1 22 (.goto 4) 3 25 := ⟨by decide +kernel, rfl⟩
theorem d_Ct_countSteps_25 : am_D y_Ct_countSteps.2.2.1 25 (.iconst (-1)) 1 26 := ⟨by decide +kernel, rfl⟩
theorem d_Ct_countSteps_26 : am_D y_Ct_countSteps.2.2.1 26 (.iastore) 1 27 := ⟨by decide +kernel, rfl⟩
theorem d_Ct_countSteps_27 : am_D y_Ct_countSteps.2.2.1 27 (.iinc 2 1) 3 30 := ⟨by decide +kernel, rfl⟩
theorem d_Ct_countSteps_30 : am_D y_Ct_countSteps.2.2.1 30 (.goto (-28)) 3 33 := ⟨by decide +kernel, rfl⟩
theorem d_Ct_countSteps_33 : am_D y_Ct_countSteps.2.2.1 33 (.iconst 0) 1 34 := ⟨by decide +kernel, rfl⟩
theorem d_Ct_countSteps_34 : am_D y_Ct_countSteps.2.2.1 34 (.istore_n 2) 1 35 := ⟨by decide +kernel, rfl⟩
theorem d_Ct_countSteps_35 : am_D y_Ct_countSteps.2.2.1 35 (.iload_n 2) 1 36 := ⟨by decide +kernel, rfl⟩
theorem d_Ct_countSteps_36 : am_D y_Ct_countSteps.2.2.1 36 (.aload_n 0) 1 37 := ⟨by decide +kernel, rfl⟩
theorem d_Ct_countSteps_37 : am_D y_Ct_countSteps.2.2.1 37 (.getfield 33) 3 40 := ⟨by decide +kernel, rfl⟩
theorem d_Ct_countSteps_40 : am_D y_Ct_countSteps.2.2.1 40 (.arraylength) 1 41 := ⟨by decide +kernel, rfl⟩
theorem d_Ct_countSteps_41 : am_D y_Ct_countSteps.2.2.1 41 (.if_icmp .ge 79) 3 44 := ⟨by decide +kernel, rfl⟩
theorem d_Ct_countSteps_44 : am_D y_Ct_countSteps.2.2.1 44 (.iconst 0) 1 45 := ⟨by decide +kernel, rfl⟩
theorem d_Ct_countSteps_45 : am_D y_Ct_countSteps.2.2.1 45 (.istore_n 3) 1 46 := ⟨by decide +kernel, rfl⟩
theorem d_Ct_countSteps_46 : am_D y_Ct_countSteps.2.2.1 46 (.iload_n 3) 1 47 := ⟨by decide +kernel, rfl⟩
theorem d_Ct_countSteps_47 : am_D y_Ct_countSteps.2.2.1 47 (.aload_n 0) 1 48 := ⟨by decide +kernel, rfl⟩
theorem d_Ct_countSteps_48 : am_D y_Ct_countSteps.2.2.1 48 (.getfield 15) 3 51 := ⟨by decide +kernel, rfl⟩
theorem d_Ct_countSteps_51 : am_D y_Ct_countSteps.2.2.1 51 (.arraylength) 1 52 := ⟨by decide +kernel, rfl⟩
theorem d_Ct_countSteps_52 : am_D y_Ct_countSteps.2.2.1 52 (.if_icmp .ge 62) 3 55 := ⟨by decide +kernel, rfl⟩
theorem d_Ct_countSteps_55 : am_D y_Ct_countSteps.2.2.1 55 (.aload_n 0) 1 56 := ⟨by decide +kernel, rfl⟩
theorem d_Ct_countSteps_56 : am_D y_Ct_countSteps.2.2.1 56 (.getfield 15) 3 59 := ⟨by decide +kernel, rfl⟩
theorem d_Ct_countSteps_59 : am_D y_Ct_countSteps.2.2.1 59 (.iload_n 3) 1 60 := ⟨by decide +kernel, rfl⟩
theorem d_Ct_countSteps_60 : am_D y_Ct_countSteps.2.2.1 60 (.iaload) 1 61 := ⟨by decide +kernel, rfl⟩
theorem d_Ct_countSteps_61 : am_D y_Ct_countSteps.2.2.1 61 (.istore 4) 2 63 := ⟨by decide +kernel, rfl⟩
theorem d_Ct_countSteps_63 : am_D y_Ct_countSteps.2.2.1 63 (.aload_n 0) 1 64 := ⟨by decide +kernel, rfl⟩
theorem d_Ct_countSteps_64 : am_D y_Ct_countSteps.2.2.1 64 (.getfield 33) 3 67 := ⟨by decide +kernel, rfl⟩
theorem d_Ct_countSteps_67 : am_D y_Ct_countSteps.2.2.1 67 (.iload_n 3) 1 68 := ⟨by decide +kernel, rfl⟩
theorem d_Ct_countSteps_68 : am_D y_Ct_countSteps.2.2.1 68 (.invokestatic 187) 3 71 := ⟨by decide +kernel, rfl⟩
theorem d_Ct_countSteps_71 : am_D y_Ct_countSteps.2.2.1 71 (.iaload) 1 72 := ⟨by decide +kernel, rfl⟩
theorem d_Ct_countSteps_72 : am_D y_Ct_countSteps.2.2.1 72 (.iconst (-1)) 1 73 := ⟨by decide +kernel, rfl⟩
theorem d_Ct_countSteps_73 : am_D y_Ct_countSteps.2.2.1 73 (.if_icmp .ne 35) 3 76 := ⟨by decide +kernel, rfl⟩
theorem d_Ct_countSteps_76 : am_D y_Ct_countSteps.2.2.1 76 (.iload 4) 2 78 := ⟨by decide +kernel, rfl⟩
theorem d_Ct_countSteps_78 : am_D y_Ct_countSteps.2.2.1 78 (.iconst (-1)) 1 79 := ⟨by decide +kernel, rfl⟩
theorem d_Ct_countSteps_79 : am_D y_Ct_countSteps.2.2.1 79 (.if_icmp .eq 29) 3 82 := ⟨by decide +kernel, rfl⟩
theorem d_Ct_countSteps_82 : am_D y_Ct_countSteps.2.2.1 82 (.aload_n 0) 1 83 := ⟨by decide +kernel, rfl⟩
theorem d_Ct_countSteps_83 : am_D y_Ct_countSteps.2.2.1 83 (.getfield 33) 3 86 := ⟨by decide +kernel, rfl⟩
theorem d_Ct_countSteps_86 : am_D y_Ct_countSteps.2.2.1 86 (.iload 4) 2 88 := ⟨by decide +kernel, rfl⟩
theorem d_Ct_countSteps_88 : am_D y_Ct_countSteps.2.2.1 88 (.invokestatic 187) 3 91 := ⟨by decide +kernel, rfl⟩
theorem d_Ct_countSteps_91 : am_D y_Ct_countSteps.2.2.1 91 (.iaload) 1 92 := ⟨by decide +kernel, rfl⟩
theorem d_Ct_countSteps_92 : am_D y_Ct_countSteps.2.2.1 92 (.iload_n 2) 1 93 := ⟨by decide +kernel, rfl⟩
theorem d_Ct_countSteps_93 : am_D y_Ct_countSteps.2.2.1 93 (.if_icmp .ne 15) 3 96 := ⟨by decide +kernel, rfl⟩
theorem d_Ct_countSteps_96 : am_D y_Ct_countSteps.2.2.1 96 (.aload_n 0) 1 97 := ⟨by decide +kernel, rfl⟩
theorem d_Ct_countSteps_97 : am_D y_Ct_countSteps.2.2.1 97 (.getfield 33) 3 100 := ⟨by decide +kernel, rfl⟩
theorem d_Ct_countSteps_100 : am_D y_Ct_countSteps.2.2.1 100 (.iload_n 3) 1 101 := ⟨by decide +kernel, rfl⟩
theorem d_Ct_countSteps_101 : am_D y_Ct_countSteps.2.2.1 101 (.invokestatic 187) 3 104 := ⟨by decide +kernel, rfl⟩
theorem d_Ct_countSteps_104 : am_D y_Ct_countSteps.2.2.1 104 (.iload_n 2) 1 105 := ⟨by decide +kernel, rfl⟩
theorem d_Ct_countSteps_105 : am_D y_Ct_countSteps.2.2.1 105 (.iconst 1) 1 106 := ⟨by decide +kernel, rfl⟩
theorem d_Ct_countSteps_106 : am_D y_Ct_countSteps.2.2.1 106 (.iadd) 1 107 := ⟨by decide +kernel, rfl⟩
theorem d_Ct_countSteps_107 : am_D y_Ct_countSteps.2.2.1 107 (.iastore) 1 108 := ⟨by decide +kernel, rfl⟩
theorem d_Ct_countSteps_108 : am_D y_Ct_countSteps.2.2.1 108 (.iinc 3 1) 3 111 := ⟨by decide +kernel, rfl⟩
theorem d_Ct_countSteps_111 : am_D y_Ct_countSteps.2.2.1 111 (.goto (-65)) 3 114 := ⟨by decide +kernel, rfl⟩
theorem d_Ct_countSteps_114 : am_D y_Ct_countSteps.2.2.1 114 (.iinc 2 1) 3 117 := ⟨by decide +kernel, rfl⟩
theorem d_Ct_countSteps_117 : am_D y_Ct_countSteps.2.2.1 117 (.goto (-82)) 3 120 := ⟨by decide +kernel, rfl⟩
theorem d_Ct_countSteps_120 : am_D y_Ct_countSteps.2.2.1 120 (.return_) 1 121 := ⟨by decide +kernel, rfl⟩
theorem d_Ct_nextEnd_0 : am_D y_Ct_nextEnd.2.2.1 0 (.iconst (-1)) 1 1 := ⟨by decide +kernel, rfl⟩
theorem d_Ct_nextEnd_1 : am_D y_Ct_nextEnd.2.2.1 1 (.istore_n 2) 1 2 := ⟨by decide +kernel, rfl⟩
theorem d_Ct_nextEnd_2 : am_D y_Ct_nextEnd.2.2.1 2 (.iconst 0) 1 3 := ⟨by decide +kernel, rfl⟩
theorem d_Ct_nextEnd_3 : am_D y_Ct_nextEnd.2.2.1 3 (.istore_n 3) 1 4 := ⟨by decide +kernel, rfl⟩
theorem d_Ct_nextEnd_4 : am_D y_Ct_nextEnd.2.2.1 4 (.iload_n 3) 1 5 := ⟨by decide +kernel, rfl⟩
theorem d_Ct_nextEnd_5 : am_D y_Ct_nextEnd.2.2.1 5 (.iconst 4) 1 6 := ⟨by decide +kernel, rfl⟩
theorem d_Ct_nextEnd_6 : am_D y_Ct_nextEnd.2.2.1 6 (.if_icmp .ge 89) 3 9 := ⟨by decide +kernel, rfl⟩
theorem d_Ct_nextEnd_9 : am_D y_Ct_nextEnd.2.2.1 9 (.iload_n 1) 1 10 := ⟨by decide +kernel, rfl⟩
theorem d_Ct_nextEnd_10 : am_D y_Ct_nextEnd.2.2.1 10 (.iload_n 3) 1 11 := ⟨by decide +kernel, rfl⟩
theorem d_Ct_nextEnd_11 : am_D y_Ct_nextEnd.2.2.1 11 (.invokestatic 62) 3 14 := ⟨by decide +kernel, rfl⟩
theorem d_Ct_nextEnd_14 : am_D y_Ct_nextEnd.2.2.1 14 (.istore 4) 2 16 := ⟨by decide +kernel, rfl⟩
theorem d_Ct_nextEnd_16 : am_D y_Ct_nextEnd.2.2.1 16 (.aload_n 0) 1 17 := ⟨by decide +kernel, rfl⟩
theorem d_Ct_nextEnd_17 : am_D y_Ct_nextEnd.2.2.1 17 (.getfield 15) 3 20 := ⟨by decide +kernel, rfl⟩
theorem d_Ct_nextEnd_20 : am_D y_Ct_nextEnd.2.2.1 20 (.iload 4) 2 22 := ⟨by decide +kernel, rfl⟩
theorem d_Ct_nextEnd_22 : am_D y_Ct_nextEnd.2.2.1 22 (.iaload) 1 23 := ⟨by decide +kernel, rfl⟩
theorem d_Ct_nextEnd_23 : am_D y_Ct_nextEnd.2.2.1 23 (.istore 5) 2 25 := ⟨by decide +kernel, rfl⟩
theorem d_Ct_nextEnd_25 : am_D y_Ct_nextEnd.2.2.1 25 (.iload 5) 2 27 := ⟨by decide +kernel, rfl⟩
theorem d_Ct_nextEnd_27 : am_D y_Ct_nextEnd.2.2.1 27 (.iconst (-1)) 1 28 := ⟨by decide +kernel, rfl⟩
theorem d_Ct_nextEnd_28 : am_D y_Ct_nextEnd.2.2.1 28 (.if_icmp .eq 28) 3 31 := ⟨by decide +kernel, rfl⟩
theorem d_Ct_nextEnd_31 : am_D y_Ct_nextEnd.2.2.1 31 (.aload_n 0) 1 32 := ⟨by decide +kernel, rfl⟩
theorem d_Ct_nextEnd_32 : am_D y_Ct_nextEnd.2.2.1 32 (.getfield 33) 3 35 := ⟨by decide +kernel, rfl⟩
theorem d_Ct_nextEnd_35 : am_D y_Ct_nextEnd.2.2.1 35 (.iload 5) 2 37 := ⟨by decide +kernel, rfl⟩
theorem d_Ct_nextEnd_37 : am_D y_Ct_nextEnd.2.2.1 37 (.invokestatic 187) 3 40 := ⟨by decide +kernel, rfl⟩
theorem d_Ct_nextEnd_40 : am_D y_Ct_nextEnd.2.2.1 40 (.iaload) 1 41 := ⟨by decide +kernel, rfl⟩
theorem d_Ct_nextEnd_41 : am_D y_Ct_nextEnd.2.2.1 41 (.aload_n 0) 1 42 := ⟨by decide +kernel, rfl⟩
theorem d_Ct_nextEnd_42 : am_D y_Ct_nextEnd.2.2.1 42 (.getfield 33) 3 45 := ⟨by decide +kernel, rfl⟩
theorem d_Ct_nextEnd_45 : am_D y_Ct_nextEnd.2.2.1 45 (.iload_n 1) 1 46 := ⟨by decide +kernel, rfl⟩
theorem d_Ct_nextEnd_46 : am_D y_Ct_nextEnd.2.2.1 46 (.iaload) 1 47 := ⟨by decide +kernel, rfl⟩
theorem d_Ct_nextEnd_47 : am_D y_Ct_nextEnd.2.2.1 47 (.iconst 1) 1 48 := ⟨by decide +kernel, rfl⟩
theorem d_Ct_nextEnd_48 : am_D y_Ct_nextEnd.2.2.1 48 (.isub) 1 49 := ⟨by decide +kernel, rfl⟩
theorem d_Ct_nextEnd_49 : am_D y_Ct_nextEnd.2.2.1 49 (.if_icmp .ne 7) 3 52 := ⟨by decide +kernel, rfl⟩
theorem d_Ct_nextEnd_52 : am_D y_Ct_nextEnd.2.2.1 52 (.iconst 1) 1 53 := ⟨by decide +kernel, rfl⟩
theorem d_Ct_nextEnd_53 : am_D y_Ct_nextEnd.2.2.1 53 (.goto 4) 3 56 := ⟨by decide +kernel, rfl⟩
theorem d_Ct_nextEnd_56 : am_D y_Ct_nextEnd.2.2.1 56 (.iconst 0) 1 57 := ⟨by decide +kernel, rfl⟩
theorem d_Ct_nextEnd_57 : am_D y_Ct_nextEnd.2.2.1 57 (.istore 6) 2 59 := ⟨by decide +kernel, rfl⟩
theorem d_Ct_nextEnd_59 : am_D y_Ct_nextEnd.2.2.1 59 (.iload 6) 2 61 := ⟨by decide +kernel, rfl⟩
theorem d_Ct_nextEnd_61 : am_D y_Ct_nextEnd.2.2.1 61 (.ifCond .eq 28) 3 64 := ⟨by decide +kernel, rfl⟩
theorem d_Ct_nextEnd_64 : am_D y_Ct_nextEnd.2.2.1 64 (.iload_n 2) 1 65 := ⟨by decide +kernel, rfl⟩
theorem d_Ct_nextEnd_65 : am_D y_Ct_nextEnd.2.2.1 65 (.iconst (-1)) 1 66 := ⟨by decide +kernel, rfl⟩
theorem d_Ct_nextEnd_66 : am_D y_Ct_nextEnd.2.2.1 66 (.if_icmp .eq 20) 3 69 := ⟨by decide +kernel, rfl⟩
theorem d_Ct_nextEnd_69 : am_D y_Ct_nextEnd.2.2.1 69 (.iload 5) 2 71 := ⟨by decide +kernel, rfl⟩
theorem d_Ct_nextEnd_71 : am_D y_Ct_nextEnd.2.2.1 71 (.invokestatic 187) 3 74 := ⟨by decide +kernel, rfl⟩
theorem d_Ct_nextEnd_74 : am_D y_Ct_nextEnd.2.2.1 74 (.aload_n 0) 1 75 := ⟨by decide +kernel, rfl⟩
theorem d_Ct_nextEnd_75 : am_D y_Ct_nextEnd.2.2.1 75 (.getfield 15) 3 78 := ⟨by decide +kernel, rfl⟩
theorem d_Ct_nextEnd_78 : am_D y_Ct_nextEnd.2.2.1 78 (.iload_n 2) 1 79 := ⟨by decide +kernel, rfl⟩
theorem d_Ct_nextEnd_79 : am_D y_Ct_nextEnd.2.2.1 79 (.iaload) 1 80 := ⟨by decide +kernel, rfl⟩
theorem d_Ct_nextEnd_80 : am_D y_Ct_nextEnd.2.2.1 80 (.invokestatic 187) 3 83 := ⟨by decide +kernel, rfl⟩
theorem d_Ct_nextEnd_83 : am_D y_Ct_nextEnd.2.2.1 83 (.if_icmp .ge 6) 3 86 := ⟨by decide +kernel, rfl⟩
theorem d_Ct_nextEnd_86 : am_D y_Ct_nextEnd.2.2.1 86 (.iload 4) 2 88 := ⟨by decide +kernel, rfl⟩
theorem d_Ct_nextEnd_88 : am_D y_Ct_nextEnd.2.2.1 88 (.istore_n 2) 1 89 := ⟨by decide +kernel, rfl⟩
theorem d_Ct_nextEnd_89 : am_D y_Ct_nextEnd.2.2.1 89 (.iinc 3 1) 3 92 := ⟨by decide +kernel, rfl⟩
theorem d_Ct_nextEnd_92 : am_D y_Ct_nextEnd.2.2.1 92 (.goto (-88)) 3 95 := ⟨by decide +kernel, rfl⟩
theorem d_Ct_nextEnd_95 : am_D y_Ct_nextEnd.2.2.1 95 (.iload_n 2) 1 96 := ⟨by decide +kernel, rfl⟩
theorem d_Ct_nextEnd_96 : am_D y_Ct_nextEnd.2.2.1 96 (.ireturn) 1 97 := ⟨by decide +kernel, rfl⟩
theorem d_Co_new_0 : am_D y_Co_new.2.2.1 0 (.aload_n 0) 1 1 := ⟨by decide +kernel, rfl⟩
theorem d_Co_new_1 : am_D y_Co_new.2.2.1 1 (.invokespecial 3) 3 4 := ⟨by decide +kernel, rfl⟩
theorem d_Co_new_4 : am_D y_Co_new.2.2.1 4 (.aload_n 0) 1 5 := ⟨by decide +kernel, rfl⟩
theorem d_Co_new_5 : am_D y_Co_new.2.2.1 5 (.iload_n 1) 1 6 := ⟨by decide +kernel, rfl⟩
theorem d_Co_new_6 : am_D y_Co_new.2.2.1 6 (.putfield 9) 3 9 := ⟨by decide +kernel, rfl⟩
theorem d_Co_new_9 : am_D y_Co_new.2.2.1 9 (.aload_n 0) 1 10 := ⟨by decide +kernel, rfl⟩
theorem d_Co_new_10 : am_D y_Co_new.2.2.1 10 (.iload_n 2) 1 11 := ⟨by decide +kernel, rfl⟩
theorem d_Co_new_11 : am_D y_Co_new.2.2.1 11 (.putfield 15) 3 14 := ⟨by decide +kernel, rfl⟩
theorem d_Co_new_14 : am_D y_Co_new.2.2.1 14 (.aload_n 0) 1 15 := ⟨by decide +kernel, rfl⟩
theorem d_Co_new_15 : am_D y_Co_new.2.2.1 15 (.iconst 2) 1 16 := ⟨by decide +kernel, rfl⟩
theorem d_Co_new_16 : am_D y_Co_new.2.2.1 16 (.putfield 18) 3 19 := ⟨by decide +kernel, rfl⟩
theorem d_Co_new_19 : am_D y_Co_new.2.2.1 19 (.aload_n 0) 1 20 := ⟨by decide +kernel, rfl⟩
theorem d_Co_new_20 : am_D y_Co_new.2.2.1 20 (.getstatic 21) 3 23 := ⟨by decide +kernel, rfl⟩
theorem d_Co_new_23 : am_D y_Co_new.2.2.1 23 (.putfield 25) 3 26 := ⟨by decide +kernel, rfl⟩
theorem d_Co_new_26 : am_D y_Co_new.2.2.1 26 (.aload_n 0) 1 27 := ⟨by decide +kernel, rfl⟩
theorem d_Co_new_27 : am_D y_Co_new.2.2.1 27 (.aload_n 3) 1 28 := ⟨by decide +kernel, rfl⟩
theorem d_Co_new_28 : am_D y_Co_new.2.2.1 28 (.putfield 28) 3 31 := ⟨by decide +kernel, rfl⟩
theorem d_Co_new_31 : am_D y_Co_new.2.2.1 31 (.aload_n 0) 1 32 := ⟨by decide +kernel, rfl⟩
theorem d_Co_new_32 : am_D y_Co_new.2.2.1 32 (.iconst 0) 1 33 := ⟨by decide +kernel, rfl⟩
theorem d_Co_new_33 : am_D y_Co_new.2.2.1 33 (.putfield 32) 3 36 := ⟨by decide +kernel, rfl⟩
theorem d_Co_new_36 : am_D y_Co_new.2.2.1 36 (.aload_n 0) 1 37 := ⟨by decide +kernel, rfl⟩
theorem d_Co_new_37 : am_D y_Co_new.2.2.1 37 (.iconst 0) 1 38 := ⟨by decide +kernel, rfl⟩
theorem d_Co_new_38 : am_D y_Co_new.2.2.1 38 (.putfield 35) 3 41 := ⟨by decide +kernel, rfl⟩
theorem d_Co_new_41 : am_D y_Co_new.2.2.1 41 (.aload_n 0) 1 42 := ⟨by decide +kernel, rfl⟩
theorem d_Co_new_42 : am_D y_Co_new.2.2.1 42 (.iconst 0) 1 43 := ⟨by decide +kernel, rfl⟩
theorem d_Co_new_43 : am_D y_Co_new.2.2.1 43 (.putfield 38) 3 46 := ⟨by decide +kernel, rfl⟩
theorem d_Co_new_46 : am_D y_Co_new.2.2.1 46 (.return_) 1 47 := ⟨by decide +kernel, rfl⟩
theorem d_Co_beginLaying_0 : am_D y_Co_beginLaying.2.2.1 0 (.aload_n 0) 1 1 := ⟨by decide +kernel, rfl⟩
theorem d_Co_beginLaying_1 : am_D y_Co_beginLaying.2.2.1 1 (.iconst 2) 1 2 := ⟨by decide +kernel, rfl⟩
theorem d_Co_beginLaying_2 : am_D y_Co_beginLaying.2.2.1 2 (.putfield 18) 3 5 := ⟨by decide +kernel, rfl⟩
theorem d_Co_beginLaying_5 : am_D y_Co_beginLaying.2.2.1 5 (.aload_n 0) 1 6 := ⟨by decide +kernel, rfl⟩
theorem d_Co_beginLaying_6 : am_D y_Co_beginLaying.2.2.1 6 (.aload_n 1) 1 7 := ⟨by decide +kernel, rfl⟩
theorem d_Co_beginLaying_7 : am_D y_Co_beginLaying.2.2.1 7 (.putfield 25) 3 10 := ⟨by decide +kernel, rfl⟩
theorem d_Co_beginLaying_10 : am_D y_Co_beginLaying.2.2.1 10 (.aload_n 0) 1 11 := ⟨by decide +kernel, rfl⟩
theorem d_Co_beginLaying_11 : am_D y_Co_beginLaying.2.2.1 11 (.aload_n 1) 1 12 := ⟨by decide +kernel, rfl⟩
theorem d_Co_beginLaying_12 : am_D y_Co_beginLaying.2.2.1 12 (.arraylength) 1 13 := ⟨by decide +kernel, rfl⟩
theorem d_Co_beginLaying_13 : am_D y_Co_beginLaying.2.2.1 13 (.putfield 38) 3 16 := ⟨by decide +kernel, rfl⟩
theorem d_Co_beginLaying_16 : am_D y_Co_beginLaying.2.2.1 16 (.return_) 1 17 := ⟨by decide +kernel, rfl⟩
theorem d_Ct_leadAhead_0 : am_D y_Ct_leadAhead.2.2.1 0 (.aload_n 0) 1 1 := ⟨by decide +kernel, rfl⟩
theorem d_Ct_leadAhead_1 : am_D y_Ct_leadAhead.2.2.1 1 (.dup) 1 2 := ⟨by decide +kernel, rfl⟩
theorem d_Ct_leadAhead_2 : am_D y_Ct_leadAhead.2.2.1 2 (.getfield 36) 3 5 := ⟨by decide +kernel, rfl⟩
theorem d_Ct_leadAhead_5 : am_D y_Ct_leadAhead.2.2.1 5 (.iconst 1) 1 6 := ⟨by decide +kernel, rfl⟩
theorem d_Ct_leadAhead_6 : am_D y_Ct_leadAhead.2.2.1 6 (.iadd) 1 7 := ⟨by decide +kernel, rfl⟩
theorem d_Ct_leadAhead_7 : am_D y_Ct_leadAhead.2.2.1 7 (.putfield 36) 3 10 := ⟨by decide +kernel, rfl⟩
theorem d_Ct_leadAhead_10 : am_D y_Ct_leadAhead.2.2.1 10 (.aload_n 1) 1 11 := ⟨by decide +kernel, rfl⟩
theorem d_Ct_leadAhead_11 : am_D y_Ct_leadAhead.2.2.1 11 (.aload_n 0) 1 12 := ⟨by decide +kernel, rfl⟩
theorem d_Ct_leadAhead_12 : am_D y_Ct_leadAhead.2.2.1 12 (.getfield 36) 3 15 := ⟨by decide +kernel, rfl⟩
theorem d_Ct_leadAhead_15 : am_D y_Ct_leadAhead.2.2.1 15 (.putfield 160) 3 18 := ⟨by decide +kernel, rfl⟩
theorem d_Ct_leadAhead_18 : am_D y_Ct_leadAhead.2.2.1 18 (.aload_n 1) 1 19 := ⟨by decide +kernel, rfl⟩
theorem d_Ct_leadAhead_19 : am_D y_Ct_leadAhead.2.2.1 19 (.dup) 1 20 := ⟨by decide +kernel, rfl⟩
theorem d_Ct_leadAhead_20 : am_D y_Ct_leadAhead.2.2.1 20 (.getfield 167) 3 23 := ⟨by decide +kernel, rfl⟩
theorem d_Ct_leadAhead_23 : am_D y_Ct_leadAhead.2.2.1 23 (.iconst 1) 1 24 := ⟨by decide +kernel, rfl⟩
theorem d_Ct_leadAhead_24 : am_D y_Ct_leadAhead.2.2.1 24 (.isub) 1 25 := ⟨by decide +kernel, rfl⟩
theorem d_Ct_leadAhead_25 : am_D y_Ct_leadAhead.2.2.1 25 (.putfield 167) 3 28 := ⟨by decide +kernel, rfl⟩
theorem d_Ct_leadAhead_28 : am_D y_Ct_leadAhead.2.2.1 28 (.aload_n 1) 1 29 := ⟨by decide +kernel, rfl⟩
theorem d_Ct_leadAhead_29 : am_D y_Ct_leadAhead.2.2.1 29 (.getfield 184) 3 32 := ⟨by decide +kernel, rfl⟩
theorem d_Ct_leadAhead_32 : am_D y_Ct_leadAhead.2.2.1 32 (.aload_n 1) 1 33 := ⟨by decide +kernel, rfl⟩
theorem d_Ct_leadAhead_33 : am_D y_Ct_leadAhead.2.2.1 33 (.getfield 167) 3 36 := ⟨by decide +kernel, rfl⟩
theorem d_Ct_leadAhead_36 : am_D y_Ct_leadAhead.2.2.1 36 (.iaload) 1 37 := ⟨by decide +kernel, rfl⟩
theorem d_Ct_leadAhead_37 : am_D y_Ct_leadAhead.2.2.1 37 (.istore_n 2) 1 38 := ⟨by decide +kernel, rfl⟩
theorem d_Ct_leadAhead_38 : am_D y_Ct_leadAhead.2.2.1 38 (.aload_n 0) 1 39 := ⟨by decide +kernel, rfl⟩
theorem d_Ct_leadAhead_39 : am_D y_Ct_leadAhead.2.2.1 39 (.getfield 9) 3 42 := ⟨by decide +kernel, rfl⟩
theorem d_Ct_leadAhead_42 : am_D y_Ct_leadAhead.2.2.1 42 (.iload_n 2) 1 43 := ⟨by decide +kernel, rfl⟩
theorem d_Ct_leadAhead_43 : am_D y_Ct_leadAhead.2.2.1 43 (.invokestatic 187) 3 46 := ⟨by decide +kernel, rfl⟩
theorem d_Ct_leadAhead_46 : am_D y_Ct_leadAhead.2.2.1 46 (.aaload) 1 47 := ⟨by decide +kernel, rfl⟩
theorem d_Ct_leadAhead_47 : am_D y_Ct_leadAhead.2.2.1 47 (.astore_n 3) 1 48 := ⟨by decide +kernel, rfl⟩
theorem d_Ct_leadAhead_48 : am_D y_Ct_leadAhead.2.2.1 48 (.aload_n 3) 1 49 := ⟨by decide +kernel, rfl⟩
theorem d_Ct_leadAhead_49 : am_D y_Ct_leadAhead.2.2.1 49 (.getfield 118) 3 52 := ⟨by decide +kernel, rfl⟩
theorem d_Ct_leadAhead_52 : am_D y_Ct_leadAhead.2.2.1 52 (.iconst 0) 1 53 := ⟨by decide +kernel, rfl⟩
theorem d_Ct_leadAhead_53 : am_D y_Ct_leadAhead.2.2.1 53 (.iload_n 2) 1 54 := ⟨by decide +kernel, rfl⟩
theorem d_Ct_leadAhead_54 : am_D y_Ct_leadAhead.2.2.1 54 (.invokestatic 205) 3 57 := ⟨by decide +kernel, rfl⟩
theorem d_Ct_leadAhead_57 : am_D y_Ct_leadAhead.2.2.1 57 (.aload_n 1) 1 58 := ⟨by decide +kernel, rfl⟩
theorem d_Ct_leadAhead_58 : am_D y_Ct_leadAhead.2.2.1 58 (.getfield 179) 3 61 := ⟨by decide +kernel, rfl⟩
theorem d_Ct_leadAhead_61 : am_D y_Ct_leadAhead.2.2.1 61 (.aload_n 1) 1 62 := ⟨by decide +kernel, rfl⟩
theorem d_Ct_leadAhead_62 : am_D y_Ct_leadAhead.2.2.1 62 (.getfield 180) 3 65 := ⟨by decide +kernel, rfl⟩
theorem d_Ct_leadAhead_65 : am_D y_Ct_leadAhead.2.2.1 65 (.invokestatic 197) 3 68 := ⟨by decide +kernel, rfl⟩
theorem d_Ct_leadAhead_68 : am_D y_Ct_leadAhead.2.2.1 68 (.invokevirtual 131) 3 71 := ⟨by decide +kernel, rfl⟩
theorem d_Ct_leadAhead_71 : am_D y_Ct_leadAhead.2.2.1 71 (.pop) 1 72 := ⟨by decide +kernel, rfl⟩
theorem d_Ct_leadAhead_72 : am_D y_Ct_leadAhead.2.2.1 72 (.aload_n 3) 1 73 := ⟨by decide +kernel, rfl⟩
theorem d_Ct_leadAhead_73 : am_D y_Ct_leadAhead.2.2.1 73 (.getfield 118) 3 76 := ⟨by decide +kernel, rfl⟩
theorem d_Ct_leadAhead_76 : am_D y_Ct_leadAhead.2.2.1 76 (.iconst 2) 1 77 := ⟨by decide +kernel, rfl⟩
theorem d_Ct_leadAhead_77 : am_D y_Ct_leadAhead.2.2.1 77 (.aload_n 0) 1 78 := ⟨by decide +kernel, rfl⟩
theorem d_Ct_leadAhead_78 : am_D y_Ct_leadAhead.2.2.1 78 (.getfield 36) 3 81 := ⟨by decide +kernel, rfl⟩
theorem d_Ct_leadAhead_81 : am_D y_Ct_leadAhead.2.2.1 81 (.invokestatic 201) 3 84 := ⟨by decide +kernel, rfl⟩
theorem d_Ct_leadAhead_84 : am_D y_Ct_leadAhead.2.2.1 84 (.invokevirtual 131) 3 87 := ⟨by decide +kernel, rfl⟩
theorem d_Ct_leadAhead_87 : am_D y_Ct_leadAhead.2.2.1 87 (.pop) 1 88 := ⟨by decide +kernel, rfl⟩
theorem d_Ct_leadAhead_88 : am_D y_Ct_leadAhead.2.2.1 88 (.return_) 1 89 := ⟨by decide +kernel, rfl⟩
theorem d_Ct_handleSeen_0 : am_D y_Ct_handleSeen.2.2.1 0 (.aload_n 0) 1 1 := ⟨by decide +kernel, rfl⟩
theorem d_Ct_handleSeen_1 : am_D y_Ct_handleSeen.2.2.1 1 (.getfield 19) 3 4 := ⟨by decide +kernel, rfl⟩
theorem d_Ct_handleSeen_4 : am_D y_Ct_handleSeen.2.2.1 4 (.iload_n 1) 1 5 := ⟨by decide +kernel, rfl⟩
theorem d_Ct_handleSeen_5 : am_D y_Ct_handleSeen.2.2.1 5 (.iconst 1) 1 6 := ⟨by decide +kernel, rfl⟩
theorem d_Ct_handleSeen_6 : am_D y_Ct_handleSeen.2.2.1 6 (.bastore) 1 7 := ⟨by decide +kernel, rfl⟩
theorem d_Ct_handleSeen_7 : am_D y_Ct_handleSeen.2.2.1 7 (.aload_n 0) 1 8 := ⟨by decide +kernel, rfl⟩
theorem d_Ct_handleSeen_8 : am_D y_Ct_handleSeen.2.2.1 8 (.getfield 19) 3 11 := ⟨by decide +kernel, rfl⟩
theorem d_Ct_handleSeen_11 : am_D y_Ct_handleSeen.2.2.1 11 (.iload_n 2) 1 12 := ⟨by decide +kernel, rfl⟩
theorem d_Ct_handleSeen_12 : am_D y_Ct_handleSeen.2.2.1 12 (.iconst 1) 1 13 := ⟨by decide +kernel, rfl⟩
theorem d_Ct_handleSeen_13 : am_D y_Ct_handleSeen.2.2.1 13 (.bastore) 1 14 := ⟨by decide +kernel, rfl⟩
theorem d_Ct_handleSeen_14 : am_D y_Ct_handleSeen.2.2.1 14 (.aload_n 0) 1 15 := ⟨by decide +kernel, rfl⟩
theorem d_Ct_handleSeen_15 : am_D y_Ct_handleSeen.2.2.1 15 (.getfield 15) 3 18 := ⟨by decide +kernel, rfl⟩
theorem d_Ct_handleSeen_18 : am_D y_Ct_handleSeen.2.2.1 18 (.iload_n 1) 1 19 := ⟨by decide +kernel, rfl⟩
theorem d_Ct_handleSeen_19 : am_D y_Ct_handleSeen.2.2.1 19 (.iload_n 2) 1 20 := ⟨by decide +kernel, rfl⟩
theorem d_Ct_handleSeen_20 : am_D y_Ct_handleSeen.2.2.1 20 (.iastore) 1 21 := ⟨by decide +kernel, rfl⟩
theorem d_Ct_handleSeen_21 : am_D y_Ct_handleSeen.2.2.1 21 (.aload_n 0) 1 22 := ⟨by decide +kernel, rfl⟩
theorem d_Ct_handleSeen_22 : am_D y_Ct_handleSeen.2.2.1 22 (.getfield 15) 3 25 := ⟨by decide +kernel, rfl⟩
theorem d_Ct_handleSeen_25 : am_D y_Ct_handleSeen.2.2.1 25 (.iload_n 2) 1 26 := ⟨by decide +kernel, rfl⟩
theorem d_Ct_handleSeen_26 : am_D y_Ct_handleSeen.2.2.1 26 (.iload_n 1) 1 27 := ⟨by decide +kernel, rfl⟩
theorem d_Ct_handleSeen_27 : am_D y_Ct_handleSeen.2.2.1 27 (.iastore) 1 28 := ⟨by decide +kernel, rfl⟩
theorem d_Ct_handleSeen_28 : am_D y_Ct_handleSeen.2.2.1 28 (.iconst 0) 1 29 := ⟨by decide +kernel, rfl⟩
theorem d_Ct_handleSeen_29 : am_D y_Ct_handleSeen.2.2.1 29 (.istore_n 3) 1 30 := ⟨by decide +kernel, rfl⟩
theorem d_Ct_handleSeen_30 : am_D y_Ct_handleSeen.2.2.1 30 (.iload_n 3) 1 31 := ⟨by decide +kernel, rfl⟩
theorem d_Ct_handleSeen_31 : am_D y_Ct_handleSeen.2.2.1 31 (.bipush 6) 2 33 := ⟨by decide +kernel, rfl⟩
theorem d_Ct_handleSeen_33 : am_D y_Ct_handleSeen.2.2.1 33 (.if_icmp .ge 36) 3 36 := ⟨by decide +kernel, rfl⟩
theorem d_Ct_handleSeen_36 : am_D y_Ct_handleSeen.2.2.1 36 (.aload_n 0) 1 37 := ⟨by decide +kernel, rfl⟩
theorem d_Ct_handleSeen_37 : am_D y_Ct_handleSeen.2.2.1 37 (.getfield 23) 3 40 := ⟨by decide +kernel, rfl⟩
theorem d_Ct_handleSeen_40 : am_D y_Ct_handleSeen.2.2.1 40 (.iload_n 3) 1 41 := ⟨by decide +kernel, rfl⟩
theorem d_Ct_handleSeen_41 : am_D y_Ct_handleSeen.2.2.1 41 (.iaload) 1 42 := ⟨by decide +kernel, rfl⟩
theorem d_Ct_handleSeen_42 : am_D y_Ct_handleSeen.2.2.1 42 (.iload_n 1) 1 43 := ⟨by decide +kernel, rfl⟩
theorem d_Ct_handleSeen_43 : am_D y_Ct_handleSeen.2.2.1 43 (.if_icmp .eq 13) 3 46 := ⟨by decide +kernel, rfl⟩
theorem d_Ct_handleSeen_46 : am_D y_Ct_handleSeen.2.2.1 46 (.aload_n 0) 1 47 := ⟨by decide +kernel, rfl⟩
theorem d_Ct_handleSeen_47 : am_D y_Ct_handleSeen.2.2.1 47 (.getfield 23) 3 50 := ⟨by decide +kernel, rfl⟩
theorem d_Ct_handleSeen_50 : am_D y_Ct_handleSeen.2.2.1 50 (.iload_n 3) 1 51 := ⟨by decide +kernel, rfl⟩
theorem d_Ct_handleSeen_51 : am_D y_Ct_handleSeen.2.2.1 51 (.iaload) 1 52 := ⟨by decide +kernel, rfl⟩
theorem d_Ct_handleSeen_52 : am_D y_Ct_handleSeen.2.2.1 52 (.iload_n 2) 1 53 := ⟨by decide +kernel, rfl⟩
theorem d_Ct_handleSeen_53 : am_D y_Ct_handleSeen.2.2.1 53 (.if_icmp .ne 10) 3 56 := ⟨by decide +kernel, rfl⟩
theorem d_Ct_handleSeen_56 : am_D y_Ct_handleSeen.2.2.1 56 (.aload_n 0) 1 57 := ⟨by decide +kernel, rfl⟩
theorem d_Ct_handleSeen_57 : am_D y_Ct_handleSeen.2.2.1 57 (.getfield 23) 3 60 := ⟨by decide +kernel, rfl⟩
theorem d_Ct_handleSeen_60 : am_D y_Ct_handleSeen.2.2.1 60 (.iload_n 3) 1 61 := ⟨by decide +kernel, rfl⟩
theorem d_Ct_handleSeen_61 : am_D y_Ct_handleSeen.2.2.1 61 (.iconst (-1)) 1 62 := ⟨by decide +kernel, rfl⟩
theorem d_Ct_handleSeen_62 : am_D y_Ct_handleSeen.2.2.1 62 (.iastore) 1 63 := ⟨by decide +kernel, rfl⟩
theorem d_Ct_handleSeen_63 : am_D y_Ct_handleSeen.2.2.1 63 (.iinc 3 1) 3 66 := ⟨by decide +kernel, rfl⟩
theorem d_Ct_handleSeen_66 : am_D y_Ct_handleSeen.2.2.1 66 (.goto (-36)) 3 69 := ⟨by decide +kernel, rfl⟩
theorem d_Ct_handleSeen_69 : am_D y_Ct_handleSeen.2.2.1 69 (.iconst 0) 1 70 := ⟨by decide +kernel, rfl⟩
theorem d_Ct_handleSeen_70 : am_D y_Ct_handleSeen.2.2.1 70 (.istore_n 3) 1 71 := ⟨by decide +kernel, rfl⟩
theorem d_Ct_handleSeen_71 : am_D y_Ct_handleSeen.2.2.1 71 (.iload_n 3) 1 72 := ⟨by decide +kernel, rfl⟩
theorem d_Ct_handleSeen_72 : am_D y_Ct_handleSeen.2.2.1 72 (.aload_n 0) 1 73 := ⟨by decide +kernel, rfl⟩
theorem d_Ct_handleSeen_73 : am_D y_Ct_handleSeen.2.2.1 73 (.getfield 29) 3 76 := ⟨by decide +kernel, rfl⟩
theorem d_Ct_handleSeen_76 : am_D y_Ct_handleSeen.2.2.1 76 (.invokevirtual 123) 3 79 := ⟨by decide +kernel, rfl⟩
theorem d_Ct_handleSeen_79 : am_D y_Ct_handleSeen.2.2.1 79 (.if_icmp .ge 66) 3 82 := ⟨by decide +kernel, rfl⟩
theorem d_Ct_handleSeen_82 : am_D y_Ct_handleSeen.2.2.1 82 (.aload_n 0) 1 83 := ⟨by decide +kernel, rfl⟩
theorem d_Ct_handleSeen_83 : am_D y_Ct_handleSeen.2.2.1 83 (.getfield 29) 3 86 := ⟨by decide +kernel, rfl⟩
theorem d_Ct_handleSeen_86 : am_D y_Ct_handleSeen.2.2.1 86 (.iload_n 3) 1 87 := ⟨by decide +kernel, rfl⟩
theorem d_Ct_handleSeen_87 : am_D y_Ct_handleSeen.2.2.1 87 (.invokevirtual 148) 3 90 := ⟨by decide +kernel, rfl⟩
theorem d_Ct_handleSeen_90 : am_D y_Ct_handleSeen.2.2.1 90 (.checkcast 99) 3 93 := ⟨by decide +kernel, rfl⟩
theorem d_Ct_handleSeen_93 : am_D y_Ct_handleSeen.2.2.1 93 (.astore 4) 2 95 := ⟨by decide +kernel, rfl⟩
theorem d_Ct_handleSeen_95 : am_D y_Ct_handleSeen.2.2.1 95 (.aload 4) 2 97 := ⟨by decide +kernel, rfl⟩
theorem d_Ct_handleSeen_97 : am_D y_Ct_handleSeen.2.2.1 97 (.iload_n 1) 1 98 := ⟨by decide +kernel, rfl⟩
theorem d_Ct_handleSeen_98 : am_D y_Ct_handleSeen.2.2.1 98 (.invokevirtual 152) 3 101 := ⟨by decide +kernel, rfl⟩
theorem d_Ct_handleSeen_101 : am_D y_Ct_handleSeen.2.2.1 101 (.ifCond .ne 12) 3 104 := ⟨by decide +kernel, rfl⟩
theorem d_Ct_handleSeen_104 : am_D y_Ct_handleSeen.2.2.1 104 (.aload 4) 2 106 := ⟨by decide +kernel, rfl⟩
theorem d_Ct_handleSeen_106 : am_D y_Ct_handleSeen.2.2.1 106 (.iload_n 2) 1 107 := ⟨by decide +kernel, rfl⟩
theorem d_Ct_handleSeen_107 : am_D y_Ct_handleSeen.2.2.1 107 (.invokevirtual 152) 3 110 := ⟨by decide +kernel, rfl⟩
theorem d_Ct_handleSeen_110 : am_D y_Ct_handleSeen.2.2.1 110 (.ifCond .eq 7) 3 113 := ⟨by decide +kernel, rfl⟩
theorem d_Ct_handleSeen_113 : am_D y_Ct_handleSeen.2.2.1 113 (.iconst 1) 1 114 := ⟨by decide +kernel, rfl⟩
theorem d_Ct_handleSeen_114 : am_D y_Ct_handleSeen.2.2.1 114 (.goto 4) 3 117 := ⟨by decide +kernel, rfl⟩
theorem d_Ct_handleSeen_117 : am_D y_Ct_handleSeen.2.2.1 117 (.iconst 0) 1 118 := ⟨by decide +kernel, rfl⟩
theorem d_Ct_handleSeen_118 : am_D y_Ct_handleSeen.2.2.1 118 (.istore 5) 2 120 := ⟨by decide +kernel, rfl⟩
theorem d_Ct_handleSeen_120 : am_D y_Ct_handleSeen.2.2.1 120 (.iload 5) 2 122 := ⟨by decide +kernel, rfl⟩
theorem d_Ct_handleSeen_122 : am_D y_Ct_handleSeen.2.2.1 122 (.ifCond .eq 17) 3 125 := ⟨by decide +kernel, rfl⟩
theorem d_Ct_handleSeen_125 : am_D y_Ct_handleSeen.2.2.1 125 (.aload 4) 2 127 := ⟨by decide +kernel, rfl⟩
theorem d_Ct_handleSeen_127 : am_D y_Ct_handleSeen.2.2.1 127 (.invokevirtual 156) 3 130 := ⟨by decide +kernel, rfl⟩
theorem d_Ct_handleSeen_130 : am_D y_Ct_handleSeen.2.2.1 130 (.ifCond .eq 9) 3 133 := ⟨by decide +kernel, rfl⟩
theorem d_Ct_handleSeen_133 : am_D y_Ct_handleSeen.2.2.1 133 (.aload_n 0) 1 134 := ⟨by decide +kernel, rfl⟩
theorem d_Ct_handleSeen_134 : am_D y_Ct_handleSeen.2.2.1 134 (.aload 4) 2 136 := ⟨by decide +kernel, rfl⟩
theorem d_Ct_handleSeen_136 : am_D y_Ct_handleSeen.2.2.1 136 (.invokevirtual 107) 3 139 := ⟨by decide +kernel, rfl⟩
theorem d_Ct_handleSeen_139 : am_D y_Ct_handleSeen.2.2.1 139 (.iinc 3 1) 3 142 := ⟨by decide +kernel, rfl⟩
theorem d_Ct_handleSeen_142 : am_D y_Ct_handleSeen.2.2.1 142 (.goto (-71)) 3 145 := ⟨by decide +kernel, rfl⟩
theorem d_Ct_handleSeen_145 : am_D y_Ct_handleSeen.2.2.1 145 (.return_) 1 146 := ⟨by decide +kernel, rfl⟩
theorem d_Co_endsWith_0 : am_D y_Co_endsWith.2.2.1 0 (.aload_n 0) 1 1 := ⟨by decide +kernel, rfl⟩
theorem d_Co_endsWith_1 : am_D y_Co_endsWith.2.2.1 1 (.getfield 25) 3 4 := ⟨by decide +kernel, rfl⟩
theorem d_Co_endsWith_4 : am_D y_Co_endsWith.2.2.1 4 (.arraylength) 1 5 := ⟨by decide +kernel, rfl⟩
theorem d_Co_endsWith_5 : am_D y_Co_endsWith.2.2.1 5 (.ifCond .le 23) 3 8 := ⟨by decide +kernel, rfl⟩
theorem d_Co_endsWith_8 : am_D y_Co_endsWith.2.2.1 8 (.aload_n 0) 1 9 := ⟨by decide +kernel, rfl⟩
theorem d_Co_endsWith_9 : am_D y_Co_endsWith.2.2.1 9 (.getfield 25) 3 12 := ⟨by decide +kernel, rfl⟩
theorem d_Co_endsWith_12 : am_D y_Co_endsWith.2.2.1 12 (.aload_n 0) 1 13 := ⟨by decide +kernel, rfl⟩
theorem d_Co_endsWith_13 : am_D y_Co_endsWith.2.2.1 13 (.getfield 25) 3 16 := ⟨by decide +kernel, rfl⟩
theorem d_Co_endsWith_16 : am_D y_Co_endsWith.2.2.1 16 (.arraylength) 1 17 := ⟨by decide +kernel, rfl⟩
theorem d_Co_endsWith_17 : am_D y_Co_endsWith.2.2.1 17 (.iconst 1) 1 18 := ⟨by decide +kernel, rfl⟩
theorem d_Co_endsWith_18 : am_D y_Co_endsWith.2.2.1 18 (.isub) 1 19 := ⟨by decide +kernel, rfl⟩
theorem d_Co_endsWith_19 : am_D y_Co_endsWith.2.2.1 19 (.iaload) 1 20 := ⟨by decide +kernel, rfl⟩
theorem d_Co_endsWith_20 : am_D y_Co_endsWith.2.2.1 20 (.iload_n 1) 1 21 := ⟨by decide +kernel, rfl⟩
theorem d_Co_endsWith_21 : am_D y_Co_endsWith.2.2.1 21 (.if_icmp .ne 7) 3 24 := ⟨by decide +kernel, rfl⟩
theorem d_Co_endsWith_24 : am_D y_Co_endsWith.2.2.1 24 (.iconst 1) 1 25 := ⟨by decide +kernel, rfl⟩
theorem d_Co_endsWith_25 : am_D y_Co_endsWith.2.2.1 25 (.goto 4) 3 28 := ⟨by decide +kernel, rfl⟩
theorem d_Co_endsWith_28 : am_D y_Co_endsWith.2.2.1 28 (.iconst 0) 1 29 := ⟨by decide +kernel, rfl⟩
theorem d_Co_endsWith_29 : am_D y_Co_endsWith.2.2.1 29 (.ireturn) 1 30 := ⟨by decide +kernel, rfl⟩
theorem d_Co_isLayingOrLaid_0 : am_D y_Co_isLayingOrLaid.2.2.1 0 (.aload_n 0) 1 1 := ⟨by decide +kernel, rfl⟩
theorem d_Co_isLayingOrLaid_1 : am_D y_Co_isLayingOrLaid.2.2.1 1 (.getfield 18) 3 4 := ⟨by decide +kernel, rfl⟩
theorem d_Co_isLayingOrLaid_4 : am_D y_Co_isLayingOrLaid.2.2.1 4 (.iconst 2) 1 5 := ⟨by decide +kernel, rfl⟩
theorem d_Co_isLayingOrLaid_5 : am_D y_Co_isLayingOrLaid.2.2.1 5 (.if_icmp .eq 11) 3 8 := ⟨by decide +kernel, rfl⟩
theorem d_Co_isLayingOrLaid_8 : am_D y_Co_isLayingOrLaid.2.2.1 8 (.aload_n 0) 1 9 := ⟨by decide +kernel, rfl⟩
theorem d_Co_isLayingOrLaid_9 : am_D y_Co_isLayingOrLaid.2.2.1 9 (.getfield 18) 3 12 := ⟨by decide +kernel, rfl⟩
theorem d_Co_isLayingOrLaid_12 : am_D y_Co_isLayingOrLaid.2.2.1 12 (.iconst 3) 1 13 := ⟨by decide +kernel, rfl⟩
theorem d_Co_isLayingOrLaid_13 : am_D y_Co_isLayingOrLaid.2.2.1 13 (.if_icmp .ne 7) 3 16 := ⟨by decide +kernel, rfl⟩
theorem d_Co_isLayingOrLaid_16 : am_D y_Co_isLayingOrLaid.2.2.1 16 (.iconst 1) 1 17 := ⟨by decide +kernel, rfl⟩
theorem d_Co_isLayingOrLaid_17 : am_D y_Co_isLayingOrLaid.2.2.1 17 (.goto 4) 3 20 := ⟨by decide +kernel, rfl⟩
theorem d_Co_isLayingOrLaid_20 : am_D y_Co_isLayingOrLaid.2.2.1 20 (.iconst 0) 1 21 := ⟨by decide +kernel, rfl⟩
theorem d_Co_isLayingOrLaid_21 : am_D y_Co_isLayingOrLaid.2.2.1 21 (.ireturn) 1 22 := ⟨by decide +kernel, rfl⟩
theorem d_Ct_handleDone_0 : am_D y_Ct_handleDone.2.2.1 0 (.iconst 0) 1 1 := ⟨by decide +kernel, rfl⟩
theorem d_Ct_handleDone_1 : am_D y_Ct_handleDone.2.2.1 1 (.istore_n 2) 1 2 := ⟨by decide +kernel, rfl⟩
theorem d_Ct_handleDone_2 : am_D y_Ct_handleDone.2.2.1 2 (.iload_n 2) 1 3 := ⟨by decide +kernel, rfl⟩
theorem d_Ct_handleDone_3 : am_D y_Ct_handleDone.2.2.1 3 (.aload_n 0) 1 4 := ⟨by decide +kernel, rfl⟩
theorem d_Ct_handleDone_4 : am_D y_Ct_handleDone.2.2.1 4 (.getfield 29) 3 7 := ⟨by decide +kernel, rfl⟩
theorem d_Ct_handleDone_7 : am_D y_Ct_handleDone.2.2.1 7 (.invokevirtual 123) 3 10 := ⟨by decide +kernel, rfl⟩
theorem d_Ct_handleDone_10 : am_D y_Ct_handleDone.2.2.1 10 (.if_icmp .ge 83) 3 13 := ⟨by decide +kernel, rfl⟩
theorem d_Ct_handleDone_13 : am_D y_Ct_handleDone.2.2.1 13 (.aload_n 0) 1 14 := ⟨by decide +kernel, rfl⟩
theorem d_Ct_handleDone_14 : am_D y_Ct_handleDone.2.2.1 14 (.getfield 29) 3 17 := ⟨by decide +kernel, rfl⟩
theorem d_Ct_handleDone_17 : am_D y_Ct_handleDone.2.2.1 17 (.iload_n 2) 1 18 := ⟨by decide +kernel, rfl⟩
theorem d_Ct_handleDone_18 : am_D y_Ct_handleDone.2.2.1 18 (.invokevirtual 148) 3 21 := ⟨by decide +kernel, rfl⟩
theorem d_Ct_handleDone_21 : am_D y_Ct_handleDone.2.2.1 21 (.checkcast 99) 3 24 := ⟨by decide +kernel, rfl⟩
theorem d_Ct_handleDone_24 : am_D y_Ct_handleDone.2.2.1 24 (.astore_n 3) 1 25 := ⟨by decide +kernel, rfl⟩
theorem d_Ct_handleDone_25 : am_D y_Ct_handleDone.2.2.1 25 (.aload_n 3) 1 26 := ⟨by decide +kernel, rfl⟩
theorem d_Ct_handleDone_26 : am_D y_Ct_handleDone.2.2.1 26 (.getfield 160) 3 29 := ⟨by decide +kernel, rfl⟩
theorem d_Ct_handleDone_29 : am_D y_Ct_handleDone.2.2.1 29 (.iload_n 1) 1 30 := ⟨by decide +kernel, rfl⟩
theorem d_Ct_handleDone_30 : am_D y_Ct_handleDone.2.2.1 30 (.if_icmp .ne 57) 3 33 := ⟨by decide +kernel, rfl⟩
theorem d_Ct_handleDone_33 : am_D y_Ct_handleDone.2.2.1 33 (.aload_n 3) 1 34 := ⟨by decide +kernel, rfl⟩
theorem d_Ct_handleDone_34 : am_D y_Ct_handleDone.2.2.1 34 (.getfield 104) 3 37 := ⟨by decide +kernel, rfl⟩
theorem d_Ct_handleDone_37 : am_D y_Ct_handleDone.2.2.1 37 (.iconst 1) 1 38 := ⟨by decide +kernel, rfl⟩
theorem d_Ct_handleDone_38 : am_D y_Ct_handleDone.2.2.1 38 (.if_icmp .ne 12) 3 41 := ⟨by decide +kernel, rfl⟩
theorem d_Ct_handleDone_41 : am_D y_Ct_handleDone.2.2.1 41 (.aload_n 0) 1 42 := ⟨by decide +kernel, rfl⟩
theorem d_Ct_handleDone_42 : am_D y_Ct_handleDone.2.2.1 42 (.aload_n 3) 1 43 := ⟨by decide +kernel, rfl⟩
theorem d_Ct_handleDone_43 : am_D y_Ct_handleDone.2.2.1 43 (.iload_n 2) 1 44 := ⟨by decide +kernel, rfl⟩
theorem d_Ct_handleDone_44 : am_D y_Ct_handleDone.2.2.1 44 (.invokevirtual 163) 3 47 := ⟨by decide +kernel, rfl⟩
theorem d_Ct_handleDone_47 : am_D y_Ct_handleDone.2.2.1 47 (.goto 39) 3 50 := ⟨by decide +kernel, rfl⟩
theorem d_Ct_handleDone_50 : am_D y_Ct_handleDone.2.2.1 50 (.aload_n 3) 1 51 := ⟨by decide +kernel, rfl⟩
theorem d_Ct_handleDone_51 : am_D y_Ct_handleDone.2.2.1 51 (.getfield 104) 3 54 := ⟨by decide +kernel, rfl⟩
theorem d_Ct_handleDone_54 : am_D y_Ct_handleDone.2.2.1 54 (.iconst 2) 1 55 := ⟨by decide +kernel, rfl⟩
theorem d_Ct_handleDone_55 : am_D y_Ct_handleDone.2.2.1 55 (.if_icmp .ne 18) 3 58 := ⟨by decide +kernel, rfl⟩
theorem d_Ct_handleDone_58 : am_D y_Ct_handleDone.2.2.1 58 (.aload_n 3) 1 59 := ⟨by decide +kernel, rfl⟩
theorem d_Ct_handleDone_59 : am_D y_Ct_handleDone.2.2.1 59 (.getfield 167) 3 62 := ⟨by decide +kernel, rfl⟩
theorem d_Ct_handleDone_62 : am_D y_Ct_handleDone.2.2.1 62 (.ifCond .le 11) 3 65 := ⟨by decide +kernel, rfl⟩
theorem d_Ct_handleDone_65 : am_D y_Ct_handleDone.2.2.1 65 (.aload_n 0) 1 66 := ⟨by decide +kernel, rfl⟩
theorem d_Ct_handleDone_66 : am_D y_Ct_handleDone.2.2.1 66 (.aload_n 3) 1 67 := ⟨by decide +kernel, rfl⟩
theorem d_Ct_handleDone_67 : am_D y_Ct_handleDone.2.2.1 67 (.invokevirtual 145) 3 70 := ⟨by decide +kernel, rfl⟩
theorem d_Ct_handleDone_70 : am_D y_Ct_handleDone.2.2.1 70 (.goto 16) 3 73 := ⟨by decide +kernel, rfl⟩
theorem d_Ct_handleDone_73 : am_D y_Ct_handleDone.2.2.1 73 (.aload_n 3) 1 74 := ⟨by decide +kernel, rfl⟩
theorem d_Ct_handleDone_74 : am_D y_Ct_handleDone.2.2.1 74 (.getfield 104) 3 77 := ⟨by decide +kernel, rfl⟩
theorem d_Ct_handleDone_77 : am_D y_Ct_handleDone.2.2.1 77 (.iconst 2) 1 78 := ⟨by decide +kernel, rfl⟩
theorem d_Ct_handleDone_78 : am_D y_Ct_handleDone.2.2.1 78 (.if_icmp .ne 8) 3 81 := ⟨by decide +kernel, rfl⟩
theorem d_Ct_handleDone_81 : am_D y_Ct_handleDone.2.2.1 81 (.aload_n 0) 1 82 := ⟨by decide +kernel, rfl⟩
theorem d_Ct_handleDone_82 : am_D y_Ct_handleDone.2.2.1 82 (.aload_n 3) 1 83 := ⟨by decide +kernel, rfl⟩
theorem d_Ct_handleDone_83 : am_D y_Ct_handleDone.2.2.1 83 (.invokevirtual 170) 3 86 := ⟨by decide +kernel, rfl⟩
theorem d_Ct_handleDone_86 : am_D y_Ct_handleDone.2.2.1 86 (.return_) 1 87 := ⟨by decide +kernel, rfl⟩
theorem d_Ct_handleDone_87 : am_D y_Ct_handleDone.2.2.1 87 (.iinc 2 1) 3 90 := ⟨by decide +kernel, rfl⟩
theorem d_Ct_handleDone_90 : am_D y_Ct_handleDone.2.2.1 90 (.goto (-88)) 3 93 := ⟨by decide +kernel, rfl⟩
theorem d_Ct_handleDone_93 : am_D y_Ct_handleDone.2.2.1 93 (.return_) 1 94 := ⟨by decide +kernel, rfl⟩
theorem d_Ct_countDone_0 : am_D y_Ct_countDone.2.2.1 0 (.aload_n 1) 1 1 := ⟨by decide +kernel, rfl⟩
theorem d_Ct_countDone_1 : am_D y_Ct_countDone.2.2.1 1 (.dup) 1 2 := ⟨by decide +kernel, rfl⟩
theorem d_Ct_countDone_2 : am_D y_Ct_countDone.2.2.1 2 (.getfield 173) 3 5 := ⟨by decide +kernel, rfl⟩
theorem d_Ct_countDone_5 : am_D y_Ct_countDone.2.2.1 5 (.iconst 1) 1 6 := ⟨by decide +kernel, rfl⟩
theorem d_Ct_countDone_6 : am_D y_Ct_countDone.2.2.1 6 (.isub) 1 7 := ⟨by decide +kernel, rfl⟩
theorem d_Ct_countDone_7 : am_D y_Ct_countDone.2.2.1 7 (.putfield 173) 3 10 := ⟨by decide +kernel, rfl⟩
theorem d_Ct_countDone_10 : am_D y_Ct_countDone.2.2.1 10 (.aload_n 1) 1 11 := ⟨by decide +kernel, rfl⟩
theorem d_Ct_countDone_11 : am_D y_Ct_countDone.2.2.1 11 (.getfield 173) 3 14 := ⟨by decide +kernel, rfl⟩
theorem d_Ct_countDone_14 : am_D y_Ct_countDone.2.2.1 14 (.ifCond .le 4) 3 17 := ⟨by decide +kernel, rfl⟩
theorem d_Ct_countDone_17 : am_D y_Ct_countDone.2.2.1 17 (.return_) 1 18 := ⟨by decide +kernel, rfl⟩
theorem d_Ct_countDone_18 : am_D y_Ct_countDone.2.2.1 18 (.aload_n 1) 1 19 := ⟨by decide +kernel, rfl⟩
theorem d_Ct_countDone_19 : am_D y_Ct_countDone.2.2.1 19 (.getfield 98) 3 22 := ⟨by decide +kernel, rfl⟩
theorem d_Ct_countDone_22 : am_D y_Ct_countDone.2.2.1 22 (.ifnonnull 9) 3 25 := ⟨by decide +kernel, rfl⟩
theorem d_Ct_countDone_25 : am_D y_Ct_countDone.2.2.1 25 (.getstatic 176) 3 28 := ⟨by decide +kernel, rfl⟩
theorem d_Ct_countDone_28 : am_D y_Ct_countDone.2.2.1 28 (.goto 15) 3 31 := ⟨by decide +kernel, rfl⟩
theorem d_Ct_countDone_31 : am_D y_Ct_countDone.2.2.1 31 (.aload_n 0) 1 32 := ⟨by decide +kernel, rfl⟩
theorem d_Ct_countDone_32 : am_D y_Ct_countDone.2.2.1 32 (.aload_n 1) 1 33 := ⟨by decide +kernel, rfl⟩
theorem d_Ct_countDone_33 : am_D y_Ct_countDone.2.2.1 33 (.getfield 179) 3 36 := ⟨by decide +kernel, rfl⟩
theorem d_Ct_countDone_36 : am_D y_Ct_countDone.2.2.1 36 (.aload_n 1) 1 37 := ⟨by decide +kernel, rfl⟩
theorem d_Ct_countDone_37 : am_D y_Ct_countDone.2.2.1 37 (.getfield 180) 3 40 := ⟨by decide +kernel, rfl⟩
theorem d_Ct_countDone_40 : am_D y_Ct_countDone.2.2.1 40 (.invokevirtual 135) 3 43 := ⟨by decide +kernel, rfl⟩
theorem d_Ct_countDone_43 : am_D y_Ct_countDone.2.2.1 43 (.astore_n 3) 1 44 := ⟨by decide +kernel, rfl⟩
theorem d_Ct_countDone_44 : am_D y_Ct_countDone.2.2.1 44 (.aload_n 3) 1 45 := ⟨by decide +kernel, rfl⟩
theorem d_Ct_countDone_45 : am_D y_Ct_countDone.2.2.1 45 (.arraylength) 1 46 := ⟨by decide +kernel, rfl⟩
theorem d_Ct_countDone_46 : am_D y_Ct_countDone.2.2.1 46 (.ifCond .ne 15) 3 49 := ⟨by decide +kernel, rfl⟩
theorem d_Ct_countDone_49 : am_D y_Ct_countDone.2.2.1 49 (.aload_n 0) 1 50 := ⟨by decide +kernel, rfl⟩
theorem d_Ct_countDone_50 : am_D y_Ct_countDone.2.2.1 50 (.getfield 29) 3 53 := ⟨by decide +kernel, rfl⟩
theorem d_Ct_countDone_53 : am_D y_Ct_countDone.2.2.1 53 (.iload_n 2) 1 54 := ⟨by decide +kernel, rfl⟩
theorem d_Ct_countDone_54 : am_D y_Ct_countDone.2.2.1 54 (.invokevirtual 181) 3 57 := ⟨by decide +kernel, rfl⟩
theorem d_Ct_countDone_57 : am_D y_Ct_countDone.2.2.1 57 (.pop) 1 58 := ⟨by decide +kernel, rfl⟩
theorem d_Ct_countDone_58 : am_D y_Ct_countDone.2.2.1 58 (.goto 13) 3 61 := ⟨by decide +kernel, rfl⟩
theorem d_Ct_countDone_61 : am_D y_Ct_countDone.2.2.1 61 (.aload_n 1) 1 62 := ⟨by decide +kernel, rfl⟩
theorem d_Ct_countDone_62 : am_D y_Ct_countDone.2.2.1 62 (.aload_n 3) 1 63 := ⟨by decide +kernel, rfl⟩
theorem d_Ct_countDone_63 : am_D y_Ct_countDone.2.2.1 63 (.invokevirtual 141) 3 66 := ⟨by decide +kernel, rfl⟩
theorem d_Ct_countDone_66 : am_D y_Ct_countDone.2.2.1 66 (.aload_n 0) 1 67 := ⟨by decide +kernel, rfl⟩
theorem d_Ct_countDone_67 : am_D y_Ct_countDone.2.2.1 67 (.aload_n 1) 1 68 := ⟨by decide +kernel, rfl⟩
theorem d_Ct_countDone_68 : am_D y_Ct_countDone.2.2.1 68 (.invokevirtual 145) 3 71 := ⟨by decide +kernel, rfl⟩
theorem d_Ct_countDone_71 : am_D y_Ct_countDone.2.2.1 71 (.return_) 1 72 := ⟨by decide +kernel, rfl⟩
theorem d_Ct_finishLaying_0 : am_D y_Ct_finishLaying.2.2.1 0 (.aload_n 1) 1 1 := ⟨by decide +kernel, rfl⟩
theorem d_Ct_finishLaying_1 : am_D y_Ct_finishLaying.2.2.1 1 (.iconst 3) 1 2 := ⟨by decide +kernel, rfl⟩
theorem d_Ct_finishLaying_2 : am_D y_Ct_finishLaying.2.2.1 2 (.putfield 104) 3 5 := ⟨by decide +kernel, rfl⟩
theorem d_Ct_finishLaying_5 : am_D y_Ct_finishLaying.2.2.1 5 (.aload_n 1) 1 6 := ⟨by decide +kernel, rfl⟩
theorem d_Ct_finishLaying_6 : am_D y_Ct_finishLaying.2.2.1 6 (.getfield 98) 3 9 := ⟨by decide +kernel, rfl⟩
theorem d_Ct_finishLaying_9 : am_D y_Ct_finishLaying.2.2.1 9 (.ifnull 40) 3 12 := ⟨by decide +kernel, rfl⟩
theorem d_Ct_finishLaying_12 : am_D y_Ct_finishLaying.2.2.1 12 (.aload_n 0) 1 13 := ⟨by decide +kernel, rfl⟩
theorem d_Ct_finishLaying_13 : am_D y_Ct_finishLaying.2.2.1 13 (.getfield 9) 3 16 := ⟨by decide +kernel, rfl⟩
theorem d_Ct_finishLaying_16 : am_D y_Ct_finishLaying.2.2.1 16 (.aload_n 1) 1 17 := ⟨by decide +kernel, rfl⟩
theorem d_Ct_finishLaying_17 : am_D y_Ct_finishLaying.2.2.1 17 (.getfield 184) 3 20 := ⟨by decide +kernel, rfl⟩
theorem d_Ct_finishLaying_20 : am_D y_Ct_finishLaying.2.2.1 20 (.iconst 0) 1 21 := ⟨by decide +kernel, rfl⟩
theorem d_Ct_finishLaying_21 : am_D y_Ct_finishLaying.2.2.1 21 (.iaload) 1 22 := ⟨by decide +kernel, rfl⟩
theorem d_Ct_finishLaying_22 : am_D y_Ct_finishLaying.2.2.1 22 (.invokestatic 187) 3 25 := ⟨by decide +kernel, rfl⟩
theorem d_Ct_finishLaying_25 : am_D y_Ct_finishLaying.2.2.1 25 (.aaload) 1 26 := ⟨by decide +kernel, rfl⟩
theorem d_Ct_finishLaying_26 : am_D y_Ct_finishLaying.2.2.1 26 (.astore_n 2) 1 27 := ⟨by decide +kernel, rfl⟩
theorem d_Ct_finishLaying_27 : am_D y_Ct_finishLaying.2.2.1 27 (.aload_n 2) 1 28 := ⟨by decide +kernel, rfl⟩
theorem d_Ct_finishLaying_28 : am_D y_Ct_finishLaying.2.2.1 28 (.getfield 118) 3 31 := ⟨by decide +kernel, rfl⟩
theorem d_Ct_finishLaying_31 : am_D y_Ct_finishLaying.2.2.1 31 (.iconst 4) 1 32 := ⟨by decide +kernel, rfl⟩
theorem d_Ct_finishLaying_32 : am_D y_Ct_finishLaying.2.2.1 32 (.iconst (-1)) 1 33 := ⟨by decide +kernel, rfl⟩
theorem d_Ct_finishLaying_33 : am_D y_Ct_finishLaying.2.2.1 33 (.aload_n 1) 1 34 := ⟨by decide +kernel, rfl⟩
theorem d_Ct_finishLaying_34 : am_D y_Ct_finishLaying.2.2.1 34 (.getfield 98) 3 37 := ⟨by decide +kernel, rfl⟩
theorem d_Ct_finishLaying_37 : am_D y_Ct_finishLaying.2.2.1 37 (.invokestatic 127) 3 40 := ⟨by decide +kernel, rfl⟩
theorem d_Ct_finishLaying_40 : am_D y_Ct_finishLaying.2.2.1 40 (.invokevirtual 131) 3 43 := ⟨by decide +kernel, rfl⟩
theorem d_Ct_finishLaying_43 : am_D y_Ct_finishLaying.2.2.1 43 (.pop) 1 44 := ⟨by decide +kernel, rfl⟩
theorem d_Ct_finishLaying_44 : am_D y_Ct_finishLaying.2.2.1 44 (.aload_n 1) 1 45 := ⟨by decide +kernel, rfl⟩
theorem d_Ct_finishLaying_45 : am_D y_Ct_finishLaying.2.2.1 45 (.aconst_null) 1 46 := ⟨by decide +kernel, rfl⟩
theorem d_Ct_finishLaying_46 : am_D y_Ct_finishLaying.2.2.1 46 (.putfield 98) 3 49 := ⟨by decide +kernel, rfl⟩
theorem d_Ct_finishLaying_49 : am_D y_Ct_finishLaying.2.2.1 49 (.return_) 1 50 := ⟨by decide +kernel, rfl⟩
theorem d_Ct_handleNoRoom_0 : am_D y_Ct_handleNoRoom.2.2.1 0 (.aload_n 0) 1 1 := ⟨by decide +kernel, rfl⟩
theorem d_Ct_handleNoRoom_1 : am_D y_Ct_handleNoRoom.2.2.1 1 (.iload_n 1) 1 2 := ⟨by decide +kernel, rfl⟩
theorem d_Ct_handleNoRoom_2 : am_D y_Ct_handleNoRoom.2.2.1 2 (.iload_n 2) 1 3 := ⟨by decide +kernel, rfl⟩
theorem d_Ct_handleNoRoom_3 : am_D y_Ct_handleNoRoom.2.2.1 3 (.invokevirtual 94) 3 6 := ⟨by decide +kernel, rfl⟩
theorem d_Ct_handleNoRoom_6 : am_D y_Ct_handleNoRoom.2.2.1 6 (.astore_n 3) 1 7 := ⟨by decide +kernel, rfl⟩
theorem d_Ct_handleNoRoom_7 : am_D y_Ct_handleNoRoom.2.2.1 7 (.aload_n 3) 1 8 := ⟨by decide +kernel, rfl⟩
theorem d_Ct_handleNoRoom_8 : am_D y_Ct_handleNoRoom.2.2.1 8 (.ifnull 21) 3 11 := ⟨by decide +kernel, rfl⟩
theorem d_Ct_handleNoRoom_11 : am_D y_Ct_handleNoRoom.2.2.1 11 (.aload_n 3) 1 12 := ⟨by decide +kernel, rfl⟩
theorem d_Ct_handleNoRoom_12 : am_D y_Ct_handleNoRoom.2.2.1 12 (.getfield 104) 3 15 := ⟨by decide +kernel, rfl⟩
theorem d_Ct_handleNoRoom_15 : am_D y_Ct_handleNoRoom.2.2.1 15 (.iconst 2) 1 16 := ⟨by decide +kernel, rfl⟩
theorem d_Ct_handleNoRoom_16 : am_D y_Ct_handleNoRoom.2.2.1 16 (.if_icmp .ne 13) 3 19 := ⟨by decide +kernel, rfl⟩
theorem d_Ct_handleNoRoom_19 : am_D y_Ct_handleNoRoom.2.2.1 19 (.aload_n 3) 1 20 := ⟨by decide +kernel, rfl⟩
theorem d_Ct_handleNoRoom_20 : am_D y_Ct_handleNoRoom.2.2.1 20 (.aconst_null) 1 21 := ⟨by decide +kernel, rfl⟩
theorem d_Ct_handleNoRoom_21 : am_D y_Ct_handleNoRoom.2.2.1 21 (.putfield 98) 3 24 := ⟨by decide +kernel, rfl⟩
theorem d_Ct_handleNoRoom_24 : am_D y_Ct_handleNoRoom.2.2.1 24 (.aload_n 0) 1 25 := ⟨by decide +kernel, rfl⟩
theorem d_Ct_handleNoRoom_25 : am_D y_Ct_handleNoRoom.2.2.1 25 (.aload_n 3) 1 26 := ⟨by decide +kernel, rfl⟩
theorem d_Ct_handleNoRoom_26 : am_D y_Ct_handleNoRoom.2.2.1 26 (.invokevirtual 107) 3 29 := ⟨by decide +kernel, rfl⟩
theorem d_Ct_handleNoRoom_29 : am_D y_Ct_handleNoRoom.2.2.1 29 (.return_) 1 30 := ⟨by decide +kernel, rfl⟩
theorem d_Ct_handleGone_0 : am_D y_Ct_handleGone.2.2.1 0 (.aload_n 0) 1 1 := ⟨by decide +kernel, rfl⟩
theorem d_Ct_handleGone_1 : am_D y_Ct_handleGone.2.2.1 1 (.iload_n 2) 1 2 := ⟨by decide +kernel, rfl⟩
theorem d_Ct_handleGone_2 : am_D y_Ct_handleGone.2.2.1 2 (.iload_n 3) 1 3 := ⟨by decide +kernel, rfl⟩
theorem d_Ct_handleGone_3 : am_D y_Ct_handleGone.2.2.1 3 (.invokevirtual 94) 3 6 := ⟨by decide +kernel, rfl⟩
theorem d_Ct_handleGone_6 : am_D y_Ct_handleGone.2.2.1 6 (.astore 4) 2 8 := ⟨by decide +kernel, rfl⟩
theorem d_Ct_handleGone_8 : am_D y_Ct_handleGone.2.2.1 8 (.aload 4) 2 10 := ⟨by decide +kernel, rfl⟩
theorem d_Ct_handleGone_10 : am_D y_Ct_handleGone.2.2.1 10 (.ifnull 26) 3 13 := ⟨by decide +kernel, rfl⟩
theorem d_Ct_handleGone_13 : am_D y_Ct_handleGone.2.2.1 13 (.aload 4) 2 15 := ⟨by decide +kernel, rfl⟩
theorem d_Ct_handleGone_15 : am_D y_Ct_handleGone.2.2.1 15 (.invokevirtual 156) 3 18 := ⟨by decide +kernel, rfl⟩
theorem d_Ct_handleGone_18 : am_D y_Ct_handleGone.2.2.1 18 (.ifCond .eq 18) 3 21 := ⟨by decide +kernel, rfl⟩
theorem d_Ct_handleGone_21 : am_D y_Ct_handleGone.2.2.1 21 (.aload 4) 2 23 := ⟨by decide +kernel, rfl⟩
theorem d_Ct_handleGone_23 : am_D y_Ct_handleGone.2.2.1 23 (.iload_n 1) 1 24 := ⟨by decide +kernel, rfl⟩
theorem d_Ct_handleGone_24 : am_D y_Ct_handleGone.2.2.1 24 (.invokevirtual 191) 3 27 := ⟨by decide +kernel, rfl⟩
theorem d_Ct_handleGone_27 : am_D y_Ct_handleGone.2.2.1 27 (.ifCond .eq 9) 3 30 := ⟨by decide +kernel, rfl⟩
theorem d_Ct_handleGone_30 : am_D y_Ct_handleGone.2.2.1 30 (.aload_n 0) 1 31 := ⟨by decide +kernel, rfl⟩
theorem d_Ct_handleGone_31 : am_D y_Ct_handleGone.2.2.1 31 (.aload 4) 2 33 := ⟨by decide +kernel, rfl⟩
theorem d_Ct_handleGone_33 : am_D y_Ct_handleGone.2.2.1 33 (.invokevirtual 107) 3 36 := ⟨by decide +kernel, rfl⟩
theorem d_Ct_handleGone_36 : am_D y_Ct_handleGone.2.2.1 36 (.return_) 1 37 := ⟨by decide +kernel, rfl⟩
theorem d_Co_passes_0 : am_D y_Co_passes.2.2.1 0 (.aload_n 0) 1 1 := ⟨by decide +kernel, rfl⟩
theorem d_Co_passes_1 : am_D y_Co_passes.2.2.1 1 (.getfield 25) 3 4 := ⟨by decide +kernel, rfl⟩
theorem d_Co_passes_4 : am_D y_Co_passes.2.2.1 4 (.astore_n 2) 1 5 := ⟨by decide +kernel, rfl⟩
theorem d_Co_passes_5 : am_D y_Co_passes.2.2.1 5 (.aload_n 2) 1 6 := ⟨by decide +kernel, rfl⟩
theorem d_Co_passes_6 : am_D y_Co_passes.2.2.1 6 (.arraylength) 1 7 := ⟨by decide +kernel, rfl⟩
theorem d_Co_passes_7 : am_D y_Co_passes.2.2.1 7 (.istore_n 3) 1 8 := ⟨by decide +kernel, rfl⟩
theorem d_Co_passes_8 : am_D y_Co_passes.2.2.1 8 (.iconst 0) 1 9 := ⟨by decide +kernel, rfl⟩
theorem d_Co_passes_9 : am_D y_Co_passes.2.2.1 9 (.istore 4) 2 11 := ⟨by decide +kernel, rfl⟩
theorem d_Co_passes_11 : am_D y_Co_passes.2.2.1 11 (.iload 4) 2 13 := ⟨by decide +kernel, rfl⟩
theorem d_Co_passes_13 : am_D y_Co_passes.2.2.1 13 (.iload_n 3) 1 14 := ⟨by decide +kernel, rfl⟩
theorem d_Co_passes_14 : am_D y_Co_passes.2.2.1 14 (.if_icmp .ge 26) 3 17 := ⟨by decide +kernel, rfl⟩
theorem d_Co_passes_17 : am_D y_Co_passes.2.2.1 17 (.aload_n 2) 1 18 := ⟨by decide +kernel, rfl⟩
theorem d_Co_passes_18 : am_D y_Co_passes.2.2.1 18 (.iload 4) 2 20 := ⟨by decide +kernel, rfl⟩
theorem d_Co_passes_20 : am_D y_Co_passes.2.2.1 20 (.iaload) 1 21 := ⟨by decide +kernel, rfl⟩
theorem d_Co_passes_21 : am_D y_Co_passes.2.2.1 21 (.istore 5) 2 23 := ⟨by decide +kernel, rfl⟩
theorem d_Co_passes_23 : am_D y_Co_passes.2.2.1 23 (.iload 5) 2 25 := ⟨by decide +kernel, rfl⟩
theorem d_Co_passes_25 : am_D y_Co_passes.2.2.1 25 (.invokestatic 41) 3 28 := ⟨by decide +kernel, rfl⟩
theorem d_Co_passes_28 : am_D y_Co_passes.2.2.1 28 (.iload_n 1) 1 29 := ⟨by decide +kernel, rfl⟩
theorem d_Co_passes_29 : am_D y_Co_passes.2.2.1 29 (.if_icmp .ne 5) 3 32 := ⟨by decide +kernel, rfl⟩
theorem d_Co_passes_32 : am_D y_Co_passes.2.2.1 32 (.iconst 1) 1 33 := ⟨by decide +kernel, rfl⟩
theorem d_Co_passes_33 : am_D y_Co_passes.2.2.1 33 (.ireturn) 1 34 := ⟨by decide +kernel, rfl⟩
theorem d_Co_passes_34 : am_D y_Co_passes.2.2.1 34 (.iinc 4 1) 3 37 := ⟨by decide +kernel, rfl⟩
theorem d_Co_passes_37 : am_D y_Co_passes.2.2.1 37 (.goto (-26)) 3 40 := ⟨by decide +kernel, rfl⟩
theorem d_Co_passes_40 : am_D y_Co_passes.2.2.1 40 (.iconst 0) 1 41 := ⟨by decide +kernel, rfl⟩
theorem d_Co_passes_41 : am_D y_Co_passes.2.2.1 41 (.ireturn) 1 42 := ⟨by decide +kernel, rfl⟩
theorem d_Ct_handleDown_0 : am_D y_Ct_handleDown.2.2.1 0 (.aload_n 0) 1 1 := ⟨by decide +kernel, rfl⟩
theorem d_Ct_handleDown_1 : am_D y_Ct_handleDown.2.2.1 1 (.getfield 15) 3 4 := ⟨by decide +kernel, rfl⟩
theorem d_Ct_handleDown_4 : am_D y_Ct_handleDown.2.2.1 4 (.iload_n 1) 1 5 := ⟨by decide +kernel, rfl⟩
theorem d_Ct_handleDown_5 : am_D y_Ct_handleDown.2.2.1 5 (.iaload) 1 6 := ⟨by decide +kernel, rfl⟩
theorem d_Ct_handleDown_6 : am_D y_Ct_handleDown.2.2.1 6 (.istore_n 2) 1 7 := ⟨by decide +kernel, rfl⟩
theorem d_Ct_handleDown_7 : am_D y_Ct_handleDown.2.2.1 7 (.iload_n 2) 1 8 := ⟨by decide +kernel, rfl⟩
theorem d_Ct_handleDown_8 : am_D y_Ct_handleDown.2.2.1 8 (.iconst (-1)) 1 9 := ⟨by decide +kernel, rfl⟩
theorem d_Ct_handleDown_9 : am_D y_Ct_handleDown.2.2.1 9 (.if_icmp .ne 4) 3 12 := ⟨by decide +kernel, rfl⟩
theorem d_Ct_handleDown_12 : am_D y_Ct_handleDown.2.2.1 12 (.return_) 1 13 := ⟨by decide +kernel, rfl⟩
theorem d_Ct_handleDown_13 : am_D y_Ct_handleDown.2.2.1 13 (.aload_n 0) 1 14 := ⟨by decide +kernel, rfl⟩
theorem d_Ct_handleDown_14 : am_D y_Ct_handleDown.2.2.1 14 (.getfield 15) 3 17 := ⟨by decide +kernel, rfl⟩
theorem d_Ct_handleDown_17 : am_D y_Ct_handleDown.2.2.1 17 (.iload_n 1) 1 18 := ⟨by decide +kernel, rfl⟩
theorem d_Ct_handleDown_18 : am_D y_Ct_handleDown.2.2.1 18 (.iconst (-1)) 1 19 := ⟨by decide +kernel, rfl⟩
theorem d_Ct_handleDown_19 : am_D y_Ct_handleDown.2.2.1 19 (.iastore) 1 20 := ⟨by decide +kernel, rfl⟩
theorem d_Ct_handleDown_20 : am_D y_Ct_handleDown.2.2.1 20 (.aload_n 0) 1 21 := ⟨by decide +kernel, rfl⟩
theorem d_Ct_handleDown_21 : am_D y_Ct_handleDown.2.2.1 21 (.getfield 15) 3 24 := ⟨by decide +kernel, rfl⟩
theorem d_Ct_handleDown_24 : am_D y_Ct_handleDown.2.2.1 24 (.iload_n 2) 1 25 := ⟨by decide +kernel, rfl⟩
theorem d_Ct_handleDown_25 : am_D y_Ct_handleDown.2.2.1 25 (.iconst (-1)) 1 26 := ⟨by decide +kernel, rfl⟩
theorem d_Ct_handleDown_26 : am_D y_Ct_handleDown.2.2.1 26 (.iastore) 1 27 := ⟨by decide +kernel, rfl⟩
theorem d_Ct_handleDown_27 : am_D y_Ct_handleDown.2.2.1 27 (.iconst 0) 1 28 := ⟨by decide +kernel, rfl⟩
theorem d_Ct_handleDown_28 : am_D y_Ct_handleDown.2.2.1 28 (.istore_n 3) 1 29 := ⟨by decide +kernel, rfl⟩
theorem d_Ct_handleDown_29 : am_D y_Ct_handleDown.2.2.1 29 (.iload_n 3) 1 30 := ⟨by decide +kernel, rfl⟩
theorem d_Ct_handleDown_30 : am_D y_Ct_handleDown.2.2.1 30 (.aload_n 0) 1 31 := ⟨by decide +kernel, rfl⟩
theorem d_Ct_handleDown_31 : am_D y_Ct_handleDown.2.2.1 31 (.getfield 29) 3 34 := ⟨by decide +kernel, rfl⟩
theorem d_Ct_handleDown_34 : am_D y_Ct_handleDown.2.2.1 34 (.invokevirtual 123) 3 37 := ⟨by decide +kernel, rfl⟩
theorem d_Ct_handleDown_37 : am_D y_Ct_handleDown.2.2.1 37 (.if_icmp .ge 66) 3 40 := ⟨by decide +kernel, rfl⟩
theorem d_Ct_handleDown_40 : am_D y_Ct_handleDown.2.2.1 40 (.aload_n 0) 1 41 := ⟨by decide +kernel, rfl⟩
theorem d_Ct_handleDown_41 : am_D y_Ct_handleDown.2.2.1 41 (.getfield 29) 3 44 := ⟨by decide +kernel, rfl⟩
theorem d_Ct_handleDown_44 : am_D y_Ct_handleDown.2.2.1 44 (.iload_n 3) 1 45 := ⟨by decide +kernel, rfl⟩
theorem d_Ct_handleDown_45 : am_D y_Ct_handleDown.2.2.1 45 (.invokevirtual 148) 3 48 := ⟨by decide +kernel, rfl⟩
theorem d_Ct_handleDown_48 : am_D y_Ct_handleDown.2.2.1 48 (.checkcast 99) 3 51 := ⟨by decide +kernel, rfl⟩
theorem d_Ct_handleDown_51 : am_D y_Ct_handleDown.2.2.1 51 (.astore 4) 2 53 := ⟨by decide +kernel, rfl⟩
theorem d_Ct_handleDown_53 : am_D y_Ct_handleDown.2.2.1 53 (.aload 4) 2 55 := ⟨by decide +kernel, rfl⟩
theorem d_Ct_handleDown_55 : am_D y_Ct_handleDown.2.2.1 55 (.iload_n 1) 1 56 := ⟨by decide +kernel, rfl⟩
theorem d_Ct_handleDown_56 : am_D y_Ct_handleDown.2.2.1 56 (.invokevirtual 194) 3 59 := ⟨by decide +kernel, rfl⟩
theorem d_Ct_handleDown_59 : am_D y_Ct_handleDown.2.2.1 59 (.ifCond .ne 12) 3 62 := ⟨by decide +kernel, rfl⟩
theorem d_Ct_handleDown_62 : am_D y_Ct_handleDown.2.2.1 62 (.aload 4) 2 64 := ⟨by decide +kernel, rfl⟩
theorem d_Ct_handleDown_64 : am_D y_Ct_handleDown.2.2.1 64 (.iload_n 2) 1 65 := ⟨by decide +kernel, rfl⟩
theorem d_Ct_handleDown_65 : am_D y_Ct_handleDown.2.2.1 65 (.invokevirtual 194) 3 68 := ⟨by decide +kernel, rfl⟩
theorem d_Ct_handleDown_68 : am_D y_Ct_handleDown.2.2.1 68 (.ifCond .eq 7) 3 71 := ⟨by decide +kernel, rfl⟩
theorem d_Ct_handleDown_71 : am_D y_Ct_handleDown.2.2.1 71 (.iconst 1) 1 72 := ⟨by decide +kernel, rfl⟩
theorem d_Ct_handleDown_72 : am_D y_Ct_handleDown.2.2.1 72 (.goto 4) 3 75 := ⟨by decide +kernel, rfl⟩
theorem d_Ct_handleDown_75 : am_D y_Ct_handleDown.2.2.1 75 (.iconst 0) 1 76 := ⟨by decide +kernel, rfl⟩
theorem d_Ct_handleDown_76 : am_D y_Ct_handleDown.2.2.1 76 (.istore 5) 2 78 := ⟨by decide +kernel, rfl⟩
theorem d_Ct_handleDown_78 : am_D y_Ct_handleDown.2.2.1 78 (.iload 5) 2 80 := ⟨by decide +kernel, rfl⟩
theorem d_Ct_handleDown_80 : am_D y_Ct_handleDown.2.2.1 80 (.ifCond .eq 17) 3 83 := ⟨by decide +kernel, rfl⟩
theorem d_Ct_handleDown_83 : am_D y_Ct_handleDown.2.2.1 83 (.aload 4) 2 85 := ⟨by decide +kernel, rfl⟩
theorem d_Ct_handleDown_85 : am_D y_Ct_handleDown.2.2.1 85 (.invokevirtual 156) 3 88 := ⟨by decide +kernel, rfl⟩
theorem d_Ct_handleDown_88 : am_D y_Ct_handleDown.2.2.1 88 (.ifCond .eq 9) 3 91 := ⟨by decide +kernel, rfl⟩
theorem d_Ct_handleDown_91 : am_D y_Ct_handleDown.2.2.1 91 (.aload_n 0) 1 92 := ⟨by decide +kernel, rfl⟩
theorem d_Ct_handleDown_92 : am_D y_Ct_handleDown.2.2.1 92 (.aload 4) 2 94 := ⟨by decide +kernel, rfl⟩
theorem d_Ct_handleDown_94 : am_D y_Ct_handleDown.2.2.1 94 (.invokevirtual 107) 3 97 := ⟨by decide +kernel, rfl⟩
theorem d_Ct_handleDown_97 : am_D y_Ct_handleDown.2.2.1 97 (.iinc 3 1) 3 100 := ⟨by decide +kernel, rfl⟩
theorem d_Ct_handleDown_100 : am_D y_Ct_handleDown.2.2.1 100 (.goto (-71)) 3 103 := ⟨by decide +kernel, rfl⟩
theorem d_Ct_handleDown_103 : am_D y_Ct_handleDown.2.2.1 103 (.return_) 1 104 := ⟨by decide +kernel, rfl⟩
theorem d_Co_leadsOutOf_0 : am_D y_Co_leadsOutOf.2.2.1 0 (.aload_n 0) 1 1 := ⟨by decide +kernel, rfl⟩
theorem d_Co_leadsOutOf_1 : am_D y_Co_leadsOutOf.2.2.1 1 (.getfield 25) 3 4 := ⟨by decide +kernel, rfl⟩
theorem d_Co_leadsOutOf_4 : am_D y_Co_leadsOutOf.2.2.1 4 (.astore_n 2) 1 5 := ⟨by decide +kernel, rfl⟩
theorem d_Co_leadsOutOf_5 : am_D y_Co_leadsOutOf.2.2.1 5 (.aload_n 2) 1 6 := ⟨by decide +kernel, rfl⟩
theorem d_Co_leadsOutOf_6 : am_D y_Co_leadsOutOf.2.2.1 6 (.arraylength) 1 7 := ⟨by decide +kernel, rfl⟩
theorem d_Co_leadsOutOf_7 : am_D y_Co_leadsOutOf.2.2.1 7 (.istore_n 3) 1 8 := ⟨by decide +kernel, rfl⟩
theorem d_Co_leadsOutOf_8 : am_D y_Co_leadsOutOf.2.2.1 8 (.iconst 0) 1 9 := ⟨by decide +kernel, rfl⟩
theorem d_Co_leadsOutOf_9 : am_D y_Co_leadsOutOf.2.2.1 9 (.istore 4) 2 11 := ⟨by decide +kernel, rfl⟩
theorem d_Co_leadsOutOf_11 : am_D y_Co_leadsOutOf.2.2.1 11 (.iload 4) 2 13 := ⟨by decide +kernel, rfl⟩
theorem d_Co_leadsOutOf_13 : am_D y_Co_leadsOutOf.2.2.1 13 (.iload_n 3) 1 14 := ⟨by decide +kernel, rfl⟩
theorem d_Co_leadsOutOf_14 : am_D y_Co_leadsOutOf.2.2.1 14 (.if_icmp .ge 23) 3 17 := ⟨by decide +kernel, rfl⟩
theorem d_Co_leadsOutOf_17 : am_D y_Co_leadsOutOf.2.2.1 17 (.aload_n 2) 1 18 := ⟨by decide +kernel, rfl⟩
theorem d_Co_leadsOutOf_18 : am_D y_Co_leadsOutOf.2.2.1 18 (.iload 4) 2 20 := ⟨by decide +kernel, rfl⟩
theorem d_Co_leadsOutOf_20 : am_D y_Co_leadsOutOf.2.2.1 20 (.iaload) 1 21 := ⟨by decide +kernel, rfl⟩
theorem d_Co_leadsOutOf_21 : am_D y_Co_leadsOutOf.2.2.1 21 (.istore 5) 2 23 := ⟨by decide +kernel, rfl⟩
theorem d_Co_leadsOutOf_23 : am_D y_Co_leadsOutOf.2.2.1 23 (.iload 5) 2 25 := ⟨by decide +kernel, rfl⟩
theorem d_Co_leadsOutOf_25 : am_D y_Co_leadsOutOf.2.2.1 25 (.iload_n 1) 1 26 := ⟨by decide +kernel, rfl⟩
theorem d_Co_leadsOutOf_26 : am_D y_Co_leadsOutOf.2.2.1 26 (.if_icmp .ne 5) 3 29 := ⟨by decide +kernel, rfl⟩
theorem d_Co_leadsOutOf_29 : am_D y_Co_leadsOutOf.2.2.1 29 (.iconst 1) 1 30 := ⟨by decide +kernel, rfl⟩
theorem d_Co_leadsOutOf_30 : am_D y_Co_leadsOutOf.2.2.1 30 (.ireturn) 1 31 := ⟨by decide +kernel, rfl⟩
theorem d_Co_leadsOutOf_31 : am_D y_Co_leadsOutOf.2.2.1 31 (.iinc 4 1) 3 34 := ⟨by decide +kernel, rfl⟩
theorem d_Co_leadsOutOf_34 : am_D y_Co_leadsOutOf.2.2.1 34 (.goto (-23)) 3 37 := ⟨by decide +kernel, rfl⟩
theorem d_Co_leadsOutOf_37 : am_D y_Co_leadsOutOf.2.2.1 37 (.iconst 0) 1 38 := ⟨by decide +kernel, rfl⟩
theorem d_Co_leadsOutOf_38 : am_D y_Co_leadsOutOf.2.2.1 38 (.ireturn) 1 39 := ⟨by decide +kernel, rfl⟩
end
section
theorem d_FF_new_0 : am_D y_FF_new.2.2.1 0 (.aload_n 0) 1 1 := ⟨by decide +kernel, rfl⟩
theorem d_FF_new_1 : am_D y_FF_new.2.2.1 1 (.invokespecial 1) 3 4 := ⟨by decide +kernel, rfl⟩
theorem d_FF_new_4 : am_D y_FF_new.2.2.1 4 (.iload_n 1) 1 5 := ⟨by decide +kernel, rfl⟩
theorem d_FF_new_5 : am_D y_FF_new.2.2.1 5 (.iconst 2) 1 6 := ⟨by decide +kernel, rfl⟩
theorem d_FF_new_6 : am_D y_FF_new.2.2.1 6 (.iconst 5) 1 7 := ⟨by decide +kernel, rfl⟩
theorem d_FF_new_7 : am_D y_FF_new.2.2.1 7 (.invokestatic 7) 3 10 := ⟨by decide +kernel, rfl⟩
theorem d_FF_new_10 : am_D y_FF_new.2.2.1 10 (.anewarray 13) 3 13 := ⟨by decide +kernel, rfl⟩
theorem d_FF_new_13 : am_D y_FF_new.2.2.1 13 (.astore 4) 2 15 := ⟨by decide +kernel, rfl⟩
theorem d_FF_new_15 : am_D y_FF_new.2.2.1 15 (.iconst 0) 1 16 := ⟨by decide +kernel, rfl⟩
theorem d_FF_new_16 : am_D y_FF_new.2.2.1 16 (.istore 5) 2 18 := ⟨by decide +kernel, rfl⟩
theorem d_FF_new_18 : am_D y_FF_new.2.2.1 18 (.iload 5) 2 20 := ⟨by decide +kernel, rfl⟩
theorem d_FF_new_20 : am_D y_FF_new.2.2.1 20 (.aload 4) 2 22 := ⟨by decide +kernel, rfl⟩
theorem d_FF_new_22 : am_D y_FF_new.2.2.1 22 (.arraylength) 1 23 := ⟨by decide +kernel, rfl⟩
theorem d_FF_new_23 : am_D y_FF_new.2.2.1 23 (.if_icmp .ge 30) 3 26 := ⟨by decide +kernel, rfl⟩
theorem d_FF_new_26 : am_D y_FF_new.2.2.1 26 (.aload 4) 2 28 := ⟨by decide +kernel, rfl⟩
theorem d_FF_new_28 : am_D y_FF_new.2.2.1 28 (.iload 5) 2 30 := ⟨by decide +kernel, rfl⟩
theorem d_FF_new_30 : am_D y_FF_new.2.2.1 30 (.new 13) 3 33 := ⟨by decide +kernel, rfl⟩
theorem d_FF_new_33 : am_D y_FF_new.2.2.1 33 (.dup) 1 34 := ⟨by decide +kernel, rfl⟩
theorem d_FF_new_34 : am_D y_FF_new.2.2.1 34 (.iload 5) 2 36 := ⟨by decide +kernel, rfl⟩
theorem d_FF_new_36 : am_D y_FF_new.2.2.1 36 (.iload_n 2) 1 37 := ⟨by decide +kernel, rfl⟩
theorem d_FF_new_37 : am_D y_FF_new.2.2.1 37 (.iconst 1) 1 38 := ⟨by decide +kernel, rfl⟩
theorem d_FF_new_38 : am_D y_FF_new.2.2.1 38 (.bipush 8) 2 40 := ⟨by decide +kernel, rfl⟩
theorem d_FF_new_40 : am_D y_FF_new.2.2.1 40 (.invokestatic 7) 3 43 := ⟨by decide +kernel, rfl⟩
theorem d_FF_new_43 : am_D y_FF_new.2.2.1 43 (.invokespecial 15) 3 46 := ⟨by decide +kernel, rfl⟩
theorem d_FF_new_46 : am_D y_FF_new.2.2.1 46 (.aastore) 1 47 := ⟨by decide +kernel, rfl⟩
theorem d_FF_new_47 : am_D y_FF_new.2.2.1 47 (.iinc 5 1) 3 50 := ⟨by decide +kernel, rfl⟩
theorem d_FF_new_50 : am_D y_FF_new.2.2.1 50 (.goto (-32)) 3 53 := ⟨by decide +kernel, rfl⟩
theorem d_FF_new_53 : am_D y_FF_new.2.2.1 53 (.aload_n 0) 1 54 := ⟨by decide +kernel, rfl⟩
theorem d_FF_new_54 : am_D y_FF_new.2.2.1 54 (.aload 4) 2 56 := ⟨by decide +kernel, rfl⟩
theorem d_FF_new_56 : am_D y_FF_new.2.2.1 56 (.putfield 18) 3 59 := ⟨by decide +kernel, rfl⟩
theorem d_FF_new_59 : am_D y_FF_new.2.2.1 59 (.aload_n 0) 1 60 := ⟨by decide +kernel, rfl⟩
theorem d_FF_new_60 : am_D y_FF_new.2.2.1 60 (.iload_n 3) 1 61 := ⟨by decide +kernel, rfl⟩
theorem d_FF_new_61 : am_D y_FF_new.2.2.1 61 (.iconst 1) 1 62 := ⟨by decide +kernel, rfl⟩
theorem d_FF_new_62 : am_D y_FF_new.2.2.1 62 (.bipush 9) 2 64 := ⟨by decide +kernel, rfl⟩
theorem d_FF_new_64 : am_D y_FF_new.2.2.1 64 (.invokestatic 7) 3 67 := ⟨by decide +kernel, rfl⟩
theorem d_FF_new_67 : am_D y_FF_new.2.2.1 67 (.putfield 22) 3 70 := ⟨by decide +kernel, rfl⟩
theorem d_FF_new_70 : am_D y_FF_new.2.2.1 70 (.aload_n 0) 1 71 := ⟨by decide +kernel, rfl⟩
theorem d_FF_new_71 : am_D y_FF_new.2.2.1 71 (.bipush 6) 2 73 := ⟨by decide +kernel, rfl⟩
theorem d_FF_new_73 : am_D y_FF_new.2.2.1 73 (.anewarray 26) 3 76 := ⟨by decide +kernel, rfl⟩
theorem d_FF_new_76 : am_D y_FF_new.2.2.1 76 (.putfield 28) 3 79 := ⟨by decide +kernel, rfl⟩
theorem d_FF_new_79 : am_D y_FF_new.2.2.1 79 (.aload_n 0) 1 80 := ⟨by decide +kernel, rfl⟩
theorem d_FF_new_80 : am_D y_FF_new.2.2.1 80 (.new 32) 3 83 := ⟨by decide +kernel, rfl⟩
theorem d_FF_new_83 : am_D y_FF_new.2.2.1 83 (.dup) 1 84 := ⟨by decide +kernel, rfl⟩
theorem d_FF_new_84 : am_D y_FF_new.2.2.1 84 (.aload 4) 2 86 := ⟨by decide +kernel, rfl⟩
theorem d_FF_new_86 : am_D y_FF_new.2.2.1 86 (.invokespecial 34) 3 89 := ⟨by decide +kernel, rfl⟩
theorem d_FF_new_89 : am_D y_FF_new.2.2.1 89 (.putfield 37) 3 92 := ⟨by decide +kernel, rfl⟩
theorem d_FF_new_92 : am_D y_FF_new.2.2.1 92 (.aload_n 0) 1 93 := ⟨by decide +kernel, rfl⟩
theorem d_FF_new_93 : am_D y_FF_new.2.2.1 93 (.iconst 0) 1 94 := ⟨by decide +kernel, rfl⟩
theorem d_FF_new_94 : am_D y_FF_new.2.2.1 94 (.putfield 41) 3 97 := ⟨by decide +kernel, rfl⟩
theorem d_FF_new_97 : am_D y_FF_new.2.2.1 97 (.aload_n 0) 1 98 := ⟨by decide +kernel, rfl⟩
theorem d_FF_new_98 : am_D y_FF_new.2.2.1 98 (.iconst 0) 1 99 := ⟨by decide +kernel, rfl⟩
theorem d_FF_new_99 : am_D y_FF_new.2.2.1 99 (.putfield 44) 3 102 := ⟨by decide +kernel, rfl⟩
theorem d_FF_new_102 : am_D y_FF_new.2.2.1 102 (.return_) 1 103 := ⟨by decide +kernel, rfl⟩
theorem d_FF_within_0 : am_D y_FF_within.2.2.1 0 (.iload_n 1) 1 1 := ⟨by decide +kernel, rfl⟩
theorem d_FF_within_1 : am_D y_FF_within.2.2.1 1 (.iload_n 2) 1 2 := ⟨by decide +kernel, rfl⟩
theorem d_FF_within_2 : am_D y_FF_within.2.2.1 2 (.iload_n 0) 1 3 := ⟨by decide +kernel, rfl⟩
theorem d_FF_within_3 : am_D y_FF_within.2.2.1 3 (.invokestatic 239) 3 6 := ⟨by decide +kernel, rfl⟩
theorem d_FF_within_6 : am_D y_FF_within.2.2.1 6 (.invokestatic 244) 3 9 := ⟨by decide +kernel, rfl⟩
theorem d_FF_within_9 : am_D y_FF_within.2.2.1 9 (.ireturn) 1 10 := ⟨by decide +kernel, rfl⟩
theorem d_Nd_new_0 : am_D y_Nd_new.2.2.1 0 (.aload_n 0) 1 1 := ⟨by decide +kernel, rfl⟩
theorem d_Nd_new_1 : am_D y_Nd_new.2.2.1 1 (.invokespecial 3) 3 4 := ⟨by decide +kernel, rfl⟩
theorem d_Nd_new_4 : am_D y_Nd_new.2.2.1 4 (.aload_n 0) 1 5 := ⟨by decide +kernel, rfl⟩
theorem d_Nd_new_5 : am_D y_Nd_new.2.2.1 5 (.iload_n 1) 1 6 := ⟨by decide +kernel, rfl⟩
theorem d_Nd_new_6 : am_D y_Nd_new.2.2.1 6 (.putfield 9) 3 9 := ⟨by decide +kernel, rfl⟩
theorem d_Nd_new_9 : am_D y_Nd_new.2.2.1 9 (.aload_n 0) 1 10 := ⟨by decide +kernel, rfl⟩
theorem d_Nd_new_10 : am_D y_Nd_new.2.2.1 10 (.iload_n 2) 1 11 := ⟨by decide +kernel, rfl⟩
theorem d_Nd_new_11 : am_D y_Nd_new.2.2.1 11 (.putfield 15) 3 14 := ⟨by decide +kernel, rfl⟩
theorem d_Nd_new_14 : am_D y_Nd_new.2.2.1 14 (.aload_n 0) 1 15 := ⟨by decide +kernel, rfl⟩
theorem d_Nd_new_15 : am_D y_Nd_new.2.2.1 15 (.iconst 4) 1 16 := ⟨by decide +kernel, rfl⟩
theorem d_Nd_new_16 : am_D y_Nd_new.2.2.1 16 (.anewarray 18) 3 19 := ⟨by decide +kernel, rfl⟩
theorem d_Nd_new_19 : am_D y_Nd_new.2.2.1 19 (.putfield 20) 3 22 := ⟨by decide +kernel, rfl⟩
theorem d_Nd_new_22 : am_D y_Nd_new.2.2.1 22 (.iconst 0) 1 23 := ⟨by decide +kernel, rfl⟩
theorem d_Nd_new_23 : am_D y_Nd_new.2.2.1 23 (.istore_n 3) 1 24 := ⟨by decide +kernel, rfl⟩
theorem d_Nd_new_24 : am_D y_Nd_new.2.2.1 24 (.iload_n 3) 1 25 := ⟨by decide +kernel, rfl⟩
theorem d_Nd_new_25 : am_D y_Nd_new.2.2.1 25 (.iconst 4) 1 26 := ⟨by decide +kernel, rfl⟩
theorem d_Nd_new_26 : am_D y_Nd_new.2.2.1 26 (.if_icmp .ge 22) 3 29 := ⟨by decide +kernel, rfl⟩
theorem d_Nd_new_29 : am_D y_Nd_new.2.2.1 29 (.aload_n 0) 1 30 := ⟨by decide +kernel, rfl⟩
theorem d_Nd_new_30 : am_D y_Nd_new.2.2.1 30 (.getfield 20) 3 33 := ⟨by decide +kernel, rfl⟩
theorem d_Nd_new_33 : am_D y_Nd_new.2.2.1 33 (.iload_n 3) 1 34 := ⟨by decide +kernel, rfl⟩
theorem d_Nd_new_34 : am_D y_Nd_new.2.2.1 34 (.new 18) 3 37 := ⟨by decide +kernel, rfl⟩
theorem d_Nd_new_37 : am_D y_Nd_new.2.2.1 37 (.dup) 1 38 := ⟨by decide +kernel, rfl⟩
theorem d_Nd_new_38 : am_D y_Nd_new.2.2.1 38 (.invokespecial 24) 3 41 := ⟨by decide +kernel, rfl⟩
theorem d_Nd_new_41 : am_D y_Nd_new.2.2.1 41 (.aastore) 1 42 := ⟨by decide +kernel, rfl⟩
theorem d_Nd_new_42 : am_D y_Nd_new.2.2.1 42 (.iinc 3 1) 3 45 := ⟨by decide +kernel, rfl⟩
theorem d_Nd_new_45 : am_D y_Nd_new.2.2.1 45 (.goto (-21)) 3 48 := ⟨by decide +kernel, rfl⟩
theorem d_Nd_new_48 : am_D y_Nd_new.2.2.1 48 (.aload_n 0) 1 49 := ⟨by decide +kernel, rfl⟩
theorem d_Nd_new_49 : am_D y_Nd_new.2.2.1 49 (.new 25) 3 52 := ⟨by decide +kernel, rfl⟩
theorem d_Nd_new_52 : am_D y_Nd_new.2.2.1 52 (.dup) 1 53 := ⟨by decide +kernel, rfl⟩
theorem d_Nd_new_53 : am_D y_Nd_new.2.2.1 53 (.invokespecial 27) 3 56 := ⟨by decide +kernel, rfl⟩
theorem d_Nd_new_56 : am_D y_Nd_new.2.2.1 56 (.putfield 28) 3 59 := ⟨by decide +kernel, rfl⟩
theorem d_Nd_new_59 : am_D y_Nd_new.2.2.1 59 (.aload_n 0) 1 60 := ⟨by decide +kernel, rfl⟩
theorem d_Nd_new_60 : am_D y_Nd_new.2.2.1 60 (.new 25) 3 63 := ⟨by decide +kernel, rfl⟩
theorem d_Nd_new_63 : am_D y_Nd_new.2.2.1 63 (.dup) 1 64 := ⟨by decide +kernel, rfl⟩
theorem d_Nd_new_64 : am_D y_Nd_new.2.2.1 64 (.invokespecial 27) 3 67 := ⟨by decide +kernel, rfl⟩
theorem d_Nd_new_67 : am_D y_Nd_new.2.2.1 67 (.putfield 32) 3 70 := ⟨by decide +kernel, rfl⟩
theorem d_Nd_new_70 : am_D y_Nd_new.2.2.1 70 (.aload_n 0) 1 71 := ⟨by decide +kernel, rfl⟩
theorem d_Nd_new_71 : am_D y_Nd_new.2.2.1 71 (.new 25) 3 74 := ⟨by decide +kernel, rfl⟩
theorem d_Nd_new_74 : am_D y_Nd_new.2.2.1 74 (.dup) 1 75 := ⟨by decide +kernel, rfl⟩
theorem d_Nd_new_75 : am_D y_Nd_new.2.2.1 75 (.invokespecial 27) 3 78 := ⟨by decide +kernel, rfl⟩
theorem d_Nd_new_78 : am_D y_Nd_new.2.2.1 78 (.putfield 35) 3 81 := ⟨by decide +kernel, rfl⟩
theorem d_Nd_new_81 : am_D y_Nd_new.2.2.1 81 (.aload_n 0) 1 82 := ⟨by decide +kernel, rfl⟩
theorem d_Nd_new_82 : am_D y_Nd_new.2.2.1 82 (.new 25) 3 85 := ⟨by decide +kernel, rfl⟩
theorem d_Nd_new_85 : am_D y_Nd_new.2.2.1 85 (.dup) 1 86 := ⟨by decide +kernel, rfl⟩
theorem d_Nd_new_86 : am_D y_Nd_new.2.2.1 86 (.invokespecial 27) 3 89 := ⟨by decide +kernel, rfl⟩
theorem d_Nd_new_89 : am_D y_Nd_new.2.2.1 89 (.putfield 38) 3 92 := ⟨by decide +kernel, rfl⟩
theorem d_Nd_new_92 : am_D y_Nd_new.2.2.1 92 (.return_) 1 93 := ⟨by decide +kernel, rfl⟩
theorem d_Pt_new_0 : am_D y_Pt_new.2.2.1 0 (.aload_n 0) 1 1 := ⟨by decide +kernel, rfl⟩
theorem d_Pt_new_1 : am_D y_Pt_new.2.2.1 1 (.invokespecial 3) 3 4 := ⟨by decide +kernel, rfl⟩
theorem d_Pt_new_4 : am_D y_Pt_new.2.2.1 4 (.aload_n 0) 1 5 := ⟨by decide +kernel, rfl⟩
theorem d_Pt_new_5 : am_D y_Pt_new.2.2.1 5 (.new 9) 3 8 := ⟨by decide +kernel, rfl⟩
theorem d_Pt_new_8 : am_D y_Pt_new.2.2.1 8 (.dup) 1 9 := ⟨by decide +kernel, rfl⟩
theorem d_Pt_new_9 : am_D y_Pt_new.2.2.1 9 (.invokespecial 11) 3 12 := ⟨by decide +kernel, rfl⟩
theorem d_Pt_new_12 : am_D y_Pt_new.2.2.1 12 (.putfield 12) 3 15 := ⟨by decide +kernel, rfl⟩
theorem d_Pt_new_15 : am_D y_Pt_new.2.2.1 15 (.aload_n 0) 1 16 := ⟨by decide +kernel, rfl⟩
theorem d_Pt_new_16 : am_D y_Pt_new.2.2.1 16 (.aconst_null) 1 17 := ⟨by decide +kernel, rfl⟩
theorem d_Pt_new_17 : am_D y_Pt_new.2.2.1 17 (.putfield 18) 3 20 := ⟨by decide +kernel, rfl⟩
theorem d_Pt_new_20 : am_D y_Pt_new.2.2.1 20 (.aload_n 0) 1 21 := ⟨by decide +kernel, rfl⟩
theorem d_Pt_new_21 : am_D y_Pt_new.2.2.1 21 (.iconst (-1)) 1 22 := ⟨by decide +kernel, rfl⟩
theorem d_Pt_new_22 : am_D y_Pt_new.2.2.1 22 (.putfield 22) 3 25 := ⟨by decide +kernel, rfl⟩
theorem d_Pt_new_25 : am_D y_Pt_new.2.2.1 25 (.aload_n 0) 1 26 := ⟨by decide +kernel, rfl⟩
theorem d_Pt_new_26 : am_D y_Pt_new.2.2.1 26 (.iconst 0) 1 27 := ⟨by decide +kernel, rfl⟩
theorem d_Pt_new_27 : am_D y_Pt_new.2.2.1 27 (.putfield 26) 3 30 := ⟨by decide +kernel, rfl⟩
theorem d_Pt_new_30 : am_D y_Pt_new.2.2.1 30 (.return_) 1 31 := ⟨by decide +kernel, rfl⟩
theorem d_FF_attach_0 : am_D y_FF_attach.2.2.1 0 (.aload_n 0) 1 1 := ⟨by decide +kernel, rfl⟩
theorem d_FF_attach_1 : am_D y_FF_attach.2.2.1 1 (.iload_n 1) 1 2 := ⟨by decide +kernel, rfl⟩
theorem d_FF_attach_2 : am_D y_FF_attach.2.2.1 2 (.iload_n 2) 1 3 := ⟨by decide +kernel, rfl⟩
theorem d_FF_attach_3 : am_D y_FF_attach.2.2.1 3 (.invokevirtual 47) 3 6 := ⟨by decide +kernel, rfl⟩
theorem d_FF_attach_6 : am_D y_FF_attach.2.2.1 6 (.ifCond .eq 20) 3 9 := ⟨by decide +kernel, rfl⟩
theorem d_FF_attach_9 : am_D y_FF_attach.2.2.1 9 (.aload_n 0) 1 10 := ⟨by decide +kernel, rfl⟩
theorem d_FF_attach_10 : am_D y_FF_attach.2.2.1 10 (.getfield 18) 3 13 := ⟨by decide +kernel, rfl⟩
theorem d_FF_attach_13 : am_D y_FF_attach.2.2.1 13 (.iload_n 1) 1 14 := ⟨by decide +kernel, rfl⟩
theorem d_FF_attach_14 : am_D y_FF_attach.2.2.1 14 (.aaload) 1 15 := ⟨by decide +kernel, rfl⟩
theorem d_FF_attach_15 : am_D y_FF_attach.2.2.1 15 (.getfield 51) 3 18 := ⟨by decide +kernel, rfl⟩
theorem d_FF_attach_18 : am_D y_FF_attach.2.2.1 18 (.iload_n 2) 1 19 := ⟨by decide +kernel, rfl⟩
theorem d_FF_attach_19 : am_D y_FF_attach.2.2.1 19 (.aaload) 1 20 := ⟨by decide +kernel, rfl⟩
theorem d_FF_attach_20 : am_D y_FF_attach.2.2.1 20 (.invokevirtual 55) 3 23 := ⟨by decide +kernel, rfl⟩
theorem d_FF_attach_23 : am_D y_FF_attach.2.2.1 23 (.ifCond .ne 5) 3 26 := ⟨by decide +kernel, rfl⟩
theorem d_FF_attach_26 : am_D y_FF_attach.2.2.1 26 (.iconst (-1)) 1 27 := ⟨by decide +kernel, rfl⟩
theorem d_FF_attach_27 : am_D y_FF_attach.2.2.1 27 (.ireturn) 1 28 := ⟨by decide +kernel, rfl⟩
theorem d_FF_attach_28 : am_D y_FF_attach.2.2.1 28 (.aload_n 0) 1 29 := ⟨by decide +kernel, rfl⟩
theorem d_FF_attach_29 : am_D y_FF_attach.2.2.1 29 (.getfield 41) 3 32 := ⟨by decide +kernel, rfl⟩
theorem d_FF_attach_32 : am_D y_FF_attach.2.2.1 32 (.bipush 6) 2 34 := ⟨by decide +kernel, rfl⟩
theorem d_FF_attach_34 : am_D y_FF_attach.2.2.1 34 (.if_icmp .lt 6) 3 37 := ⟨by decide +kernel, rfl⟩
theorem d_FF_attach_37 : am_D y_FF_attach.2.2.1 37 (.bipush (-2)) 2 39 := ⟨by decide +kernel, rfl⟩
theorem d_FF_attach_39 : am_D y_FF_attach.2.2.1 39 (.ireturn) 1 40 := ⟨by decide +kernel, rfl⟩
theorem d_FF_attach_40 : am_D y_FF_attach.2.2.1 40 (.new 26) 3 43 := ⟨by decide +kernel, rfl⟩
theorem d_FF_attach_43 : am_D y_FF_attach.2.2.1 43 (.dup) 1 44 := ⟨by decide +kernel, rfl⟩
theorem d_FF_attach_44 : am_D y_FF_attach.2.2.1 44 (.aload_n 0) 1 45 := ⟨by decide +kernel, rfl⟩
theorem d_FF_attach_45 : am_D y_FF_attach.2.2.1 45 (.getfield 41) 3 48 := ⟨by decide +kernel, rfl⟩
theorem d_FF_attach_48 : am_D y_FF_attach.2.2.1 48 (.iload_n 1) 1 49 := ⟨by decide +kernel, rfl⟩
theorem d_FF_attach_49 : am_D y_FF_attach.2.2.1 49 (.iload_n 2) 1 50 := ⟨by decide +kernel, rfl⟩
theorem d_FF_attach_50 : am_D y_FF_attach.2.2.1 50 (.invokespecial 61) 3 53 := ⟨by decide +kernel, rfl⟩
theorem d_FF_attach_53 : am_D y_FF_attach.2.2.1 53 (.astore_n 3) 1 54 := ⟨by decide +kernel, rfl⟩
theorem d_FF_attach_54 : am_D y_FF_attach.2.2.1 54 (.aload_n 0) 1 55 := ⟨by decide +kernel, rfl⟩
theorem d_FF_attach_55 : am_D y_FF_attach.2.2.1 55 (.getfield 28) 3 58 := ⟨by decide +kernel, rfl⟩
theorem d_FF_attach_58 : am_D y_FF_attach.2.2.1 58 (.aload_n 0) 1 59 := ⟨by decide +kernel, rfl⟩
theorem d_FF_attach_59 : am_D y_FF_attach.2.2.1 59 (.getfield 41) 3 62 := ⟨by decide +kernel, rfl⟩
theorem d_FF_attach_62 : am_D y_FF_attach.2.2.1 62 (.aload_n 3) 1 63 := ⟨by decide +kernel, rfl⟩
theorem d_FF_attach_63 : am_D y_FF_attach.2.2.1 63 (.aastore) 1 64 := ⟨by decide +kernel, rfl⟩
theorem d_FF_attach_64 : am_D y_FF_attach.2.2.1 64 (.aload_n 0) 1 65 := ⟨by decide +kernel, rfl⟩
theorem d_FF_attach_65 : am_D y_FF_attach.2.2.1 65 (.dup) 1 66 := ⟨by decide +kernel, rfl⟩
theorem d_FF_attach_66 : am_D y_FF_attach.2.2.1 66 (.getfield 41) 3 69 := ⟨by decide +kernel, rfl⟩
theorem d_FF_attach_69 : am_D y_FF_attach.2.2.1 69 (.iconst 1) 1 70 := ⟨by decide +kernel, rfl⟩
theorem d_FF_attach_70 : am_D y_FF_attach.2.2.1 70 (.iadd) 1 71 := ⟨by decide +kernel, rfl⟩
theorem d_FF_attach_71 : am_D y_FF_attach.2.2.1 71 (.putfield 41) 3 74 := ⟨by decide +kernel, rfl⟩
theorem d_FF_attach_74 : am_D y_FF_attach.2.2.1 74 (.aload_n 0) 1 75 := ⟨by decide +kernel, rfl⟩
theorem d_FF_attach_75 : am_D y_FF_attach.2.2.1 75 (.getfield 18) 3 78 := ⟨by decide +kernel, rfl⟩
theorem d_FF_attach_78 : am_D y_FF_attach.2.2.1 78 (.iload_n 1) 1 79 := ⟨by decide +kernel, rfl⟩
theorem d_FF_attach_79 : am_D y_FF_attach.2.2.1 79 (.aaload) 1 80 := ⟨by decide +kernel, rfl⟩
theorem d_FF_attach_80 : am_D y_FF_attach.2.2.1 80 (.getfield 51) 3 83 := ⟨by decide +kernel, rfl⟩
theorem d_FF_attach_83 : am_D y_FF_attach.2.2.1 83 (.iload_n 2) 1 84 := ⟨by decide +kernel, rfl⟩
theorem d_FF_attach_84 : am_D y_FF_attach.2.2.1 84 (.aaload) 1 85 := ⟨by decide +kernel, rfl⟩
theorem d_FF_attach_85 : am_D y_FF_attach.2.2.1 85 (.aload_n 3) 1 86 := ⟨by decide +kernel, rfl⟩
theorem d_FF_attach_86 : am_D y_FF_attach.2.2.1 86 (.putfield 64) 3 89 := ⟨by decide +kernel, rfl⟩
theorem d_FF_attach_89 : am_D y_FF_attach.2.2.1 89 (.aload_n 3) 1 90 := ⟨by decide +kernel, rfl⟩
theorem d_FF_attach_90 : am_D y_FF_attach.2.2.1 90 (.getfield 68) 3 93 := ⟨by decide +kernel, rfl⟩
theorem d_FF_attach_93 : am_D y_FF_attach.2.2.1 93 (.ireturn) 1 94 := ⟨by decide +kernel, rfl⟩
theorem d_FF_isPort_0 : am_D y_FF_isPort.2.2.1 0 (.aload_n 0) 1 1 := ⟨by decide +kernel, rfl⟩
theorem d_FF_isPort_1 : am_D y_FF_isPort.2.2.1 1 (.iload_n 1) 1 2 := ⟨by decide +kernel, rfl⟩
theorem d_FF_isPort_2 : am_D y_FF_isPort.2.2.1 2 (.invokevirtual 103) 3 5 := ⟨by decide +kernel, rfl⟩
theorem d_FF_isPort_5 : am_D y_FF_isPort.2.2.1 5 (.ifCond .eq 16) 3 8 := ⟨by decide +kernel, rfl⟩
theorem d_FF_isPort_8 : am_D y_FF_isPort.2.2.1 8 (.iload_n 2) 1 9 := ⟨by decide +kernel, rfl⟩
theorem d_FF_isPort_9 : am_D y_FF_isPort.2.2.1 9 (.ifCond .lt 12) 3 12 := ⟨by decide +kernel, rfl⟩
theorem d_FF_isPort_12 : am_D y_FF_isPort.2.2.1 12 (.iload_n 2) 1 13 := ⟨by decide +kernel, rfl⟩
theorem d_FF_isPort_13 : am_D y_FF_isPort.2.2.1 13 (.iconst 4) 1 14 := ⟨by decide +kernel, rfl⟩
theorem d_FF_isPort_14 : am_D y_FF_isPort.2.2.1 14 (.if_icmp .ge 7) 3 17 := ⟨by decide +kernel, rfl⟩
theorem d_FF_isPort_17 : am_D y_FF_isPort.2.2.1 17 (.iconst 1) 1 18 := ⟨by decide +kernel, rfl⟩
theorem d_FF_isPort_18 : am_D y_FF_isPort.2.2.1 18 (.goto 4) 3 21 := ⟨by decide +kernel, rfl⟩
theorem d_FF_isPort_21 : am_D y_FF_isPort.2.2.1 21 (.iconst 0) 1 22 := ⟨by decide +kernel, rfl⟩
theorem d_FF_isPort_22 : am_D y_FF_isPort.2.2.1 22 (.ireturn) 1 23 := ⟨by decide +kernel, rfl⟩
theorem d_FF_isSwitch_0 : am_D y_FF_isSwitch.2.2.1 0 (.iload_n 1) 1 1 := ⟨by decide +kernel, rfl⟩
theorem d_FF_isSwitch_1 : am_D y_FF_isSwitch.2.2.1 1 (.ifCond .lt 16) 3 4 := ⟨by decide +kernel, rfl⟩
theorem d_FF_isSwitch_4 : am_D y_FF_isSwitch.2.2.1 4 (.iload_n 1) 1 5 := ⟨by decide +kernel, rfl⟩
theorem d_FF_isSwitch_5 : am_D y_FF_isSwitch.2.2.1 5 (.aload_n 0) 1 6 := ⟨by decide +kernel, rfl⟩
theorem d_FF_isSwitch_6 : am_D y_FF_isSwitch.2.2.1 6 (.getfield 18) 3 9 := ⟨by decide +kernel, rfl⟩
theorem d_FF_isSwitch_9 : am_D y_FF_isSwitch.2.2.1 9 (.arraylength) 1 10 := ⟨by decide +kernel, rfl⟩
theorem d_FF_isSwitch_10 : am_D y_FF_isSwitch.2.2.1 10 (.if_icmp .ge 7) 3 13 := ⟨by decide +kernel, rfl⟩
theorem d_FF_isSwitch_13 : am_D y_FF_isSwitch.2.2.1 13 (.iconst 1) 1 14 := ⟨by decide +kernel, rfl⟩
theorem d_FF_isSwitch_14 : am_D y_FF_isSwitch.2.2.1 14 (.goto 4) 3 17 := ⟨by decide +kernel, rfl⟩
theorem d_FF_isSwitch_17 : am_D y_FF_isSwitch.2.2.1 17 (.iconst 0) 1 18 := ⟨by decide +kernel, rfl⟩
theorem d_FF_isSwitch_18 : am_D y_FF_isSwitch.2.2.1 18 (.ireturn) 1 19 := ⟨by decide +kernel, rfl⟩
theorem d_Pt_isFree_0 : am_D y_Pt_isFree.2.2.1 0 (.aload_n 0) 1 1 := ⟨by decide +kernel, rfl⟩
theorem d_Pt_isFree_1 : am_D y_Pt_isFree.2.2.1 1 (.getfield 18) 3 4 := ⟨by decide +kernel, rfl⟩
theorem d_Pt_isFree_4 : am_D y_Pt_isFree.2.2.1 4 (.ifnonnull 15) 3 7 := ⟨by decide +kernel, rfl⟩
theorem d_Pt_isFree_7 : am_D y_Pt_isFree.2.2.1 7 (.aload_n 0) 1 8 := ⟨by decide +kernel, rfl⟩
theorem d_Pt_isFree_8 : am_D y_Pt_isFree.2.2.1 8 (.getfield 22) 3 11 := ⟨by decide +kernel, rfl⟩
theorem d_Pt_isFree_11 : am_D y_Pt_isFree.2.2.1 11 (.iconst (-1)) 1 12 := ⟨by decide +kernel, rfl⟩
theorem d_Pt_isFree_12 : am_D y_Pt_isFree.2.2.1 12 (.if_icmp .ne 7) 3 15 := ⟨by decide +kernel, rfl⟩
theorem d_Pt_isFree_15 : am_D y_Pt_isFree.2.2.1 15 (.iconst 1) 1 16 := ⟨by decide +kernel, rfl⟩
theorem d_Pt_isFree_16 : am_D y_Pt_isFree.2.2.1 16 (.goto 4) 3 19 := ⟨by decide +kernel, rfl⟩
theorem d_Pt_isFree_19 : am_D y_Pt_isFree.2.2.1 19 (.iconst 0) 1 20 := ⟨by decide +kernel, rfl⟩
theorem d_Pt_isFree_20 : am_D y_Pt_isFree.2.2.1 20 (.ireturn) 1 21 := ⟨by decide +kernel, rfl⟩
theorem d_Ho_new_0 : am_D y_Ho_new.2.2.1 0 (.aload_n 0) 1 1 := ⟨by decide +kernel, rfl⟩
theorem d_Ho_new_1 : am_D y_Ho_new.2.2.1 1 (.invokespecial 3) 3 4 := ⟨by decide +kernel, rfl⟩
theorem d_Ho_new_4 : am_D y_Ho_new.2.2.1 4 (.aload_n 0) 1 5 := ⟨by decide +kernel, rfl⟩
theorem d_Ho_new_5 : am_D y_Ho_new.2.2.1 5 (.iload_n 1) 1 6 := ⟨by decide +kernel, rfl⟩
theorem d_Ho_new_6 : am_D y_Ho_new.2.2.1 6 (.putfield 9) 3 9 := ⟨by decide +kernel, rfl⟩
theorem d_Ho_new_9 : am_D y_Ho_new.2.2.1 9 (.aload_n 0) 1 10 := ⟨by decide +kernel, rfl⟩
theorem d_Ho_new_10 : am_D y_Ho_new.2.2.1 10 (.iload_n 2) 1 11 := ⟨by decide +kernel, rfl⟩
theorem d_Ho_new_11 : am_D y_Ho_new.2.2.1 11 (.putfield 15) 3 14 := ⟨by decide +kernel, rfl⟩
theorem d_Ho_new_14 : am_D y_Ho_new.2.2.1 14 (.aload_n 0) 1 15 := ⟨by decide +kernel, rfl⟩
theorem d_Ho_new_15 : am_D y_Ho_new.2.2.1 15 (.iload_n 3) 1 16 := ⟨by decide +kernel, rfl⟩
theorem d_Ho_new_16 : am_D y_Ho_new.2.2.1 16 (.putfield 18) 3 19 := ⟨by decide +kernel, rfl⟩
theorem d_Ho_new_19 : am_D y_Ho_new.2.2.1 19 (.aload_n 0) 1 20 := ⟨by decide +kernel, rfl⟩
theorem d_Ho_new_20 : am_D y_Ho_new.2.2.1 20 (.iconst 0) 1 21 := ⟨by decide +kernel, rfl⟩
theorem d_Ho_new_21 : am_D y_Ho_new.2.2.1 21 (.putfield 21) 3 24 := ⟨by decide +kernel, rfl⟩
theorem d_Ho_new_24 : am_D y_Ho_new.2.2.1 24 (.aload_n 0) 1 25 := ⟨by decide +kernel, rfl⟩
theorem d_Ho_new_25 : am_D y_Ho_new.2.2.1 25 (.iconst 0) 1 26 := ⟨by decide +kernel, rfl⟩
theorem d_Ho_new_26 : am_D y_Ho_new.2.2.1 26 (.putfield 24) 3 29 := ⟨by decide +kernel, rfl⟩
theorem d_Ho_new_29 : am_D y_Ho_new.2.2.1 29 (.aload_n 0) 1 30 := ⟨by decide +kernel, rfl⟩
theorem d_Ho_new_30 : am_D y_Ho_new.2.2.1 30 (.iconst (-1)) 1 31 := ⟨by decide +kernel, rfl⟩
theorem d_Ho_new_31 : am_D y_Ho_new.2.2.1 31 (.putfield 27) 3 34 := ⟨by decide +kernel, rfl⟩
theorem d_Ho_new_34 : am_D y_Ho_new.2.2.1 34 (.return_) 1 35 := ⟨by decide +kernel, rfl⟩
theorem d_FF_link_0 : am_D y_FF_link.2.2.1 0 (.aload_n 0) 1 1 := ⟨by decide +kernel, rfl⟩
theorem d_FF_link_1 : am_D y_FF_link.2.2.1 1 (.iload_n 1) 1 2 := ⟨by decide +kernel, rfl⟩
theorem d_FF_link_2 : am_D y_FF_link.2.2.1 2 (.iload_n 2) 1 3 := ⟨by decide +kernel, rfl⟩
theorem d_FF_link_3 : am_D y_FF_link.2.2.1 3 (.invokevirtual 47) 3 6 := ⟨by decide +kernel, rfl⟩
theorem d_FF_link_6 : am_D y_FF_link.2.2.1 6 (.ifCond .eq 18) 3 9 := ⟨by decide +kernel, rfl⟩
theorem d_FF_link_9 : am_D y_FF_link.2.2.1 9 (.aload_n 0) 1 10 := ⟨by decide +kernel, rfl⟩
theorem d_FF_link_10 : am_D y_FF_link.2.2.1 10 (.iload_n 3) 1 11 := ⟨by decide +kernel, rfl⟩
theorem d_FF_link_11 : am_D y_FF_link.2.2.1 11 (.iload 4) 2 13 := ⟨by decide +kernel, rfl⟩
theorem d_FF_link_13 : am_D y_FF_link.2.2.1 13 (.invokevirtual 47) 3 16 := ⟨by decide +kernel, rfl⟩
theorem d_FF_link_16 : am_D y_FF_link.2.2.1 16 (.ifCond .eq 8) 3 19 := ⟨by decide +kernel, rfl⟩
theorem d_FF_link_19 : am_D y_FF_link.2.2.1 19 (.iload_n 1) 1 20 := ⟨by decide +kernel, rfl⟩
theorem d_FF_link_20 : am_D y_FF_link.2.2.1 20 (.iload_n 3) 1 21 := ⟨by decide +kernel, rfl⟩
theorem d_FF_link_21 : am_D y_FF_link.2.2.1 21 (.if_icmp .ne 5) 3 24 := ⟨by decide +kernel, rfl⟩
theorem d_FF_link_24 : am_D y_FF_link.2.2.1 24 (.iconst 0) 1 25 := ⟨by decide +kernel, rfl⟩
theorem d_FF_link_25 : am_D y_FF_link.2.2.1 25 (.ireturn) 1 26 := ⟨by decide +kernel, rfl⟩
theorem d_FF_link_26 : am_D y_FF_link.2.2.1 26 (.aload_n 0) 1 27 := ⟨by decide +kernel, rfl⟩
theorem d_FF_link_27 : am_D y_FF_link.2.2.1 27 (.getfield 18) 3 30 := ⟨by decide +kernel, rfl⟩
theorem d_FF_link_30 : am_D y_FF_link.2.2.1 30 (.iload_n 1) 1 31 := ⟨by decide +kernel, rfl⟩
theorem d_FF_link_31 : am_D y_FF_link.2.2.1 31 (.aaload) 1 32 := ⟨by decide +kernel, rfl⟩
theorem d_FF_link_32 : am_D y_FF_link.2.2.1 32 (.getfield 51) 3 35 := ⟨by decide +kernel, rfl⟩
theorem d_FF_link_35 : am_D y_FF_link.2.2.1 35 (.iload_n 2) 1 36 := ⟨by decide +kernel, rfl⟩
theorem d_FF_link_36 : am_D y_FF_link.2.2.1 36 (.aaload) 1 37 := ⟨by decide +kernel, rfl⟩
theorem d_FF_link_37 : am_D y_FF_link.2.2.1 37 (.astore 5) 2 39 := ⟨by decide +kernel, rfl⟩
theorem d_FF_link_39 : am_D y_FF_link.2.2.1 39 (.aload_n 0) 1 40 := ⟨by decide +kernel, rfl⟩
theorem d_FF_link_40 : am_D y_FF_link.2.2.1 40 (.getfield 18) 3 43 := ⟨by decide +kernel, rfl⟩
theorem d_FF_link_43 : am_D y_FF_link.2.2.1 43 (.iload_n 3) 1 44 := ⟨by decide +kernel, rfl⟩
theorem d_FF_link_44 : am_D y_FF_link.2.2.1 44 (.aaload) 1 45 := ⟨by decide +kernel, rfl⟩
theorem d_FF_link_45 : am_D y_FF_link.2.2.1 45 (.getfield 51) 3 48 := ⟨by decide +kernel, rfl⟩
theorem d_FF_link_48 : am_D y_FF_link.2.2.1 48 (.iload 4) 2 50 := ⟨by decide +kernel, rfl⟩
theorem d_FF_link_50 : am_D y_FF_link.2.2.1 50 (.aaload) 1 51 := ⟨by decide +kernel, rfl⟩
theorem d_FF_link_51 : am_D y_FF_link.2.2.1 51 (.astore 6) 2 53 := ⟨by decide +kernel, rfl⟩
theorem d_FF_link_53 : am_D y_FF_link.2.2.1 53 (.aload 5) 2 55 := ⟨by decide +kernel, rfl⟩
theorem d_FF_link_55 : am_D y_FF_link.2.2.1 55 (.invokevirtual 55) 3 58 := ⟨by decide +kernel, rfl⟩
theorem d_FF_link_58 : am_D y_FF_link.2.2.1 58 (.ifCond .eq 11) 3 61 := ⟨by decide +kernel, rfl⟩
theorem d_FF_link_61 : am_D y_FF_link.2.2.1 61 (.aload 6) 2 63 := ⟨by decide +kernel, rfl⟩
theorem d_FF_link_63 : am_D y_FF_link.2.2.1 63 (.invokevirtual 55) 3 66 := ⟨by decide +kernel, rfl⟩
theorem d_FF_link_66 : am_D y_FF_link.2.2.1 66 (.ifCond .ne 5) 3 69 := ⟨by decide +kernel, rfl⟩
theorem d_FF_link_69 : am_D y_FF_link.2.2.1 69 (.iconst 0) 1 70 := ⟨by decide +kernel, rfl⟩
theorem d_FF_link_70 : am_D y_FF_link.2.2.1 70 (.ireturn) 1 71 := ⟨by decide +kernel, rfl⟩
theorem d_FF_link_71 : am_D y_FF_link.2.2.1 71 (.aload 5) 2 73 := ⟨by decide +kernel, rfl⟩
theorem d_FF_link_73 : am_D y_FF_link.2.2.1 73 (.iload_n 3) 1 74 := ⟨by decide +kernel, rfl⟩
theorem d_FF_link_74 : am_D y_FF_link.2.2.1 74 (.iload 4) 2 76 := ⟨by decide +kernel, rfl⟩
theorem d_FF_link_76 : am_D y_FF_link.2.2.1 76 (.invokestatic 71) 3 79 := ⟨by decide +kernel, rfl⟩
theorem d_FF_link_79 : am_D y_FF_link.2.2.1 79 (.invokevirtual 75) 3 82 := ⟨by decide +kernel, rfl⟩
theorem d_FF_link_82 : am_D y_FF_link.2.2.1 82 (.aload 6) 2 84 := ⟨by decide +kernel, rfl⟩
theorem d_FF_link_84 : am_D y_FF_link.2.2.1 84 (.iload_n 1) 1 85 := ⟨by decide +kernel, rfl⟩
theorem d_FF_link_85 : am_D y_FF_link.2.2.1 85 (.iload_n 2) 1 86 := ⟨by decide +kernel, rfl⟩
theorem d_FF_link_86 : am_D y_FF_link.2.2.1 86 (.invokestatic 71) 3 89 := ⟨by decide +kernel, rfl⟩
theorem d_FF_link_89 : am_D y_FF_link.2.2.1 89 (.invokevirtual 75) 3 92 := ⟨by decide +kernel, rfl⟩
theorem d_FF_link_92 : am_D y_FF_link.2.2.1 92 (.iconst 1) 1 93 := ⟨by decide +kernel, rfl⟩
theorem d_FF_link_93 : am_D y_FF_link.2.2.1 93 (.ireturn) 1 94 := ⟨by decide +kernel, rfl⟩
theorem d_FF_endOf_0 : am_D y_FF_endOf.2.2.1 0 (.iload_n 0) 1 1 := ⟨by decide +kernel, rfl⟩
theorem d_FF_endOf_1 : am_D y_FF_endOf.2.2.1 1 (.iconst 4) 1 2 := ⟨by decide +kernel, rfl⟩
theorem d_FF_endOf_2 : am_D y_FF_endOf.2.2.1 2 (.imul) 1 3 := ⟨by decide +kernel, rfl⟩
theorem d_FF_endOf_3 : am_D y_FF_endOf.2.2.1 3 (.iload_n 1) 1 4 := ⟨by decide +kernel, rfl⟩
theorem d_FF_endOf_4 : am_D y_FF_endOf.2.2.1 4 (.iadd) 1 5 := ⟨by decide +kernel, rfl⟩
theorem d_FF_endOf_5 : am_D y_FF_endOf.2.2.1 5 (.ireturn) 1 6 := ⟨by decide +kernel, rfl⟩
theorem d_Pt_join_0 : am_D y_Pt_join.2.2.1 0 (.aload_n 0) 1 1 := ⟨by decide +kernel, rfl⟩
theorem d_Pt_join_1 : am_D y_Pt_join.2.2.1 1 (.iload_n 1) 1 2 := ⟨by decide +kernel, rfl⟩
theorem d_Pt_join_2 : am_D y_Pt_join.2.2.1 2 (.putfield 22) 3 5 := ⟨by decide +kernel, rfl⟩
theorem d_Pt_join_5 : am_D y_Pt_join.2.2.1 5 (.aload_n 0) 1 6 := ⟨by decide +kernel, rfl⟩
theorem d_Pt_join_6 : am_D y_Pt_join.2.2.1 6 (.iconst 1) 1 7 := ⟨by decide +kernel, rfl⟩
theorem d_Pt_join_7 : am_D y_Pt_join.2.2.1 7 (.putfield 26) 3 10 := ⟨by decide +kernel, rfl⟩
theorem d_Pt_join_10 : am_D y_Pt_join.2.2.1 10 (.return_) 1 11 := ⟨by decide +kernel, rfl⟩
theorem d_FF_turn_0 : am_D y_FF_turn.2.2.1 0 (.aload_n 0) 1 1 := ⟨by decide +kernel, rfl⟩
theorem d_FF_turn_1 : am_D y_FF_turn.2.2.1 1 (.iload_n 1) 1 2 := ⟨by decide +kernel, rfl⟩
theorem d_FF_turn_2 : am_D y_FF_turn.2.2.1 2 (.iload_n 2) 1 3 := ⟨by decide +kernel, rfl⟩
theorem d_FF_turn_3 : am_D y_FF_turn.2.2.1 3 (.invokevirtual 79) 3 6 := ⟨by decide +kernel, rfl⟩
theorem d_FF_turn_6 : am_D y_FF_turn.2.2.1 6 (.ifCond .eq 21) 3 9 := ⟨by decide +kernel, rfl⟩
theorem d_FF_turn_9 : am_D y_FF_turn.2.2.1 9 (.aload_n 0) 1 10 := ⟨by decide +kernel, rfl⟩
theorem d_FF_turn_10 : am_D y_FF_turn.2.2.1 10 (.getfield 18) 3 13 := ⟨by decide +kernel, rfl⟩
theorem d_FF_turn_13 : am_D y_FF_turn.2.2.1 13 (.iload_n 1) 1 14 := ⟨by decide +kernel, rfl⟩
theorem d_FF_turn_14 : am_D y_FF_turn.2.2.1 14 (.aaload) 1 15 := ⟨by decide +kernel, rfl⟩
theorem d_FF_turn_15 : am_D y_FF_turn.2.2.1 15 (.getfield 51) 3 18 := ⟨by decide +kernel, rfl⟩
theorem d_FF_turn_18 : am_D y_FF_turn.2.2.1 18 (.iload_n 2) 1 19 := ⟨by decide +kernel, rfl⟩
theorem d_FF_turn_19 : am_D y_FF_turn.2.2.1 19 (.aaload) 1 20 := ⟨by decide +kernel, rfl⟩
theorem d_FF_turn_20 : am_D y_FF_turn.2.2.1 20 (.getfield 82) 3 23 := ⟨by decide +kernel, rfl⟩
theorem d_FF_turn_23 : am_D y_FF_turn.2.2.1 23 (.iload_n 3) 1 24 := ⟨by decide +kernel, rfl⟩
theorem d_FF_turn_24 : am_D y_FF_turn.2.2.1 24 (.if_icmp .ne 5) 3 27 := ⟨by decide +kernel, rfl⟩
theorem d_FF_turn_27 : am_D y_FF_turn.2.2.1 27 (.iconst 0) 1 28 := ⟨by decide +kernel, rfl⟩
theorem d_FF_turn_28 : am_D y_FF_turn.2.2.1 28 (.ireturn) 1 29 := ⟨by decide +kernel, rfl⟩
theorem d_FF_turn_29 : am_D y_FF_turn.2.2.1 29 (.aload_n 0) 1 30 := ⟨by decide +kernel, rfl⟩
theorem d_FF_turn_30 : am_D y_FF_turn.2.2.1 30 (.getfield 18) 3 33 := ⟨by decide +kernel, rfl⟩
theorem d_FF_turn_33 : am_D y_FF_turn.2.2.1 33 (.iload_n 1) 1 34 := ⟨by decide +kernel, rfl⟩
theorem d_FF_turn_34 : am_D y_FF_turn.2.2.1 34 (.aaload) 1 35 := ⟨by decide +kernel, rfl⟩
theorem d_FF_turn_35 : am_D y_FF_turn.2.2.1 35 (.getfield 51) 3 38 := ⟨by decide +kernel, rfl⟩
theorem d_FF_turn_38 : am_D y_FF_turn.2.2.1 38 (.iload_n 2) 1 39 := ⟨by decide +kernel, rfl⟩
theorem d_FF_turn_39 : am_D y_FF_turn.2.2.1 39 (.aaload) 1 40 := ⟨by decide +kernel, rfl⟩
theorem d_FF_turn_40 : am_D y_FF_turn.2.2.1 40 (.getfield 86) 3 43 := ⟨by decide +kernel, rfl⟩
theorem d_FF_turn_43 : am_D y_FF_turn.2.2.1 43 (.istore 4) 2 45 := ⟨by decide +kernel, rfl⟩
theorem d_FF_turn_45 : am_D y_FF_turn.2.2.1 45 (.aload_n 0) 1 46 := ⟨by decide +kernel, rfl⟩
theorem d_FF_turn_46 : am_D y_FF_turn.2.2.1 46 (.getfield 18) 3 49 := ⟨by decide +kernel, rfl⟩
theorem d_FF_turn_49 : am_D y_FF_turn.2.2.1 49 (.iload_n 1) 1 50 := ⟨by decide +kernel, rfl⟩
theorem d_FF_turn_50 : am_D y_FF_turn.2.2.1 50 (.aaload) 1 51 := ⟨by decide +kernel, rfl⟩
theorem d_FF_turn_51 : am_D y_FF_turn.2.2.1 51 (.astore 5) 2 53 := ⟨by decide +kernel, rfl⟩
theorem d_FF_turn_53 : am_D y_FF_turn.2.2.1 53 (.aload_n 0) 1 54 := ⟨by decide +kernel, rfl⟩
theorem d_FF_turn_54 : am_D y_FF_turn.2.2.1 54 (.getfield 18) 3 57 := ⟨by decide +kernel, rfl⟩
theorem d_FF_turn_57 : am_D y_FF_turn.2.2.1 57 (.iload 4) 2 59 := ⟨by decide +kernel, rfl⟩
theorem d_FF_turn_59 : am_D y_FF_turn.2.2.1 59 (.invokestatic 89) 3 62 := ⟨by decide +kernel, rfl⟩
theorem d_FF_turn_62 : am_D y_FF_turn.2.2.1 62 (.aaload) 1 63 := ⟨by decide +kernel, rfl⟩
theorem d_FF_turn_63 : am_D y_FF_turn.2.2.1 63 (.astore 6) 2 65 := ⟨by decide +kernel, rfl⟩
theorem d_FF_turn_65 : am_D y_FF_turn.2.2.1 65 (.aload 5) 2 67 := ⟨by decide +kernel, rfl⟩
theorem d_FF_turn_67 : am_D y_FF_turn.2.2.1 67 (.invokevirtual 93) 3 70 := ⟨by decide +kernel, rfl⟩
theorem d_FF_turn_70 : am_D y_FF_turn.2.2.1 70 (.ifCond .ne 11) 3 73 := ⟨by decide +kernel, rfl⟩
theorem d_FF_turn_73 : am_D y_FF_turn.2.2.1 73 (.aload 6) 2 75 := ⟨by decide +kernel, rfl⟩
theorem d_FF_turn_75 : am_D y_FF_turn.2.2.1 75 (.invokevirtual 93) 3 78 := ⟨by decide +kernel, rfl⟩
theorem d_FF_turn_78 : am_D y_FF_turn.2.2.1 78 (.ifCond .eq 5) 3 81 := ⟨by decide +kernel, rfl⟩
theorem d_FF_turn_81 : am_D y_FF_turn.2.2.1 81 (.iconst 0) 1 82 := ⟨by decide +kernel, rfl⟩
theorem d_FF_turn_82 : am_D y_FF_turn.2.2.1 82 (.ireturn) 1 83 := ⟨by decide +kernel, rfl⟩
theorem d_FF_turn_83 : am_D y_FF_turn.2.2.1 83 (.aload 5) 2 85 := ⟨by decide +kernel, rfl⟩
theorem d_FF_turn_85 : am_D y_FF_turn.2.2.1 85 (.iload_n 2) 1 86 := ⟨by decide +kernel, rfl⟩
theorem d_FF_turn_86 : am_D y_FF_turn.2.2.1 86 (.iload_n 3) 1 87 := ⟨by decide +kernel, rfl⟩
theorem d_FF_turn_87 : am_D y_FF_turn.2.2.1 87 (.invokevirtual 96) 3 90 := ⟨by decide +kernel, rfl⟩
theorem d_FF_turn_90 : am_D y_FF_turn.2.2.1 90 (.aload 6) 2 92 := ⟨by decide +kernel, rfl⟩
theorem d_FF_turn_92 : am_D y_FF_turn.2.2.1 92 (.iload 4) 2 94 := ⟨by decide +kernel, rfl⟩
theorem d_FF_turn_94 : am_D y_FF_turn.2.2.1 94 (.invokestatic 100) 3 97 := ⟨by decide +kernel, rfl⟩
theorem d_FF_turn_97 : am_D y_FF_turn.2.2.1 97 (.iload_n 3) 1 98 := ⟨by decide +kernel, rfl⟩
theorem d_FF_turn_98 : am_D y_FF_turn.2.2.1 98 (.invokevirtual 96) 3 101 := ⟨by decide +kernel, rfl⟩
theorem d_FF_turn_101 : am_D y_FF_turn.2.2.1 101 (.iconst 1) 1 102 := ⟨by decide +kernel, rfl⟩
theorem d_FF_turn_102 : am_D y_FF_turn.2.2.1 102 (.ireturn) 1 103 := ⟨by decide +kernel, rfl⟩
theorem d_FF_isEnd_0 : am_D y_FF_isEnd.2.2.1 0 (.aload_n 0) 1 1 := ⟨by decide +kernel, rfl⟩
theorem d_FF_isEnd_1 : am_D y_FF_isEnd.2.2.1 1 (.iload_n 1) 1 2 := ⟨by decide +kernel, rfl⟩
theorem d_FF_isEnd_2 : am_D y_FF_isEnd.2.2.1 2 (.iload_n 2) 1 3 := ⟨by decide +kernel, rfl⟩
theorem d_FF_isEnd_3 : am_D y_FF_isEnd.2.2.1 3 (.invokevirtual 47) 3 6 := ⟨by decide +kernel, rfl⟩
theorem d_FF_isEnd_6 : am_D y_FF_isEnd.2.2.1 6 (.ifCond .eq 25) 3 9 := ⟨by decide +kernel, rfl⟩
theorem d_FF_isEnd_9 : am_D y_FF_isEnd.2.2.1 9 (.aload_n 0) 1 10 := ⟨by decide +kernel, rfl⟩
theorem d_FF_isEnd_10 : am_D y_FF_isEnd.2.2.1 10 (.getfield 18) 3 13 := ⟨by decide +kernel, rfl⟩
theorem d_FF_isEnd_13 : am_D y_FF_isEnd.2.2.1 13 (.iload_n 1) 1 14 := ⟨by decide +kernel, rfl⟩
theorem d_FF_isEnd_14 : am_D y_FF_isEnd.2.2.1 14 (.aaload) 1 15 := ⟨by decide +kernel, rfl⟩
theorem d_FF_isEnd_15 : am_D y_FF_isEnd.2.2.1 15 (.getfield 51) 3 18 := ⟨by decide +kernel, rfl⟩
theorem d_FF_isEnd_18 : am_D y_FF_isEnd.2.2.1 18 (.iload_n 2) 1 19 := ⟨by decide +kernel, rfl⟩
theorem d_FF_isEnd_19 : am_D y_FF_isEnd.2.2.1 19 (.aaload) 1 20 := ⟨by decide +kernel, rfl⟩
theorem d_FF_isEnd_20 : am_D y_FF_isEnd.2.2.1 20 (.getfield 86) 3 23 := ⟨by decide +kernel, rfl⟩
theorem d_FF_isEnd_23 : am_D y_FF_isEnd.2.2.1 23 (.iconst (-1)) 1 24 := ⟨by decide +kernel, rfl⟩
theorem d_FF_isEnd_24 : am_D y_FF_isEnd.2.2.1 24 (.if_icmp .eq 7) 3 27 := ⟨by decide +kernel, rfl⟩
theorem d_FF_isEnd_27 : am_D y_FF_isEnd.2.2.1 27 (.iconst 1) 1 28 := ⟨by decide +kernel, rfl⟩
theorem d_FF_isEnd_28 : am_D y_FF_isEnd.2.2.1 28 (.goto 4) 3 31 := ⟨by decide +kernel, rfl⟩
theorem d_FF_isEnd_31 : am_D y_FF_isEnd.2.2.1 31 (.iconst 0) 1 32 := ⟨by decide +kernel, rfl⟩
theorem d_FF_isEnd_32 : am_D y_FF_isEnd.2.2.1 32 (.ireturn) 1 33 := ⟨by decide +kernel, rfl⟩
theorem d_FF_switchOf_0 : am_D y_FF_switchOf.2.2.1 0 (.iload_n 0) 1 1 := ⟨by decide +kernel, rfl⟩
theorem d_FF_switchOf_1 : am_D y_FF_switchOf.2.2.1 1 (.iconst 4) 1 2 := ⟨by decide +kernel, rfl⟩
theorem d_FF_switchOf_2 : am_D y_FF_switchOf.2.2.1 2 (.idiv) 1 3 := ⟨by decide +kernel, rfl⟩
theorem d_FF_switchOf_3 : am_D y_FF_switchOf.2.2.1 3 (.ireturn) 1 4 := ⟨by decide +kernel, rfl⟩
theorem d_Nd_holdsLinks_0 : am_D y_Nd_holdsLinks.2.2.1 0 (.aload_n 0) 1 1 := ⟨by decide +kernel, rfl⟩
theorem d_Nd_holdsLinks_1 : am_D y_Nd_holdsLinks.2.2.1 1 (.getfield 38) 3 4 := ⟨by decide +kernel, rfl⟩
theorem d_Nd_holdsLinks_4 : am_D y_Nd_holdsLinks.2.2.1 4 (.invokevirtual 41) 3 7 := ⟨by decide +kernel, rfl⟩
theorem d_Nd_holdsLinks_7 : am_D y_Nd_holdsLinks.2.2.1 7 (.bipush 20) 2 9 := ⟨by decide +kernel, rfl⟩
theorem d_Nd_holdsLinks_9 : am_D y_Nd_holdsLinks.2.2.1 9 (.if_icmp .lt 7) 3 12 := ⟨by decide +kernel, rfl⟩
theorem d_Nd_holdsLinks_12 : am_D y_Nd_holdsLinks.2.2.1 12 (.iconst 1) 1 13 := ⟨by decide +kernel, rfl⟩
theorem d_Nd_holdsLinks_13 : am_D y_Nd_holdsLinks.2.2.1 13 (.goto 4) 3 16 := ⟨by decide +kernel, rfl⟩
theorem d_Nd_holdsLinks_16 : am_D y_Nd_holdsLinks.2.2.1 16 (.iconst 0) 1 17 := ⟨by decide +kernel, rfl⟩
theorem d_Nd_holdsLinks_17 : am_D y_Nd_holdsLinks.2.2.1 17 (.ireturn) 1 18 := ⟨by decide +kernel, rfl⟩
theorem d_Nd_turnPort_0 : am_D y_Nd_turnPort.2.2.1 0 (.aload_n 0) 1 1 := ⟨by decide +kernel, rfl⟩
theorem d_Nd_turnPort_1 : am_D y_Nd_turnPort.2.2.1 1 (.getfield 20) 3 4 := ⟨by decide +kernel, rfl⟩
theorem d_Nd_turnPort_4 : am_D y_Nd_turnPort.2.2.1 4 (.iload_n 1) 1 5 := ⟨by decide +kernel, rfl⟩
theorem d_Nd_turnPort_5 : am_D y_Nd_turnPort.2.2.1 5 (.aaload) 1 6 := ⟨by decide +kernel, rfl⟩
theorem d_Nd_turnPort_6 : am_D y_Nd_turnPort.2.2.1 6 (.iload_n 2) 1 7 := ⟨by decide +kernel, rfl⟩
theorem d_Nd_turnPort_7 : am_D y_Nd_turnPort.2.2.1 7 (.putfield 45) 3 10 := ⟨by decide +kernel, rfl⟩
theorem d_Nd_turnPort_10 : am_D y_Nd_turnPort.2.2.1 10 (.iload_n 2) 1 11 := ⟨by decide +kernel, rfl⟩
theorem d_Nd_turnPort_11 : am_D y_Nd_turnPort.2.2.1 11 (.ifCond .ne 28) 3 14 := ⟨by decide +kernel, rfl⟩
theorem d_Nd_turnPort_14 : am_D y_Nd_turnPort.2.2.1 14 (.aload_n 0) 1 15 := ⟨by decide +kernel, rfl⟩
theorem d_Nd_turnPort_15 : am_D y_Nd_turnPort.2.2.1 15 (.getfield 20) 3 18 := ⟨by decide +kernel, rfl⟩
theorem d_Nd_turnPort_18 : am_D y_Nd_turnPort.2.2.1 18 (.iload_n 1) 1 19 := ⟨by decide +kernel, rfl⟩
theorem d_Nd_turnPort_19 : am_D y_Nd_turnPort.2.2.1 19 (.aaload) 1 20 := ⟨by decide +kernel, rfl⟩
theorem d_Nd_turnPort_20 : am_D y_Nd_turnPort.2.2.1 20 (.getfield 49) 3 23 := ⟨by decide +kernel, rfl⟩
theorem d_Nd_turnPort_23 : am_D y_Nd_turnPort.2.2.1 23 (.invokevirtual 52) 3 26 := ⟨by decide +kernel, rfl⟩
theorem d_Nd_turnPort_26 : am_D y_Nd_turnPort.2.2.1 26 (.aload_n 0) 1 27 := ⟨by decide +kernel, rfl⟩
theorem d_Nd_turnPort_27 : am_D y_Nd_turnPort.2.2.1 27 (.getfield 38) 3 30 := ⟨by decide +kernel, rfl⟩
theorem d_Nd_turnPort_30 : am_D y_Nd_turnPort.2.2.1 30 (.iconst 5) 1 31 := ⟨by decide +kernel, rfl⟩
theorem d_Nd_turnPort_31 : am_D y_Nd_turnPort.2.2.1 31 (.iload_n 1) 1 32 := ⟨by decide +kernel, rfl⟩
theorem d_Nd_turnPort_32 : am_D y_Nd_turnPort.2.2.1 32 (.invokestatic 55) 3 35 := ⟨by decide +kernel, rfl⟩
theorem d_Nd_turnPort_35 : am_D y_Nd_turnPort.2.2.1 35 (.invokevirtual 61) 3 38 := ⟨by decide +kernel, rfl⟩
theorem d_Nd_turnPort_38 : am_D y_Nd_turnPort.2.2.1 38 (.pop) 1 39 := ⟨by decide +kernel, rfl⟩
theorem d_Nd_turnPort_39 : am_D y_Nd_turnPort.2.2.1 39 (.return_) 1 40 := ⟨by decide +kernel, rfl⟩
theorem d_Ms_ofValue_0 : am_D y_Ms_ofValue.2.2.1 0 (.new 10) 3 3 := ⟨by decide +kernel, rfl⟩
theorem d_Ms_ofValue_3 : am_D y_Ms_ofValue.2.2.1 3 (.dup) 1 4 := ⟨by decide +kernel, rfl⟩
theorem d_Ms_ofValue_4 : am_D y_Ms_ofValue.2.2.1 4 (.iload_n 0) 1 5 := ⟨by decide +kernel, rfl⟩
theorem d_Ms_ofValue_5 : am_D y_Ms_ofValue.2.2.1 5 (.iload_n 1) 1 6 := ⟨by decide +kernel, rfl⟩
theorem d_Ms_ofValue_6 : am_D y_Ms_ofValue.2.2.1 6 (.iconst (-1)) 1 7 := ⟨by decide +kernel, rfl⟩
theorem d_Ms_ofValue_7 : am_D y_Ms_ofValue.2.2.1 7 (.iconst (-1)) 1 8 := ⟨by decide +kernel, rfl⟩
theorem d_Ms_ofValue_8 : am_D y_Ms_ofValue.2.2.1 8 (.iconst 0) 1 9 := ⟨by decide +kernel, rfl⟩
theorem d_Ms_ofValue_9 : am_D y_Ms_ofValue.2.2.1 9 (.invokespecial 27) 3 12 := ⟨by decide +kernel, rfl⟩
theorem d_Ms_ofValue_12 : am_D y_Ms_ofValue.2.2.1 12 (.areturn) 1 13 := ⟨by decide +kernel, rfl⟩
theorem d_Ms_new_0 : am_D y_Ms_new.2.2.1 0 (.aload_n 0) 1 1 := ⟨by decide +kernel, rfl⟩
theorem d_Ms_new_1 : am_D y_Ms_new.2.2.1 1 (.invokespecial 3) 3 4 := ⟨by decide +kernel, rfl⟩
theorem d_Ms_new_4 : am_D y_Ms_new.2.2.1 4 (.aload_n 0) 1 5 := ⟨by decide +kernel, rfl⟩
theorem d_Ms_new_5 : am_D y_Ms_new.2.2.1 5 (.iload_n 1) 1 6 := ⟨by decide +kernel, rfl⟩
theorem d_Ms_new_6 : am_D y_Ms_new.2.2.1 6 (.putfield 9) 3 9 := ⟨by decide +kernel, rfl⟩
theorem d_Ms_new_9 : am_D y_Ms_new.2.2.1 9 (.aload_n 0) 1 10 := ⟨by decide +kernel, rfl⟩
theorem d_Ms_new_10 : am_D y_Ms_new.2.2.1 10 (.iload_n 2) 1 11 := ⟨by decide +kernel, rfl⟩
theorem d_Ms_new_11 : am_D y_Ms_new.2.2.1 11 (.putfield 15) 3 14 := ⟨by decide +kernel, rfl⟩
theorem d_Ms_new_14 : am_D y_Ms_new.2.2.1 14 (.aload_n 0) 1 15 := ⟨by decide +kernel, rfl⟩
theorem d_Ms_new_15 : am_D y_Ms_new.2.2.1 15 (.iload_n 3) 1 16 := ⟨by decide +kernel, rfl⟩
theorem d_Ms_new_16 : am_D y_Ms_new.2.2.1 16 (.putfield 18) 3 19 := ⟨by decide +kernel, rfl⟩
theorem d_Ms_new_19 : am_D y_Ms_new.2.2.1 19 (.aload_n 0) 1 20 := ⟨by decide +kernel, rfl⟩
theorem d_Ms_new_20 : am_D y_Ms_new.2.2.1 20 (.iload 4) 2 22 := ⟨by decide +kernel, rfl⟩
theorem d_Ms_new_22 : am_D y_Ms_new.2.2.1 22 (.putfield 21) 3 25 := ⟨by decide +kernel, rfl⟩
theorem d_Ms_new_25 : am_D y_Ms_new.2.2.1 25 (.aload_n 0) 1 26 := ⟨by decide +kernel, rfl⟩
theorem d_Ms_new_26 : am_D y_Ms_new.2.2.1 26 (.iload 5) 2 28 := ⟨by decide +kernel, rfl⟩
theorem d_Ms_new_28 : am_D y_Ms_new.2.2.1 28 (.putfield 24) 3 31 := ⟨by decide +kernel, rfl⟩
theorem d_Ms_new_31 : am_D y_Ms_new.2.2.1 31 (.return_) 1 32 := ⟨by decide +kernel, rfl⟩
theorem d_FF_portOf_0 : am_D y_FF_portOf.2.2.1 0 (.iload_n 0) 1 1 := ⟨by decide +kernel, rfl⟩
theorem d_FF_portOf_1 : am_D y_FF_portOf.2.2.1 1 (.iconst 4) 1 2 := ⟨by decide +kernel, rfl⟩
theorem d_FF_portOf_2 : am_D y_FF_portOf.2.2.1 2 (.irem) 1 3 := ⟨by decide +kernel, rfl⟩
theorem d_FF_portOf_3 : am_D y_FF_portOf.2.2.1 3 (.ireturn) 1 4 := ⟨by decide +kernel, rfl⟩
theorem d_FF_guard_0 : am_D y_FF_guard.2.2.1 0 (.aload_n 0) 1 1 := ⟨by decide +kernel, rfl⟩
theorem d_FF_guard_1 : am_D y_FF_guard.2.2.1 1 (.iload_n 1) 1 2 := ⟨by decide +kernel, rfl⟩
theorem d_FF_guard_2 : am_D y_FF_guard.2.2.1 2 (.invokevirtual 103) 3 5 := ⟨by decide +kernel, rfl⟩
theorem d_FF_guard_5 : am_D y_FF_guard.2.2.1 5 (.ifCond .eq 13) 3 8 := ⟨by decide +kernel, rfl⟩
theorem d_FF_guard_8 : am_D y_FF_guard.2.2.1 8 (.iload_n 2) 1 9 := ⟨by decide +kernel, rfl⟩
theorem d_FF_guard_9 : am_D y_FF_guard.2.2.1 9 (.ifCond .lt 9) 3 12 := ⟨by decide +kernel, rfl⟩
theorem d_FF_guard_12 : am_D y_FF_guard.2.2.1 12 (.iload_n 2) 1 13 := ⟨by decide +kernel, rfl⟩
theorem d_FF_guard_13 : am_D y_FF_guard.2.2.1 13 (.bipush 9) 2 15 := ⟨by decide +kernel, rfl⟩
theorem d_FF_guard_15 : am_D y_FF_guard.2.2.1 15 (.if_icmp .le 5) 3 18 := ⟨by decide +kernel, rfl⟩
theorem d_FF_guard_18 : am_D y_FF_guard.2.2.1 18 (.iconst (-1)) 1 19 := ⟨by decide +kernel, rfl⟩
theorem d_FF_guard_19 : am_D y_FF_guard.2.2.1 19 (.ireturn) 1 20 := ⟨by decide +kernel, rfl⟩
theorem d_FF_guard_20 : am_D y_FF_guard.2.2.1 20 (.iload 4) 2 22 := ⟨by decide +kernel, rfl⟩
theorem d_FF_guard_22 : am_D y_FF_guard.2.2.1 22 (.ifCond .lt 17) 3 25 := ⟨by decide +kernel, rfl⟩
theorem d_FF_guard_25 : am_D y_FF_guard.2.2.1 25 (.iload 4) 2 27 := ⟨by decide +kernel, rfl⟩
theorem d_FF_guard_27 : am_D y_FF_guard.2.2.1 27 (.bipush 6) 2 29 := ⟨by decide +kernel, rfl⟩
theorem d_FF_guard_29 : am_D y_FF_guard.2.2.1 29 (.if_icmp .gt 10) 3 32 := ⟨by decide +kernel, rfl⟩
theorem d_FF_guard_32 : am_D y_FF_guard.2.2.1 32 (.iload_n 3) 1 33 := ⟨by decide +kernel, rfl⟩
theorem d_FF_guard_33 : am_D y_FF_guard.2.2.1 33 (.invokestatic 107) 3 36 := ⟨by decide +kernel, rfl⟩
theorem d_FF_guard_36 : am_D y_FF_guard.2.2.1 36 (.ifCond .ne 5) 3 39 := ⟨by decide +kernel, rfl⟩
theorem d_FF_guard_39 : am_D y_FF_guard.2.2.1 39 (.iconst (-1)) 1 40 := ⟨by decide +kernel, rfl⟩
theorem d_FF_guard_40 : am_D y_FF_guard.2.2.1 40 (.ireturn) 1 41 := ⟨by decide +kernel, rfl⟩
theorem d_FF_guard_41 : am_D y_FF_guard.2.2.1 41 (.aload_n 0) 1 42 := ⟨by decide +kernel, rfl⟩
theorem d_FF_guard_42 : am_D y_FF_guard.2.2.1 42 (.getfield 18) 3 45 := ⟨by decide +kernel, rfl⟩
theorem d_FF_guard_45 : am_D y_FF_guard.2.2.1 45 (.iload_n 1) 1 46 := ⟨by decide +kernel, rfl⟩
theorem d_FF_guard_46 : am_D y_FF_guard.2.2.1 46 (.aaload) 1 47 := ⟨by decide +kernel, rfl⟩
theorem d_FF_guard_47 : am_D y_FF_guard.2.2.1 47 (.getfield 112) 3 50 := ⟨by decide +kernel, rfl⟩
theorem d_FF_guard_50 : am_D y_FF_guard.2.2.1 50 (.astore 5) 2 52 := ⟨by decide +kernel, rfl⟩
theorem d_FF_guard_52 : am_D y_FF_guard.2.2.1 52 (.aload 5) 2 54 := ⟨by decide +kernel, rfl⟩
theorem d_FF_guard_54 : am_D y_FF_guard.2.2.1 54 (.invokevirtual 116) 3 57 := ⟨by decide +kernel, rfl⟩
theorem d_FF_guard_57 : am_D y_FF_guard.2.2.1 57 (.iconst 4) 1 58 := ⟨by decide +kernel, rfl⟩
theorem d_FF_guard_58 : am_D y_FF_guard.2.2.1 58 (.if_icmp .lt 6) 3 61 := ⟨by decide +kernel, rfl⟩
theorem d_FF_guard_61 : am_D y_FF_guard.2.2.1 61 (.bipush (-2)) 2 63 := ⟨by decide +kernel, rfl⟩
theorem d_FF_guard_63 : am_D y_FF_guard.2.2.1 63 (.ireturn) 1 64 := ⟨by decide +kernel, rfl⟩
theorem d_FF_guard_64 : am_D y_FF_guard.2.2.1 64 (.aload 5) 2 66 := ⟨by decide +kernel, rfl⟩
theorem d_FF_guard_66 : am_D y_FF_guard.2.2.1 66 (.new 108) 3 69 := ⟨by decide +kernel, rfl⟩
theorem d_FF_guard_69 : am_D y_FF_guard.2.2.1 69 (.dup) 1 70 := ⟨by decide +kernel, rfl⟩
theorem d_FF_guard_70 : am_D y_FF_guard.2.2.1 70 (.iload_n 2) 1 71 := ⟨by decide +kernel, rfl⟩
theorem d_FF_guard_71 : am_D y_FF_guard.2.2.1 71 (.iload_n 3) 1 72 := ⟨by decide +kernel, rfl⟩
theorem d_FF_guard_72 : am_D y_FF_guard.2.2.1 72 (.iload 4) 2 74 := ⟨by decide +kernel, rfl⟩
theorem d_FF_guard_74 : am_D y_FF_guard.2.2.1 74 (.invokespecial 122) 3 77 := ⟨by decide +kernel, rfl⟩
theorem d_FF_guard_77 : am_D y_FF_guard.2.2.1 77 (.invokevirtual 123) 3 80 := ⟨by decide +kernel, rfl⟩
theorem d_FF_guard_80 : am_D y_FF_guard.2.2.1 80 (.pop) 1 81 := ⟨by decide +kernel, rfl⟩
theorem d_FF_guard_81 : am_D y_FF_guard.2.2.1 81 (.aload 5) 2 83 := ⟨by decide +kernel, rfl⟩
theorem d_FF_guard_83 : am_D y_FF_guard.2.2.1 83 (.invokevirtual 116) 3 86 := ⟨by decide +kernel, rfl⟩
theorem d_FF_guard_86 : am_D y_FF_guard.2.2.1 86 (.iconst 1) 1 87 := ⟨by decide +kernel, rfl⟩
theorem d_FF_guard_87 : am_D y_FF_guard.2.2.1 87 (.isub) 1 88 := ⟨by decide +kernel, rfl⟩
theorem d_FF_guard_88 : am_D y_FF_guard.2.2.1 88 (.ireturn) 1 89 := ⟨by decide +kernel, rfl⟩
theorem d_Gd_isMatch_0 : am_D y_Gd_isMatch.2.2.1 0 (.iload_n 0) 1 1 := ⟨by decide +kernel, rfl⟩
theorem d_Gd_isMatch_1 : am_D y_Gd_isMatch.2.2.1 1 (.ifCond .lt 45) 3 4 := ⟨by decide +kernel, rfl⟩
theorem d_Gd_isMatch_4 : am_D y_Gd_isMatch.2.2.1 4 (.iload_n 0) 1 5 := ⟨by decide +kernel, rfl⟩
theorem d_Gd_isMatch_5 : am_D y_Gd_isMatch.2.2.1 5 (.sipush 511) 3 8 := ⟨by decide +kernel, rfl⟩
theorem d_Gd_isMatch_8 : am_D y_Gd_isMatch.2.2.1 8 (.if_icmp .gt 38) 3 11 := ⟨by decide +kernel, rfl⟩
theorem d_Gd_isMatch_11 : am_D y_Gd_isMatch.2.2.1 11 (.iload_n 0) 1 12 := ⟨by decide +kernel, rfl⟩
theorem d_Gd_isMatch_12 : am_D y_Gd_isMatch.2.2.1 12 (.bipush 7) 2 14 := ⟨by decide +kernel, rfl⟩
theorem d_Gd_isMatch_14 : am_D y_Gd_isMatch.2.2.1 14 (.iand) 1 15 := ⟨by decide +kernel, rfl⟩
theorem d_Gd_isMatch_15 : am_D y_Gd_isMatch.2.2.1 15 (.iconst 4) 1 16 := ⟨by decide +kernel, rfl⟩
theorem d_Gd_isMatch_16 : am_D y_Gd_isMatch.2.2.1 16 (.if_icmp .gt 30) 3 19 := ⟨by decide +kernel, rfl⟩
theorem d_Gd_isMatch_19 : am_D y_Gd_isMatch.2.2.1 19 (.iload_n 0) 1 20 := ⟨by decide +kernel, rfl⟩
theorem d_Gd_isMatch_20 : am_D y_Gd_isMatch.2.2.1 20 (.iconst 3) 1 21 := ⟨by decide +kernel, rfl⟩
theorem d_Gd_isMatch_21 : am_D y_Gd_isMatch.2.2.1 21 (.ishr) 1 22 := ⟨by decide +kernel, rfl⟩
theorem d_Gd_isMatch_22 : am_D y_Gd_isMatch.2.2.1 22 (.bipush 7) 2 24 := ⟨by decide +kernel, rfl⟩
theorem d_Gd_isMatch_24 : am_D y_Gd_isMatch.2.2.1 24 (.iand) 1 25 := ⟨by decide +kernel, rfl⟩
theorem d_Gd_isMatch_25 : am_D y_Gd_isMatch.2.2.1 25 (.bipush 6) 2 27 := ⟨by decide +kernel, rfl⟩
theorem d_Gd_isMatch_27 : am_D y_Gd_isMatch.2.2.1 27 (.if_icmp .gt 19) 3 30 := ⟨by decide +kernel, rfl⟩
theorem d_Gd_isMatch_30 : am_D y_Gd_isMatch.2.2.1 30 (.iload_n 0) 1 31 := ⟨by decide +kernel, rfl⟩
theorem d_Gd_isMatch_31 : am_D y_Gd_isMatch.2.2.1 31 (.bipush 6) 2 33 := ⟨by decide +kernel, rfl⟩
theorem d_Gd_isMatch_33 : am_D y_Gd_isMatch.2.2.1 33 (.ishr) 1 34 := ⟨by decide +kernel, rfl⟩
theorem d_Gd_isMatch_34 : am_D y_Gd_isMatch.2.2.1 34 (.bipush 7) 2 36 := ⟨by decide +kernel, rfl⟩
theorem d_Gd_isMatch_36 : am_D y_Gd_isMatch.2.2.1 36 (.iand) 1 37 := ⟨by decide +kernel, rfl⟩
theorem d_Gd_isMatch_37 : am_D y_Gd_isMatch.2.2.1 37 (.bipush 6) 2 39 := ⟨by decide +kernel, rfl⟩
theorem d_Gd_isMatch_39 : am_D y_Gd_isMatch.2.2.1 39 (.if_icmp .gt 7) 3 42 := ⟨by decide +kernel, rfl⟩
theorem d_Gd_isMatch_42 : am_D y_Gd_isMatch.2.2.1 42 (.iconst 1) 1 43 := ⟨by decide +kernel, rfl⟩
theorem d_Gd_isMatch_43 : am_D y_Gd_isMatch.2.2.1 43 (.goto 4) 3 46 := ⟨by decide +kernel, rfl⟩
theorem d_Gd_isMatch_46 : am_D y_Gd_isMatch.2.2.1 46 (.iconst 0) 1 47 := ⟨by decide +kernel, rfl⟩
theorem d_Gd_isMatch_47 : am_D y_Gd_isMatch.2.2.1 47 (.ireturn) 1 48 := ⟨by decide +kernel, rfl⟩
theorem d_Gd_new_0 : am_D y_Gd_new.2.2.1 0 (.aload_n 0) 1 1 := ⟨by decide +kernel, rfl⟩
theorem d_Gd_new_1 : am_D y_Gd_new.2.2.1 1 (.invokespecial 3) 3 4 := ⟨by decide +kernel, rfl⟩
theorem d_Gd_new_4 : am_D y_Gd_new.2.2.1 4 (.aload_n 0) 1 5 := ⟨by decide +kernel, rfl⟩
theorem d_Gd_new_5 : am_D y_Gd_new.2.2.1 5 (.iload_n 1) 1 6 := ⟨by decide +kernel, rfl⟩
theorem d_Gd_new_6 : am_D y_Gd_new.2.2.1 6 (.putfield 9) 3 9 := ⟨by decide +kernel, rfl⟩
theorem d_Gd_new_9 : am_D y_Gd_new.2.2.1 9 (.aload_n 0) 1 10 := ⟨by decide +kernel, rfl⟩
theorem d_Gd_new_10 : am_D y_Gd_new.2.2.1 10 (.iload_n 2) 1 11 := ⟨by decide +kernel, rfl⟩
theorem d_Gd_new_11 : am_D y_Gd_new.2.2.1 11 (.putfield 15) 3 14 := ⟨by decide +kernel, rfl⟩
theorem d_Gd_new_14 : am_D y_Gd_new.2.2.1 14 (.aload_n 0) 1 15 := ⟨by decide +kernel, rfl⟩
theorem d_Gd_new_15 : am_D y_Gd_new.2.2.1 15 (.iload_n 3) 1 16 := ⟨by decide +kernel, rfl⟩
theorem d_Gd_new_16 : am_D y_Gd_new.2.2.1 16 (.putfield 18) 3 19 := ⟨by decide +kernel, rfl⟩
theorem d_Gd_new_19 : am_D y_Gd_new.2.2.1 19 (.aload_n 0) 1 20 := ⟨by decide +kernel, rfl⟩
theorem d_Gd_new_20 : am_D y_Gd_new.2.2.1 20 (.iconst 0) 1 21 := ⟨by decide +kernel, rfl⟩
theorem d_Gd_new_21 : am_D y_Gd_new.2.2.1 21 (.putfield 21) 3 24 := ⟨by decide +kernel, rfl⟩
theorem d_Gd_new_24 : am_D y_Gd_new.2.2.1 24 (.return_) 1 25 := ⟨by decide +kernel, rfl⟩
theorem d_FF_unguard_0 : am_D y_FF_unguard.2.2.1 0 (.aload_n 0) 1 1 := ⟨by decide +kernel, rfl⟩
theorem d_FF_unguard_1 : am_D y_FF_unguard.2.2.1 1 (.iload_n 1) 1 2 := ⟨by decide +kernel, rfl⟩
theorem d_FF_unguard_2 : am_D y_FF_unguard.2.2.1 2 (.iload_n 2) 1 3 := ⟨by decide +kernel, rfl⟩
theorem d_FF_unguard_3 : am_D y_FF_unguard.2.2.1 3 (.invokevirtual 127) 3 6 := ⟨by decide +kernel, rfl⟩
theorem d_FF_unguard_6 : am_D y_FF_unguard.2.2.1 6 (.ifCond .ne 5) 3 9 := ⟨by decide +kernel, rfl⟩
theorem d_FF_unguard_9 : am_D y_FF_unguard.2.2.1 9 (.iconst (-1)) 1 10 := ⟨by decide +kernel, rfl⟩
theorem d_FF_unguard_10 : am_D y_FF_unguard.2.2.1 10 (.ireturn) 1 11 := ⟨by decide +kernel, rfl⟩
theorem d_FF_unguard_11 : am_D y_FF_unguard.2.2.1 11 (.aload_n 0) 1 12 := ⟨by decide +kernel, rfl⟩
theorem d_FF_unguard_12 : am_D y_FF_unguard.2.2.1 12 (.getfield 18) 3 15 := ⟨by decide +kernel, rfl⟩
theorem d_FF_unguard_15 : am_D y_FF_unguard.2.2.1 15 (.iload_n 1) 1 16 := ⟨by decide +kernel, rfl⟩
theorem d_FF_unguard_16 : am_D y_FF_unguard.2.2.1 16 (.aaload) 1 17 := ⟨by decide +kernel, rfl⟩
theorem d_FF_unguard_17 : am_D y_FF_unguard.2.2.1 17 (.getfield 112) 3 20 := ⟨by decide +kernel, rfl⟩
theorem d_FF_unguard_20 : am_D y_FF_unguard.2.2.1 20 (.iload_n 2) 1 21 := ⟨by decide +kernel, rfl⟩
theorem d_FF_unguard_21 : am_D y_FF_unguard.2.2.1 21 (.invokevirtual 130) 3 24 := ⟨by decide +kernel, rfl⟩
theorem d_FF_unguard_24 : am_D y_FF_unguard.2.2.1 24 (.checkcast 108) 3 27 := ⟨by decide +kernel, rfl⟩
theorem d_FF_unguard_27 : am_D y_FF_unguard.2.2.1 27 (.getfield 134) 3 30 := ⟨by decide +kernel, rfl⟩
theorem d_FF_unguard_30 : am_D y_FF_unguard.2.2.1 30 (.ireturn) 1 31 := ⟨by decide +kernel, rfl⟩
theorem d_FF_isGuard_0 : am_D y_FF_isGuard.2.2.1 0 (.aload_n 0) 1 1 := ⟨by decide +kernel, rfl⟩
theorem d_FF_isGuard_1 : am_D y_FF_isGuard.2.2.1 1 (.iload_n 1) 1 2 := ⟨by decide +kernel, rfl⟩
theorem d_FF_isGuard_2 : am_D y_FF_isGuard.2.2.1 2 (.invokevirtual 103) 3 5 := ⟨by decide +kernel, rfl⟩
theorem d_FF_isGuard_5 : am_D y_FF_isGuard.2.2.1 5 (.ifCond .eq 27) 3 8 := ⟨by decide +kernel, rfl⟩
theorem d_FF_isGuard_8 : am_D y_FF_isGuard.2.2.1 8 (.iload_n 2) 1 9 := ⟨by decide +kernel, rfl⟩
theorem d_FF_isGuard_9 : am_D y_FF_isGuard.2.2.1 9 (.ifCond .lt 23) 3 12 := ⟨by decide +kernel, rfl⟩
theorem d_FF_isGuard_12 : am_D y_FF_isGuard.2.2.1 12 (.iload_n 2) 1 13 := ⟨by decide +kernel, rfl⟩
theorem d_FF_isGuard_13 : am_D y_FF_isGuard.2.2.1 13 (.aload_n 0) 1 14 := ⟨by decide +kernel, rfl⟩
theorem d_FF_isGuard_14 : am_D y_FF_isGuard.2.2.1 14 (.getfield 18) 3 17 := ⟨by decide +kernel, rfl⟩
theorem d_FF_isGuard_17 : am_D y_FF_isGuard.2.2.1 17 (.iload_n 1) 1 18 := ⟨by decide +kernel, rfl⟩
theorem d_FF_isGuard_18 : am_D y_FF_isGuard.2.2.1 18 (.aaload) 1 19 := ⟨by decide +kernel, rfl⟩
theorem d_FF_isGuard_19 : am_D y_FF_isGuard.2.2.1 19 (.getfield 112) 3 22 := ⟨by decide +kernel, rfl⟩
theorem d_FF_isGuard_22 : am_D y_FF_isGuard.2.2.1 22 (.invokevirtual 116) 3 25 := ⟨by decide +kernel, rfl⟩
theorem d_FF_isGuard_25 : am_D y_FF_isGuard.2.2.1 25 (.if_icmp .ge 7) 3 28 := ⟨by decide +kernel, rfl⟩
theorem d_FF_isGuard_28 : am_D y_FF_isGuard.2.2.1 28 (.iconst 1) 1 29 := ⟨by decide +kernel, rfl⟩
theorem d_FF_isGuard_29 : am_D y_FF_isGuard.2.2.1 29 (.goto 4) 3 32 := ⟨by decide +kernel, rfl⟩
theorem d_FF_isGuard_32 : am_D y_FF_isGuard.2.2.1 32 (.iconst 0) 1 33 := ⟨by decide +kernel, rfl⟩
theorem d_FF_isGuard_33 : am_D y_FF_isGuard.2.2.1 33 (.ireturn) 1 34 := ⟨by decide +kernel, rfl⟩
theorem d_FF_send_0 : am_D y_FF_send.2.2.1 0 (.aload_n 0) 1 1 := ⟨by decide +kernel, rfl⟩
theorem d_FF_send_1 : am_D y_FF_send.2.2.1 1 (.iload_n 1) 1 2 := ⟨by decide +kernel, rfl⟩
theorem d_FF_send_2 : am_D y_FF_send.2.2.1 2 (.invokevirtual 137) 3 5 := ⟨by decide +kernel, rfl⟩
theorem d_FF_send_5 : am_D y_FF_send.2.2.1 5 (.ifCond .eq 16) 3 8 := ⟨by decide +kernel, rfl⟩
theorem d_FF_send_8 : am_D y_FF_send.2.2.1 8 (.aload_n 0) 1 9 := ⟨by decide +kernel, rfl⟩
theorem d_FF_send_9 : am_D y_FF_send.2.2.1 9 (.iload_n 2) 1 10 := ⟨by decide +kernel, rfl⟩
theorem d_FF_send_10 : am_D y_FF_send.2.2.1 10 (.invokevirtual 137) 3 13 := ⟨by decide +kernel, rfl⟩
theorem d_FF_send_13 : am_D y_FF_send.2.2.1 13 (.ifCond .eq 8) 3 16 := ⟨by decide +kernel, rfl⟩
theorem d_FF_send_16 : am_D y_FF_send.2.2.1 16 (.iload_n 1) 1 17 := ⟨by decide +kernel, rfl⟩
theorem d_FF_send_17 : am_D y_FF_send.2.2.1 17 (.iload_n 2) 1 18 := ⟨by decide +kernel, rfl⟩
theorem d_FF_send_18 : am_D y_FF_send.2.2.1 18 (.if_icmp .ne 5) 3 21 := ⟨by decide +kernel, rfl⟩
theorem d_FF_send_21 : am_D y_FF_send.2.2.1 21 (.iconst 0) 1 22 := ⟨by decide +kernel, rfl⟩
theorem d_FF_send_22 : am_D y_FF_send.2.2.1 22 (.ireturn) 1 23 := ⟨by decide +kernel, rfl⟩
theorem d_FF_send_23 : am_D y_FF_send.2.2.1 23 (.aload_n 0) 1 24 := ⟨by decide +kernel, rfl⟩
theorem d_FF_send_24 : am_D y_FF_send.2.2.1 24 (.getfield 28) 3 27 := ⟨by decide +kernel, rfl⟩
theorem d_FF_send_27 : am_D y_FF_send.2.2.1 27 (.iload_n 1) 1 28 := ⟨by decide +kernel, rfl⟩
theorem d_FF_send_28 : am_D y_FF_send.2.2.1 28 (.aaload) 1 29 := ⟨by decide +kernel, rfl⟩
theorem d_FF_send_29 : am_D y_FF_send.2.2.1 29 (.astore 4) 2 31 := ⟨by decide +kernel, rfl⟩
theorem d_FF_send_31 : am_D y_FF_send.2.2.1 31 (.aload_n 0) 1 32 := ⟨by decide +kernel, rfl⟩
theorem d_FF_send_32 : am_D y_FF_send.2.2.1 32 (.getfield 18) 3 35 := ⟨by decide +kernel, rfl⟩
theorem d_FF_send_35 : am_D y_FF_send.2.2.1 35 (.aload 4) 2 37 := ⟨by decide +kernel, rfl⟩
theorem d_FF_send_37 : am_D y_FF_send.2.2.1 37 (.getfield 140) 3 40 := ⟨by decide +kernel, rfl⟩
theorem d_FF_send_40 : am_D y_FF_send.2.2.1 40 (.aaload) 1 41 := ⟨by decide +kernel, rfl⟩
theorem d_FF_send_41 : am_D y_FF_send.2.2.1 41 (.new 143) 3 44 := ⟨by decide +kernel, rfl⟩
theorem d_FF_send_44 : am_D y_FF_send.2.2.1 44 (.dup) 1 45 := ⟨by decide +kernel, rfl⟩
theorem d_FF_send_45 : am_D y_FF_send.2.2.1 45 (.iload_n 1) 1 46 := ⟨by decide +kernel, rfl⟩
theorem d_FF_send_46 : am_D y_FF_send.2.2.1 46 (.iload_n 2) 1 47 := ⟨by decide +kernel, rfl⟩
theorem d_FF_send_47 : am_D y_FF_send.2.2.1 47 (.iload_n 3) 1 48 := ⟨by decide +kernel, rfl⟩
theorem d_FF_send_48 : am_D y_FF_send.2.2.1 48 (.invokespecial 145) 3 51 := ⟨by decide +kernel, rfl⟩
theorem d_FF_send_51 : am_D y_FF_send.2.2.1 51 (.aload 4) 2 53 := ⟨by decide +kernel, rfl⟩
theorem d_FF_send_53 : am_D y_FF_send.2.2.1 53 (.getfield 146) 3 56 := ⟨by decide +kernel, rfl⟩
theorem d_FF_send_56 : am_D y_FF_send.2.2.1 56 (.aload_n 0) 1 57 := ⟨by decide +kernel, rfl⟩
theorem d_FF_send_57 : am_D y_FF_send.2.2.1 57 (.getfield 44) 3 60 := ⟨by decide +kernel, rfl⟩
theorem d_FF_send_60 : am_D y_FF_send.2.2.1 60 (.invokevirtual 149) 3 63 := ⟨by decide +kernel, rfl⟩
theorem d_FF_send_63 : am_D y_FF_send.2.2.1 63 (.iconst 1) 1 64 := ⟨by decide +kernel, rfl⟩
theorem d_FF_send_64 : am_D y_FF_send.2.2.1 64 (.ireturn) 1 65 := ⟨by decide +kernel, rfl⟩
theorem d_FF_isHost_0 : am_D y_FF_isHost.2.2.1 0 (.iload_n 1) 1 1 := ⟨by decide +kernel, rfl⟩
theorem d_FF_isHost_1 : am_D y_FF_isHost.2.2.1 1 (.ifCond .lt 15) 3 4 := ⟨by decide +kernel, rfl⟩
theorem d_FF_isHost_4 : am_D y_FF_isHost.2.2.1 4 (.iload_n 1) 1 5 := ⟨by decide +kernel, rfl⟩
theorem d_FF_isHost_5 : am_D y_FF_isHost.2.2.1 5 (.aload_n 0) 1 6 := ⟨by decide +kernel, rfl⟩
theorem d_FF_isHost_6 : am_D y_FF_isHost.2.2.1 6 (.getfield 41) 3 9 := ⟨by decide +kernel, rfl⟩
theorem d_FF_isHost_9 : am_D y_FF_isHost.2.2.1 9 (.if_icmp .ge 7) 3 12 := ⟨by decide +kernel, rfl⟩
theorem d_FF_isHost_12 : am_D y_FF_isHost.2.2.1 12 (.iconst 1) 1 13 := ⟨by decide +kernel, rfl⟩
theorem d_FF_isHost_13 : am_D y_FF_isHost.2.2.1 13 (.goto 4) 3 16 := ⟨by decide +kernel, rfl⟩
theorem d_FF_isHost_16 : am_D y_FF_isHost.2.2.1 16 (.iconst 0) 1 17 := ⟨by decide +kernel, rfl⟩
theorem d_FF_isHost_17 : am_D y_FF_isHost.2.2.1 17 (.ireturn) 1 18 := ⟨by decide +kernel, rfl⟩
theorem d_Dg_new_0 : am_D y_Dg_new.2.2.1 0 (.aload_n 0) 1 1 := ⟨by decide +kernel, rfl⟩
theorem d_Dg_new_1 : am_D y_Dg_new.2.2.1 1 (.invokespecial 1) 3 4 := ⟨by decide +kernel, rfl⟩
theorem d_Dg_new_4 : am_D y_Dg_new.2.2.1 4 (.aload_n 0) 1 5 := ⟨by decide +kernel, rfl⟩
theorem d_Dg_new_5 : am_D y_Dg_new.2.2.1 5 (.iload_n 1) 1 6 := ⟨by decide +kernel, rfl⟩
theorem d_Dg_new_6 : am_D y_Dg_new.2.2.1 6 (.putfield 7) 3 9 := ⟨by decide +kernel, rfl⟩
theorem d_Dg_new_9 : am_D y_Dg_new.2.2.1 9 (.aload_n 0) 1 10 := ⟨by decide +kernel, rfl⟩
theorem d_Dg_new_10 : am_D y_Dg_new.2.2.1 10 (.iload_n 2) 1 11 := ⟨by decide +kernel, rfl⟩
theorem d_Dg_new_11 : am_D y_Dg_new.2.2.1 11 (.putfield 13) 3 14 := ⟨by decide +kernel, rfl⟩
theorem d_Dg_new_14 : am_D y_Dg_new.2.2.1 14 (.aload_n 0) 1 15 := ⟨by decide +kernel, rfl⟩
theorem d_Dg_new_15 : am_D y_Dg_new.2.2.1 15 (.iload_n 3) 1 16 := ⟨by decide +kernel, rfl⟩
theorem d_Dg_new_16 : am_D y_Dg_new.2.2.1 16 (.putfield 16) 3 19 := ⟨by decide +kernel, rfl⟩
theorem d_Dg_new_19 : am_D y_Dg_new.2.2.1 19 (.return_) 1 20 := ⟨by decide +kernel, rfl⟩
theorem d_Nd_comeIn_0 : am_D y_Nd_comeIn.2.2.1 0 (.iconst 5) 1 1 := ⟨by decide +kernel, rfl⟩
theorem d_Nd_comeIn_1 : am_D y_Nd_comeIn.2.2.1 1 (.istore 4) 2 3 := ⟨by decide +kernel, rfl⟩
theorem d_Nd_comeIn_3 : am_D y_Nd_comeIn.2.2.1 3 (.aload_n 0) 1 4 := ⟨by decide +kernel, rfl⟩
theorem d_Nd_comeIn_4 : am_D y_Nd_comeIn.2.2.1 4 (.aload_n 1) 1 5 := ⟨by decide +kernel, rfl⟩
theorem d_Nd_comeIn_5 : am_D y_Nd_comeIn.2.2.1 5 (.iload_n 2) 1 6 := ⟨by decide +kernel, rfl⟩
theorem d_Nd_comeIn_6 : am_D y_Nd_comeIn.2.2.1 6 (.invokevirtual 85) 3 9 := ⟨by decide +kernel, rfl⟩
theorem d_Nd_comeIn_9 : am_D y_Nd_comeIn.2.2.1 9 (.astore 5) 2 11 := ⟨by decide +kernel, rfl⟩
theorem d_Nd_comeIn_11 : am_D y_Nd_comeIn.2.2.1 11 (.aload 5) 2 13 := ⟨by decide +kernel, rfl⟩
theorem d_Nd_comeIn_13 : am_D y_Nd_comeIn.2.2.1 13 (.ifnull 21) 3 16 := ⟨by decide +kernel, rfl⟩
theorem d_Nd_comeIn_16 : am_D y_Nd_comeIn.2.2.1 16 (.aload 5) 2 18 := ⟨by decide +kernel, rfl⟩
theorem d_Nd_comeIn_18 : am_D y_Nd_comeIn.2.2.1 18 (.dup) 1 19 := ⟨by decide +kernel, rfl⟩
theorem d_Nd_comeIn_19 : am_D y_Nd_comeIn.2.2.1 19 (.getfield 89) 3 22 := ⟨by decide +kernel, rfl⟩
theorem d_Nd_comeIn_22 : am_D y_Nd_comeIn.2.2.1 22 (.iconst 1) 1 23 := ⟨by decide +kernel, rfl⟩
theorem d_Nd_comeIn_23 : am_D y_Nd_comeIn.2.2.1 23 (.iadd) 1 24 := ⟨by decide +kernel, rfl⟩
theorem d_Nd_comeIn_24 : am_D y_Nd_comeIn.2.2.1 24 (.putfield 89) 3 27 := ⟨by decide +kernel, rfl⟩
theorem d_Nd_comeIn_27 : am_D y_Nd_comeIn.2.2.1 27 (.aload 5) 2 29 := ⟨by decide +kernel, rfl⟩
theorem d_Nd_comeIn_29 : am_D y_Nd_comeIn.2.2.1 29 (.getfield 94) 3 32 := ⟨by decide +kernel, rfl⟩
theorem d_Nd_comeIn_32 : am_D y_Nd_comeIn.2.2.1 32 (.istore 4) 2 34 := ⟨by decide +kernel, rfl⟩
theorem d_Nd_comeIn_34 : am_D y_Nd_comeIn.2.2.1 34 (.iload 4) 2 36 := ⟨by decide +kernel, rfl⟩
theorem d_Nd_comeIn_36 : am_D y_Nd_comeIn.2.2.1 36 (.ifCond .lt 26) 3 39 := ⟨by decide +kernel, rfl⟩
theorem d_Nd_comeIn_39 : am_D y_Nd_comeIn.2.2.1 39 (.iload 4) 2 41 := ⟨by decide +kernel, rfl⟩
theorem d_Nd_comeIn_41 : am_D y_Nd_comeIn.2.2.1 41 (.iconst 4) 1 42 := ⟨by decide +kernel, rfl⟩
theorem d_Nd_comeIn_42 : am_D y_Nd_comeIn.2.2.1 42 (.if_icmp .ge 20) 3 45 := ⟨by decide +kernel, rfl⟩
theorem d_Nd_comeIn_45 : am_D y_Nd_comeIn.2.2.1 45 (.aload_n 0) 1 46 := ⟨by decide +kernel, rfl⟩
theorem d_Nd_comeIn_46 : am_D y_Nd_comeIn.2.2.1 46 (.getfield 20) 3 49 := ⟨by decide +kernel, rfl⟩
theorem d_Nd_comeIn_49 : am_D y_Nd_comeIn.2.2.1 49 (.iload 4) 2 51 := ⟨by decide +kernel, rfl⟩
theorem d_Nd_comeIn_51 : am_D y_Nd_comeIn.2.2.1 51 (.aaload) 1 52 := ⟨by decide +kernel, rfl⟩
theorem d_Nd_comeIn_52 : am_D y_Nd_comeIn.2.2.1 52 (.aload_n 1) 1 53 := ⟨by decide +kernel, rfl⟩
theorem d_Nd_comeIn_53 : am_D y_Nd_comeIn.2.2.1 53 (.invokestatic 97) 3 56 := ⟨by decide +kernel, rfl⟩
theorem d_Nd_comeIn_56 : am_D y_Nd_comeIn.2.2.1 56 (.invokevirtual 101) 3 59 := ⟨by decide +kernel, rfl⟩
theorem d_Nd_comeIn_59 : am_D y_Nd_comeIn.2.2.1 59 (.goto 36) 3 62 := ⟨by decide +kernel, rfl⟩
theorem d_Nd_comeIn_62 : am_D y_Nd_comeIn.2.2.1 62 (.iload 4) 2 64 := ⟨by decide +kernel, rfl⟩
theorem d_Nd_comeIn_64 : am_D y_Nd_comeIn.2.2.1 64 (.iconst 5) 1 65 := ⟨by decide +kernel, rfl⟩
theorem d_Nd_comeIn_65 : am_D y_Nd_comeIn.2.2.1 65 (.if_icmp .ne 13) 3 68 := ⟨by decide +kernel, rfl⟩
theorem d_Nd_comeIn_68 : am_D y_Nd_comeIn.2.2.1 68 (.aload_n 0) 1 69 := ⟨by decide +kernel, rfl⟩
theorem d_Nd_comeIn_69 : am_D y_Nd_comeIn.2.2.1 69 (.aload_n 1) 1 70 := ⟨by decide +kernel, rfl⟩
theorem d_Nd_comeIn_70 : am_D y_Nd_comeIn.2.2.1 70 (.iload_n 2) 1 71 := ⟨by decide +kernel, rfl⟩
theorem d_Nd_comeIn_71 : am_D y_Nd_comeIn.2.2.1 71 (.iload_n 3) 1 72 := ⟨by decide +kernel, rfl⟩
theorem d_Nd_comeIn_72 : am_D y_Nd_comeIn.2.2.1 72 (.invokevirtual 105) 3 75 := ⟨by decide +kernel, rfl⟩
theorem d_Nd_comeIn_75 : am_D y_Nd_comeIn.2.2.1 75 (.goto 20) 3 78 := ⟨by decide +kernel, rfl⟩
theorem d_Nd_comeIn_78 : am_D y_Nd_comeIn.2.2.1 78 (.iload 4) 2 80 := ⟨by decide +kernel, rfl⟩
theorem d_Nd_comeIn_80 : am_D y_Nd_comeIn.2.2.1 80 (.bipush 6) 2 82 := ⟨by decide +kernel, rfl⟩
theorem d_Nd_comeIn_82 : am_D y_Nd_comeIn.2.2.1 82 (.if_icmp .ne 13) 3 85 := ⟨by decide +kernel, rfl⟩
theorem d_Nd_comeIn_85 : am_D y_Nd_comeIn.2.2.1 85 (.aload_n 0) 1 86 := ⟨by decide +kernel, rfl⟩
theorem d_Nd_comeIn_86 : am_D y_Nd_comeIn.2.2.1 86 (.iconst 0) 1 87 := ⟨by decide +kernel, rfl⟩
theorem d_Nd_comeIn_87 : am_D y_Nd_comeIn.2.2.1 87 (.iload_n 2) 1 88 := ⟨by decide +kernel, rfl⟩
theorem d_Nd_comeIn_88 : am_D y_Nd_comeIn.2.2.1 88 (.aload_n 1) 1 89 := ⟨by decide +kernel, rfl⟩
theorem d_Nd_comeIn_89 : am_D y_Nd_comeIn.2.2.1 89 (.invokestatic 108) 3 92 := ⟨by decide +kernel, rfl⟩
theorem d_Nd_comeIn_92 : am_D y_Nd_comeIn.2.2.1 92 (.invokevirtual 81) 3 95 := ⟨by decide +kernel, rfl⟩
theorem d_Nd_comeIn_95 : am_D y_Nd_comeIn.2.2.1 95 (.return_) 1 96 := ⟨by decide +kernel, rfl⟩
theorem d_Nd_strongestGuard_0 : am_D y_Nd_strongestGuard.2.2.1 0 (.aconst_null) 1 1 := ⟨by decide +kernel, rfl⟩
theorem d_Nd_strongestGuard_1 : am_D y_Nd_strongestGuard.2.2.1 1 (.astore_n 3) 1 2 := ⟨by decide +kernel, rfl⟩
theorem d_Nd_strongestGuard_2 : am_D y_Nd_strongestGuard.2.2.1 2 (.iconst 0) 1 3 := ⟨by decide +kernel, rfl⟩
theorem d_Nd_strongestGuard_3 : am_D y_Nd_strongestGuard.2.2.1 3 (.istore 4) 2 5 := ⟨by decide +kernel, rfl⟩
theorem d_Nd_strongestGuard_5 : am_D y_Nd_strongestGuard.2.2.1 5 (.iload 4) 2 7 := ⟨by decide +kernel, rfl⟩
theorem d_Nd_strongestGuard_7 : am_D y_Nd_strongestGuard.2.2.1 7 (.aload_n 0) 1 8 := ⟨by decide +kernel, rfl⟩
theorem d_Nd_strongestGuard_8 : am_D y_Nd_strongestGuard.2.2.1 8 (.getfield 28) 3 11 := ⟨by decide +kernel, rfl⟩
theorem d_Nd_strongestGuard_11 : am_D y_Nd_strongestGuard.2.2.1 11 (.invokevirtual 41) 3 14 := ⟨by decide +kernel, rfl⟩
theorem d_Nd_strongestGuard_14 : am_D y_Nd_strongestGuard.2.2.1 14 (.if_icmp .ge 64) 3 17 := ⟨by decide +kernel, rfl⟩
theorem d_Nd_strongestGuard_17 : am_D y_Nd_strongestGuard.2.2.1 17 (.aload_n 0) 1 18 := ⟨by decide +kernel, rfl⟩
theorem d_Nd_strongestGuard_18 : am_D y_Nd_strongestGuard.2.2.1 18 (.getfield 28) 3 21 := ⟨by decide +kernel, rfl⟩
theorem d_Nd_strongestGuard_21 : am_D y_Nd_strongestGuard.2.2.1 21 (.iload 4) 2 23 := ⟨by decide +kernel, rfl⟩
theorem d_Nd_strongestGuard_23 : am_D y_Nd_strongestGuard.2.2.1 23 (.invokevirtual 111) 3 26 := ⟨by decide +kernel, rfl⟩
theorem d_Nd_strongestGuard_26 : am_D y_Nd_strongestGuard.2.2.1 26 (.checkcast 90) 3 29 := ⟨by decide +kernel, rfl⟩
theorem d_Nd_strongestGuard_29 : am_D y_Nd_strongestGuard.2.2.1 29 (.astore 5) 2 31 := ⟨by decide +kernel, rfl⟩
theorem d_Nd_strongestGuard_31 : am_D y_Nd_strongestGuard.2.2.1 31 (.aload_n 3) 1 32 := ⟨by decide +kernel, rfl⟩
theorem d_Nd_strongestGuard_32 : am_D y_Nd_strongestGuard.2.2.1 32 (.ifnull 15) 3 35 := ⟨by decide +kernel, rfl⟩
theorem d_Nd_strongestGuard_35 : am_D y_Nd_strongestGuard.2.2.1 35 (.aload 5) 2 37 := ⟨by decide +kernel, rfl⟩
theorem d_Nd_strongestGuard_37 : am_D y_Nd_strongestGuard.2.2.1 37 (.getfield 115) 3 40 := ⟨by decide +kernel, rfl⟩
theorem d_Nd_strongestGuard_40 : am_D y_Nd_strongestGuard.2.2.1 40 (.aload_n 3) 1 41 := ⟨by decide +kernel, rfl⟩
theorem d_Nd_strongestGuard_41 : am_D y_Nd_strongestGuard.2.2.1 41 (.getfield 115) 3 44 := ⟨by decide +kernel, rfl⟩
theorem d_Nd_strongestGuard_44 : am_D y_Nd_strongestGuard.2.2.1 44 (.if_icmp .le 7) 3 47 := ⟨by decide +kernel, rfl⟩
theorem d_Nd_strongestGuard_47 : am_D y_Nd_strongestGuard.2.2.1 47 (.iconst 1) 1 48 := ⟨by decide +kernel, rfl⟩
theorem d_Nd_strongestGuard_48 : am_D y_Nd_strongestGuard.2.2.1 48 (.goto 4) 3 51 := ⟨by decide +kernel, rfl⟩
theorem d_Nd_strongestGuard_51 : am_D y_Nd_strongestGuard.2.2.1 51 (.iconst 0) 1 52 := ⟨by decide +kernel, rfl⟩
theorem d_Nd_strongestGuard_52 : am_D y_Nd_strongestGuard.2.2.1 52 (.istore 6) 2 54 := ⟨by decide +kernel, rfl⟩
theorem d_Nd_strongestGuard_54 : am_D y_Nd_strongestGuard.2.2.1 54 (.iload 6) 2 56 := ⟨by decide +kernel, rfl⟩
theorem d_Nd_strongestGuard_56 : am_D y_Nd_strongestGuard.2.2.1 56 (.ifCond .eq 16) 3 59 := ⟨by decide +kernel, rfl⟩
theorem d_Nd_strongestGuard_59 : am_D y_Nd_strongestGuard.2.2.1 59 (.aload 5) 2 61 := ⟨by decide +kernel, rfl⟩
theorem d_Nd_strongestGuard_61 : am_D y_Nd_strongestGuard.2.2.1 61 (.aload_n 1) 1 62 := ⟨by decide +kernel, rfl⟩
theorem d_Nd_strongestGuard_62 : am_D y_Nd_strongestGuard.2.2.1 62 (.iload_n 2) 1 63 := ⟨by decide +kernel, rfl⟩
theorem d_Nd_strongestGuard_63 : am_D y_Nd_strongestGuard.2.2.1 63 (.invokevirtual 118) 3 66 := ⟨by decide +kernel, rfl⟩
theorem d_Nd_strongestGuard_66 : am_D y_Nd_strongestGuard.2.2.1 66 (.ifCond .eq 6) 3 69 := ⟨by decide +kernel, rfl⟩
theorem d_Nd_strongestGuard_69 : am_D y_Nd_strongestGuard.2.2.1 69 (.aload 5) 2 71 := ⟨by decide +kernel, rfl⟩
theorem d_Nd_strongestGuard_71 : am_D y_Nd_strongestGuard.2.2.1 71 (.astore_n 3) 1 72 := ⟨by decide +kernel, rfl⟩
theorem d_Nd_strongestGuard_72 : am_D y_Nd_strongestGuard.2.2.1 72 (.iinc 4 1) 3 75 := ⟨by decide +kernel, rfl⟩
theorem d_Nd_strongestGuard_75 : am_D y_Nd_strongestGuard.2.2.1 75 (.goto (-70)) 3 78 := ⟨by decide +kernel, rfl⟩
theorem d_Nd_strongestGuard_78 : am_D y_Nd_strongestGuard.2.2.1 78 (.aload_n 3) 1 79 := ⟨by decide +kernel, rfl⟩
theorem d_Nd_strongestGuard_79 : am_D y_Nd_strongestGuard.2.2.1 79 (.areturn) 1 80 := ⟨by decide +kernel, rfl⟩
theorem d_Gd_matches_0 : am_D y_Gd_matches.2.2.1 0 (.aload_n 0) 1 1 := ⟨by decide +kernel, rfl⟩
theorem d_Gd_matches_1 : am_D y_Gd_matches.2.2.1 1 (.getfield 15) 3 4 := ⟨by decide +kernel, rfl⟩
theorem d_Gd_matches_4 : am_D y_Gd_matches.2.2.1 4 (.bipush 7) 2 6 := ⟨by decide +kernel, rfl⟩
theorem d_Gd_matches_6 : am_D y_Gd_matches.2.2.1 6 (.iand) 1 7 := ⟨by decide +kernel, rfl⟩
theorem d_Gd_matches_7 : am_D y_Gd_matches.2.2.1 7 (.iload_n 2) 1 8 := ⟨by decide +kernel, rfl⟩
theorem d_Gd_matches_8 : am_D y_Gd_matches.2.2.1 8 (.invokestatic 24) 3 11 := ⟨by decide +kernel, rfl⟩
theorem d_Gd_matches_11 : am_D y_Gd_matches.2.2.1 11 (.ifCond .eq 46) 3 14 := ⟨by decide +kernel, rfl⟩
theorem d_Gd_matches_14 : am_D y_Gd_matches.2.2.1 14 (.aload_n 0) 1 15 := ⟨by decide +kernel, rfl⟩
theorem d_Gd_matches_15 : am_D y_Gd_matches.2.2.1 15 (.getfield 15) 3 18 := ⟨by decide +kernel, rfl⟩
theorem d_Gd_matches_18 : am_D y_Gd_matches.2.2.1 18 (.iconst 3) 1 19 := ⟨by decide +kernel, rfl⟩
theorem d_Gd_matches_19 : am_D y_Gd_matches.2.2.1 19 (.ishr) 1 20 := ⟨by decide +kernel, rfl⟩
theorem d_Gd_matches_20 : am_D y_Gd_matches.2.2.1 20 (.bipush 7) 2 22 := ⟨by decide +kernel, rfl⟩
theorem d_Gd_matches_22 : am_D y_Gd_matches.2.2.1 22 (.iand) 1 23 := ⟨by decide +kernel, rfl⟩
theorem d_Gd_matches_23 : am_D y_Gd_matches.2.2.1 23 (.aload_n 1) 1 24 := ⟨by decide +kernel, rfl⟩
theorem d_Gd_matches_24 : am_D y_Gd_matches.2.2.1 24 (.getfield 28) 3 27 := ⟨by decide +kernel, rfl⟩
theorem d_Gd_matches_27 : am_D y_Gd_matches.2.2.1 27 (.invokestatic 24) 3 30 := ⟨by decide +kernel, rfl⟩
theorem d_Gd_matches_30 : am_D y_Gd_matches.2.2.1 30 (.ifCond .eq 27) 3 33 := ⟨by decide +kernel, rfl⟩
theorem d_Gd_matches_33 : am_D y_Gd_matches.2.2.1 33 (.aload_n 0) 1 34 := ⟨by decide +kernel, rfl⟩
theorem d_Gd_matches_34 : am_D y_Gd_matches.2.2.1 34 (.getfield 15) 3 37 := ⟨by decide +kernel, rfl⟩
theorem d_Gd_matches_37 : am_D y_Gd_matches.2.2.1 37 (.bipush 6) 2 39 := ⟨by decide +kernel, rfl⟩
theorem d_Gd_matches_39 : am_D y_Gd_matches.2.2.1 39 (.ishr) 1 40 := ⟨by decide +kernel, rfl⟩
theorem d_Gd_matches_40 : am_D y_Gd_matches.2.2.1 40 (.bipush 7) 2 42 := ⟨by decide +kernel, rfl⟩
theorem d_Gd_matches_42 : am_D y_Gd_matches.2.2.1 42 (.iand) 1 43 := ⟨by decide +kernel, rfl⟩
theorem d_Gd_matches_43 : am_D y_Gd_matches.2.2.1 43 (.aload_n 1) 1 44 := ⟨by decide +kernel, rfl⟩
theorem d_Gd_matches_44 : am_D y_Gd_matches.2.2.1 44 (.getfield 33) 3 47 := ⟨by decide +kernel, rfl⟩
theorem d_Gd_matches_47 : am_D y_Gd_matches.2.2.1 47 (.invokestatic 24) 3 50 := ⟨by decide +kernel, rfl⟩
theorem d_Gd_matches_50 : am_D y_Gd_matches.2.2.1 50 (.ifCond .eq 7) 3 53 := ⟨by decide +kernel, rfl⟩
theorem d_Gd_matches_53 : am_D y_Gd_matches.2.2.1 53 (.iconst 1) 1 54 := ⟨by decide +kernel, rfl⟩
theorem d_Gd_matches_54 : am_D y_Gd_matches.2.2.1 54 (.goto 4) 3 57 := ⟨by decide +kernel, rfl⟩
theorem d_Gd_matches_57 : am_D y_Gd_matches.2.2.1 57 (.iconst 0) 1 58 := ⟨by decide +kernel, rfl⟩
theorem d_Gd_matches_58 : am_D y_Gd_matches.2.2.1 58 (.ireturn) 1 59 := ⟨by decide +kernel, rfl⟩
theorem d_Gd_fits_0 : am_D y_Gd_fits.2.2.1 0 (.iload_n 0) 1 1 := ⟨by decide +kernel, rfl⟩
theorem d_Gd_fits_1 : am_D y_Gd_fits.2.2.1 1 (.ifCond .eq 10) 3 4 := ⟨by decide +kernel, rfl⟩
theorem d_Gd_fits_4 : am_D y_Gd_fits.2.2.1 4 (.iload_n 0) 1 5 := ⟨by decide +kernel, rfl⟩
theorem d_Gd_fits_5 : am_D y_Gd_fits.2.2.1 5 (.iload_n 1) 1 6 := ⟨by decide +kernel, rfl⟩
theorem d_Gd_fits_6 : am_D y_Gd_fits.2.2.1 6 (.iconst 1) 1 7 := ⟨by decide +kernel, rfl⟩
theorem d_Gd_fits_7 : am_D y_Gd_fits.2.2.1 7 (.iadd) 1 8 := ⟨by decide +kernel, rfl⟩
theorem d_Gd_fits_8 : am_D y_Gd_fits.2.2.1 8 (.if_icmp .ne 7) 3 11 := ⟨by decide +kernel, rfl⟩
theorem d_Gd_fits_11 : am_D y_Gd_fits.2.2.1 11 (.iconst 1) 1 12 := ⟨by decide +kernel, rfl⟩
theorem d_Gd_fits_12 : am_D y_Gd_fits.2.2.1 12 (.goto 4) 3 15 := ⟨by decide +kernel, rfl⟩
theorem d_Gd_fits_15 : am_D y_Gd_fits.2.2.1 15 (.iconst 0) 1 16 := ⟨by decide +kernel, rfl⟩
theorem d_Gd_fits_16 : am_D y_Gd_fits.2.2.1 16 (.ireturn) 1 17 := ⟨by decide +kernel, rfl⟩
theorem d_Fr_ofDatagram_0 : am_D y_Fr_ofDatagram.2.2.1 0 (.new 10) 3 3 := ⟨by decide +kernel, rfl⟩
theorem d_Fr_ofDatagram_3 : am_D y_Fr_ofDatagram.2.2.1 3 (.dup) 1 4 := ⟨by decide +kernel, rfl⟩
theorem d_Fr_ofDatagram_4 : am_D y_Fr_ofDatagram.2.2.1 4 (.aload_n 0) 1 5 := ⟨by decide +kernel, rfl⟩
theorem d_Fr_ofDatagram_5 : am_D y_Fr_ofDatagram.2.2.1 5 (.iconst (-1)) 1 6 := ⟨by decide +kernel, rfl⟩
theorem d_Fr_ofDatagram_6 : am_D y_Fr_ofDatagram.2.2.1 6 (.invokespecial 19) 3 9 := ⟨by decide +kernel, rfl⟩
theorem d_Fr_ofDatagram_9 : am_D y_Fr_ofDatagram.2.2.1 9 (.areturn) 1 10 := ⟨by decide +kernel, rfl⟩
theorem d_Fr_new_0 : am_D y_Fr_new.2.2.1 0 (.aload_n 0) 1 1 := ⟨by decide +kernel, rfl⟩
theorem d_Fr_new_1 : am_D y_Fr_new.2.2.1 1 (.invokespecial 3) 3 4 := ⟨by decide +kernel, rfl⟩
theorem d_Fr_new_4 : am_D y_Fr_new.2.2.1 4 (.aload_n 0) 1 5 := ⟨by decide +kernel, rfl⟩
theorem d_Fr_new_5 : am_D y_Fr_new.2.2.1 5 (.aload_n 1) 1 6 := ⟨by decide +kernel, rfl⟩
theorem d_Fr_new_6 : am_D y_Fr_new.2.2.1 6 (.putfield 9) 3 9 := ⟨by decide +kernel, rfl⟩
theorem d_Fr_new_9 : am_D y_Fr_new.2.2.1 9 (.aload_n 0) 1 10 := ⟨by decide +kernel, rfl⟩
theorem d_Fr_new_10 : am_D y_Fr_new.2.2.1 10 (.iload_n 2) 1 11 := ⟨by decide +kernel, rfl⟩
theorem d_Fr_new_11 : am_D y_Fr_new.2.2.1 11 (.putfield 15) 3 14 := ⟨by decide +kernel, rfl⟩
theorem d_Fr_new_14 : am_D y_Fr_new.2.2.1 14 (.return_) 1 15 := ⟨by decide +kernel, rfl⟩
theorem d_Pt_sendOut_0 : am_D y_Pt_sendOut.2.2.1 0 (.aload_n 0) 1 1 := ⟨by decide +kernel, rfl⟩
theorem d_Pt_sendOut_1 : am_D y_Pt_sendOut.2.2.1 1 (.getfield 18) 3 4 := ⟨by decide +kernel, rfl⟩
theorem d_Pt_sendOut_4 : am_D y_Pt_sendOut.2.2.1 4 (.ifnull 41) 3 7 := ⟨by decide +kernel, rfl⟩
theorem d_Pt_sendOut_7 : am_D y_Pt_sendOut.2.2.1 7 (.aload_n 1) 1 8 := ⟨by decide +kernel, rfl⟩
theorem d_Pt_sendOut_8 : am_D y_Pt_sendOut.2.2.1 8 (.getfield 30) 3 11 := ⟨by decide +kernel, rfl⟩
theorem d_Pt_sendOut_11 : am_D y_Pt_sendOut.2.2.1 11 (.ifnull 62) 3 14 := ⟨by decide +kernel, rfl⟩
theorem d_Pt_sendOut_14 : am_D y_Pt_sendOut.2.2.1 14 (.aload_n 1) 1 15 := ⟨by decide +kernel, rfl⟩
theorem d_Pt_sendOut_15 : am_D y_Pt_sendOut.2.2.1 15 (.getfield 30) 3 18 := ⟨by decide +kernel, rfl⟩
theorem d_Pt_sendOut_18 : am_D y_Pt_sendOut.2.2.1 18 (.getfield 36) 3 21 := ⟨by decide +kernel, rfl⟩
theorem d_Pt_sendOut_21 : am_D y_Pt_sendOut.2.2.1 21 (.aload_n 0) 1 22 := ⟨by decide +kernel, rfl⟩
theorem d_Pt_sendOut_22 : am_D y_Pt_sendOut.2.2.1 22 (.getfield 18) 3 25 := ⟨by decide +kernel, rfl⟩
theorem d_Pt_sendOut_25 : am_D y_Pt_sendOut.2.2.1 25 (.getfield 41) 3 28 := ⟨by decide +kernel, rfl⟩
theorem d_Pt_sendOut_28 : am_D y_Pt_sendOut.2.2.1 28 (.if_icmp .ne 45) 3 31 := ⟨by decide +kernel, rfl⟩
theorem d_Pt_sendOut_31 : am_D y_Pt_sendOut.2.2.1 31 (.aload_n 0) 1 32 := ⟨by decide +kernel, rfl⟩
theorem d_Pt_sendOut_32 : am_D y_Pt_sendOut.2.2.1 32 (.getfield 18) 3 35 := ⟨by decide +kernel, rfl⟩
theorem d_Pt_sendOut_35 : am_D y_Pt_sendOut.2.2.1 35 (.aload_n 1) 1 36 := ⟨by decide +kernel, rfl⟩
theorem d_Pt_sendOut_36 : am_D y_Pt_sendOut.2.2.1 36 (.getfield 30) 3 39 := ⟨by decide +kernel, rfl⟩
theorem d_Pt_sendOut_39 : am_D y_Pt_sendOut.2.2.1 39 (.invokevirtual 46) 3 42 := ⟨by decide +kernel, rfl⟩
theorem d_Pt_sendOut_42 : am_D y_Pt_sendOut.2.2.1 42 (.goto 31) 3 45 := ⟨by decide +kernel, rfl⟩
theorem d_Pt_sendOut_45 : am_D y_Pt_sendOut.2.2.1 45 (.aload_n 0) 1 46 := ⟨by decide +kernel, rfl⟩
theorem d_Pt_sendOut_46 : am_D y_Pt_sendOut.2.2.1 46 (.getfield 26) 3 49 := ⟨by decide +kernel, rfl⟩
theorem d_Pt_sendOut_49 : am_D y_Pt_sendOut.2.2.1 49 (.ifCond .eq 24) 3 52 := ⟨by decide +kernel, rfl⟩
theorem d_Pt_sendOut_52 : am_D y_Pt_sendOut.2.2.1 52 (.aload_n 0) 1 53 := ⟨by decide +kernel, rfl⟩
theorem d_Pt_sendOut_53 : am_D y_Pt_sendOut.2.2.1 53 (.getfield 12) 3 56 := ⟨by decide +kernel, rfl⟩
theorem d_Pt_sendOut_56 : am_D y_Pt_sendOut.2.2.1 56 (.invokevirtual 50) 3 59 := ⟨by decide +kernel, rfl⟩
theorem d_Pt_sendOut_59 : am_D y_Pt_sendOut.2.2.1 59 (.bipush 6) 2 61 := ⟨by decide +kernel, rfl⟩
theorem d_Pt_sendOut_61 : am_D y_Pt_sendOut.2.2.1 61 (.if_icmp .ge 12) 3 64 := ⟨by decide +kernel, rfl⟩
theorem d_Pt_sendOut_64 : am_D y_Pt_sendOut.2.2.1 64 (.aload_n 0) 1 65 := ⟨by decide +kernel, rfl⟩
theorem d_Pt_sendOut_65 : am_D y_Pt_sendOut.2.2.1 65 (.getfield 12) 3 68 := ⟨by decide +kernel, rfl⟩
theorem d_Pt_sendOut_68 : am_D y_Pt_sendOut.2.2.1 68 (.aload_n 1) 1 69 := ⟨by decide +kernel, rfl⟩
theorem d_Pt_sendOut_69 : am_D y_Pt_sendOut.2.2.1 69 (.invokevirtual 54) 3 72 := ⟨by decide +kernel, rfl⟩
theorem d_Pt_sendOut_72 : am_D y_Pt_sendOut.2.2.1 72 (.pop) 1 73 := ⟨by decide +kernel, rfl⟩
theorem d_Pt_sendOut_73 : am_D y_Pt_sendOut.2.2.1 73 (.return_) 1 74 := ⟨by decide +kernel, rfl⟩
theorem d_Ho_take_0 : am_D y_Ho_take.2.2.1 0 (.aload_n 0) 1 1 := ⟨by decide +kernel, rfl⟩
theorem d_Ho_take_1 : am_D y_Ho_take.2.2.1 1 (.dup) 1 2 := ⟨by decide +kernel, rfl⟩
theorem d_Ho_take_2 : am_D y_Ho_take.2.2.1 2 (.getfield 21) 3 5 := ⟨by decide +kernel, rfl⟩
theorem d_Ho_take_5 : am_D y_Ho_take.2.2.1 5 (.iconst 1) 1 6 := ⟨by decide +kernel, rfl⟩
theorem d_Ho_take_6 : am_D y_Ho_take.2.2.1 6 (.iadd) 1 7 := ⟨by decide +kernel, rfl⟩
theorem d_Ho_take_7 : am_D y_Ho_take.2.2.1 7 (.putfield 21) 3 10 := ⟨by decide +kernel, rfl⟩
theorem d_Ho_take_10 : am_D y_Ho_take.2.2.1 10 (.aload_n 0) 1 11 := ⟨by decide +kernel, rfl⟩
theorem d_Ho_take_11 : am_D y_Ho_take.2.2.1 11 (.aload_n 1) 1 12 := ⟨by decide +kernel, rfl⟩
theorem d_Ho_take_12 : am_D y_Ho_take.2.2.1 12 (.getfield 30) 3 15 := ⟨by decide +kernel, rfl⟩
theorem d_Ho_take_15 : am_D y_Ho_take.2.2.1 15 (.putfield 24) 3 18 := ⟨by decide +kernel, rfl⟩
theorem d_Ho_take_18 : am_D y_Ho_take.2.2.1 18 (.aload_n 0) 1 19 := ⟨by decide +kernel, rfl⟩
theorem d_Ho_take_19 : am_D y_Ho_take.2.2.1 19 (.aload_n 1) 1 20 := ⟨by decide +kernel, rfl⟩
theorem d_Ho_take_20 : am_D y_Ho_take.2.2.1 20 (.getfield 33) 3 23 := ⟨by decide +kernel, rfl⟩
theorem d_Ho_take_23 : am_D y_Ho_take.2.2.1 23 (.putfield 27) 3 26 := ⟨by decide +kernel, rfl⟩
theorem d_Ho_take_26 : am_D y_Ho_take.2.2.1 26 (.return_) 1 27 := ⟨by decide +kernel, rfl⟩
theorem d_Nd_comeToRules_0 : am_D y_Nd_comeToRules.2.2.1 0 (.aload_n 0) 1 1 := ⟨by decide +kernel, rfl⟩
theorem d_Nd_comeToRules_1 : am_D y_Nd_comeToRules.2.2.1 1 (.aload_n 1) 1 2 := ⟨by decide +kernel, rfl⟩
theorem d_Nd_comeToRules_2 : am_D y_Nd_comeToRules.2.2.1 2 (.getfield 122) 3 5 := ⟨by decide +kernel, rfl⟩
theorem d_Nd_comeToRules_5 : am_D y_Nd_comeToRules.2.2.1 5 (.aload_n 1) 1 6 := ⟨by decide +kernel, rfl⟩
theorem d_Nd_comeToRules_6 : am_D y_Nd_comeToRules.2.2.1 6 (.getfield 127) 3 9 := ⟨by decide +kernel, rfl⟩
theorem d_Nd_comeToRules_9 : am_D y_Nd_comeToRules.2.2.1 9 (.invokevirtual 130) 3 12 := ⟨by decide +kernel, rfl⟩
theorem d_Nd_comeToRules_12 : am_D y_Nd_comeToRules.2.2.1 12 (.istore 4) 2 14 := ⟨by decide +kernel, rfl⟩
theorem d_Nd_comeToRules_14 : am_D y_Nd_comeToRules.2.2.1 14 (.iload 4) 2 16 := ⟨by decide +kernel, rfl⟩
theorem d_Nd_comeToRules_16 : am_D y_Nd_comeToRules.2.2.1 16 (.iconst (-1)) 1 17 := ⟨by decide +kernel, rfl⟩
theorem d_Nd_comeToRules_17 : am_D y_Nd_comeToRules.2.2.1 17 (.if_icmp .ne 14) 3 20 := ⟨by decide +kernel, rfl⟩
theorem d_Nd_comeToRules_20 : am_D y_Nd_comeToRules.2.2.1 20 (.aload_n 0) 1 21 := ⟨by decide +kernel, rfl⟩
theorem d_Nd_comeToRules_21 : am_D y_Nd_comeToRules.2.2.1 21 (.iconst 0) 1 22 := ⟨by decide +kernel, rfl⟩
theorem d_Nd_comeToRules_22 : am_D y_Nd_comeToRules.2.2.1 22 (.iload_n 2) 1 23 := ⟨by decide +kernel, rfl⟩
theorem d_Nd_comeToRules_23 : am_D y_Nd_comeToRules.2.2.1 23 (.aload_n 1) 1 24 := ⟨by decide +kernel, rfl⟩
theorem d_Nd_comeToRules_24 : am_D y_Nd_comeToRules.2.2.1 24 (.invokestatic 108) 3 27 := ⟨by decide +kernel, rfl⟩
theorem d_Nd_comeToRules_27 : am_D y_Nd_comeToRules.2.2.1 27 (.invokevirtual 81) 3 30 := ⟨by decide +kernel, rfl⟩
theorem d_Nd_comeToRules_30 : am_D y_Nd_comeToRules.2.2.1 30 (.return_) 1 31 := ⟨by decide +kernel, rfl⟩
theorem d_Nd_comeToRules_31 : am_D y_Nd_comeToRules.2.2.1 31 (.aload_n 0) 1 32 := ⟨by decide +kernel, rfl⟩
theorem d_Nd_comeToRules_32 : am_D y_Nd_comeToRules.2.2.1 32 (.getfield 32) 3 35 := ⟨by decide +kernel, rfl⟩
theorem d_Nd_comeToRules_35 : am_D y_Nd_comeToRules.2.2.1 35 (.iload 4) 2 37 := ⟨by decide +kernel, rfl⟩
theorem d_Nd_comeToRules_37 : am_D y_Nd_comeToRules.2.2.1 37 (.invokevirtual 111) 3 40 := ⟨by decide +kernel, rfl⟩
theorem d_Nd_comeToRules_40 : am_D y_Nd_comeToRules.2.2.1 40 (.checkcast 134) 3 43 := ⟨by decide +kernel, rfl⟩
theorem d_Nd_comeToRules_43 : am_D y_Nd_comeToRules.2.2.1 43 (.astore 5) 2 45 := ⟨by decide +kernel, rfl⟩
theorem d_Nd_comeToRules_45 : am_D y_Nd_comeToRules.2.2.1 45 (.aload 5) 2 47 := ⟨by decide +kernel, rfl⟩
theorem d_Nd_comeToRules_47 : am_D y_Nd_comeToRules.2.2.1 47 (.dup) 1 48 := ⟨by decide +kernel, rfl⟩
theorem d_Nd_comeToRules_48 : am_D y_Nd_comeToRules.2.2.1 48 (.getfield 136) 3 51 := ⟨by decide +kernel, rfl⟩
theorem d_Nd_comeToRules_51 : am_D y_Nd_comeToRules.2.2.1 51 (.iconst 1) 1 52 := ⟨by decide +kernel, rfl⟩
theorem d_Nd_comeToRules_52 : am_D y_Nd_comeToRules.2.2.1 52 (.iadd) 1 53 := ⟨by decide +kernel, rfl⟩
theorem d_Nd_comeToRules_53 : am_D y_Nd_comeToRules.2.2.1 53 (.putfield 136) 3 56 := ⟨by decide +kernel, rfl⟩
theorem d_Nd_comeToRules_56 : am_D y_Nd_comeToRules.2.2.1 56 (.aload 5) 2 58 := ⟨by decide +kernel, rfl⟩
theorem d_Nd_comeToRules_58 : am_D y_Nd_comeToRules.2.2.1 58 (.iload_n 3) 1 59 := ⟨by decide +kernel, rfl⟩
theorem d_Nd_comeToRules_59 : am_D y_Nd_comeToRules.2.2.1 59 (.putfield 139) 3 62 := ⟨by decide +kernel, rfl⟩
theorem d_Nd_comeToRules_62 : am_D y_Nd_comeToRules.2.2.1 62 (.aload_n 0) 1 63 := ⟨by decide +kernel, rfl⟩
theorem d_Nd_comeToRules_63 : am_D y_Nd_comeToRules.2.2.1 63 (.getfield 20) 3 66 := ⟨by decide +kernel, rfl⟩
theorem d_Nd_comeToRules_66 : am_D y_Nd_comeToRules.2.2.1 66 (.aload 5) 2 68 := ⟨by decide +kernel, rfl⟩
theorem d_Nd_comeToRules_68 : am_D y_Nd_comeToRules.2.2.1 68 (.getfield 142) 3 71 := ⟨by decide +kernel, rfl⟩
theorem d_Nd_comeToRules_71 : am_D y_Nd_comeToRules.2.2.1 71 (.aaload) 1 72 := ⟨by decide +kernel, rfl⟩
theorem d_Nd_comeToRules_72 : am_D y_Nd_comeToRules.2.2.1 72 (.aload_n 1) 1 73 := ⟨by decide +kernel, rfl⟩
theorem d_Nd_comeToRules_73 : am_D y_Nd_comeToRules.2.2.1 73 (.invokestatic 97) 3 76 := ⟨by decide +kernel, rfl⟩
theorem d_Nd_comeToRules_76 : am_D y_Nd_comeToRules.2.2.1 76 (.invokevirtual 101) 3 79 := ⟨by decide +kernel, rfl⟩
theorem d_Nd_comeToRules_79 : am_D y_Nd_comeToRules.2.2.1 79 (.return_) 1 80 := ⟨by decide +kernel, rfl⟩
theorem d_Nd_ruleIndex_0 : am_D y_Nd_ruleIndex.2.2.1 0 (.iconst 0) 1 1 := ⟨by decide +kernel, rfl⟩
theorem d_Nd_ruleIndex_1 : am_D y_Nd_ruleIndex.2.2.1 1 (.istore_n 3) 1 2 := ⟨by decide +kernel, rfl⟩
theorem d_Nd_ruleIndex_2 : am_D y_Nd_ruleIndex.2.2.1 2 (.iload_n 3) 1 3 := ⟨by decide +kernel, rfl⟩
theorem d_Nd_ruleIndex_3 : am_D y_Nd_ruleIndex.2.2.1 3 (.aload_n 0) 1 4 := ⟨by decide +kernel, rfl⟩
theorem d_Nd_ruleIndex_4 : am_D y_Nd_ruleIndex.2.2.1 4 (.getfield 32) 3 7 := ⟨by decide +kernel, rfl⟩
theorem d_Nd_ruleIndex_7 : am_D y_Nd_ruleIndex.2.2.1 7 (.invokevirtual 41) 3 10 := ⟨by decide +kernel, rfl⟩
theorem d_Nd_ruleIndex_10 : am_D y_Nd_ruleIndex.2.2.1 10 (.if_icmp .ge 42) 3 13 := ⟨by decide +kernel, rfl⟩
theorem d_Nd_ruleIndex_13 : am_D y_Nd_ruleIndex.2.2.1 13 (.aload_n 0) 1 14 := ⟨by decide +kernel, rfl⟩
theorem d_Nd_ruleIndex_14 : am_D y_Nd_ruleIndex.2.2.1 14 (.getfield 32) 3 17 := ⟨by decide +kernel, rfl⟩
theorem d_Nd_ruleIndex_17 : am_D y_Nd_ruleIndex.2.2.1 17 (.iload_n 3) 1 18 := ⟨by decide +kernel, rfl⟩
theorem d_Nd_ruleIndex_18 : am_D y_Nd_ruleIndex.2.2.1 18 (.invokevirtual 111) 3 21 := ⟨by decide +kernel, rfl⟩
theorem d_Nd_ruleIndex_21 : am_D y_Nd_ruleIndex.2.2.1 21 (.checkcast 134) 3 24 := ⟨by decide +kernel, rfl⟩
theorem d_Nd_ruleIndex_24 : am_D y_Nd_ruleIndex.2.2.1 24 (.astore 4) 2 26 := ⟨by decide +kernel, rfl⟩
theorem d_Nd_ruleIndex_26 : am_D y_Nd_ruleIndex.2.2.1 26 (.aload 4) 2 28 := ⟨by decide +kernel, rfl⟩
theorem d_Nd_ruleIndex_28 : am_D y_Nd_ruleIndex.2.2.1 28 (.getfield 145) 3 31 := ⟨by decide +kernel, rfl⟩
theorem d_Nd_ruleIndex_31 : am_D y_Nd_ruleIndex.2.2.1 31 (.iload_n 1) 1 32 := ⟨by decide +kernel, rfl⟩
theorem d_Nd_ruleIndex_32 : am_D y_Nd_ruleIndex.2.2.1 32 (.if_icmp .ne 14) 3 35 := ⟨by decide +kernel, rfl⟩
theorem d_Nd_ruleIndex_35 : am_D y_Nd_ruleIndex.2.2.1 35 (.aload 4) 2 37 := ⟨by decide +kernel, rfl⟩
theorem d_Nd_ruleIndex_37 : am_D y_Nd_ruleIndex.2.2.1 37 (.getfield 146) 3 40 := ⟨by decide +kernel, rfl⟩
theorem d_Nd_ruleIndex_40 : am_D y_Nd_ruleIndex.2.2.1 40 (.iload_n 2) 1 41 := ⟨by decide +kernel, rfl⟩
theorem d_Nd_ruleIndex_41 : am_D y_Nd_ruleIndex.2.2.1 41 (.if_icmp .ne 5) 3 44 := ⟨by decide +kernel, rfl⟩
theorem d_Nd_ruleIndex_44 : am_D y_Nd_ruleIndex.2.2.1 44 (.iload_n 3) 1 45 := ⟨by decide +kernel, rfl⟩
theorem d_Nd_ruleIndex_45 : am_D y_Nd_ruleIndex.2.2.1 45 (.ireturn) 1 46 := ⟨by decide +kernel, rfl⟩
theorem d_Nd_ruleIndex_46 : am_D y_Nd_ruleIndex.2.2.1 46 (.iinc 3 1) 3 49 := ⟨by decide +kernel, rfl⟩
theorem d_Nd_ruleIndex_49 : am_D y_Nd_ruleIndex.2.2.1 49 (.goto (-47)) 3 52 := ⟨by decide +kernel, rfl⟩
theorem d_Nd_ruleIndex_52 : am_D y_Nd_ruleIndex.2.2.1 52 (.iconst (-1)) 1 53 := ⟨by decide +kernel, rfl⟩
theorem d_Nd_ruleIndex_53 : am_D y_Nd_ruleIndex.2.2.1 53 (.ireturn) 1 54 := ⟨by decide +kernel, rfl⟩
theorem d_Ms_ofDatagram_0 : am_D y_Ms_ofDatagram.2.2.1 0 (.new 10) 3 3 := ⟨by decide +kernel, rfl⟩
theorem d_Ms_ofDatagram_3 : am_D y_Ms_ofDatagram.2.2.1 3 (.dup) 1 4 := ⟨by decide +kernel, rfl⟩
theorem d_Ms_ofDatagram_4 : am_D y_Ms_ofDatagram.2.2.1 4 (.iload_n 0) 1 5 := ⟨by decide +kernel, rfl⟩
theorem d_Ms_ofDatagram_5 : am_D y_Ms_ofDatagram.2.2.1 5 (.iload_n 1) 1 6 := ⟨by decide +kernel, rfl⟩
theorem d_Ms_ofDatagram_6 : am_D y_Ms_ofDatagram.2.2.1 6 (.aload_n 2) 1 7 := ⟨by decide +kernel, rfl⟩
theorem d_Ms_ofDatagram_7 : am_D y_Ms_ofDatagram.2.2.1 7 (.getfield 30) 3 10 := ⟨by decide +kernel, rfl⟩
theorem d_Ms_ofDatagram_10 : am_D y_Ms_ofDatagram.2.2.1 10 (.aload_n 2) 1 11 := ⟨by decide +kernel, rfl⟩
theorem d_Ms_ofDatagram_11 : am_D y_Ms_ofDatagram.2.2.1 11 (.getfield 33) 3 14 := ⟨by decide +kernel, rfl⟩
theorem d_Ms_ofDatagram_14 : am_D y_Ms_ofDatagram.2.2.1 14 (.aload_n 2) 1 15 := ⟨by decide +kernel, rfl⟩
theorem d_Ms_ofDatagram_15 : am_D y_Ms_ofDatagram.2.2.1 15 (.getfield 34) 3 18 := ⟨by decide +kernel, rfl⟩
theorem d_Ms_ofDatagram_18 : am_D y_Ms_ofDatagram.2.2.1 18 (.invokespecial 27) 3 21 := ⟨by decide +kernel, rfl⟩
theorem d_Ms_ofDatagram_21 : am_D y_Ms_ofDatagram.2.2.1 21 (.areturn) 1 22 := ⟨by decide +kernel, rfl⟩
theorem d_Nd_addIfOpen_0 : am_D y_Nd_addIfOpen.2.2.1 0 (.aload_n 0) 1 1 := ⟨by decide +kernel, rfl⟩
theorem d_Nd_addIfOpen_1 : am_D y_Nd_addIfOpen.2.2.1 1 (.getfield 38) 3 4 := ⟨by decide +kernel, rfl⟩
theorem d_Nd_addIfOpen_4 : am_D y_Nd_addIfOpen.2.2.1 4 (.invokevirtual 41) 3 7 := ⟨by decide +kernel, rfl⟩
theorem d_Nd_addIfOpen_7 : am_D y_Nd_addIfOpen.2.2.1 7 (.bipush 8) 2 9 := ⟨by decide +kernel, rfl⟩
theorem d_Nd_addIfOpen_9 : am_D y_Nd_addIfOpen.2.2.1 9 (.if_icmp .ge 12) 3 12 := ⟨by decide +kernel, rfl⟩
theorem d_Nd_addIfOpen_12 : am_D y_Nd_addIfOpen.2.2.1 12 (.aload_n 0) 1 13 := ⟨by decide +kernel, rfl⟩
theorem d_Nd_addIfOpen_13 : am_D y_Nd_addIfOpen.2.2.1 13 (.getfield 38) 3 16 := ⟨by decide +kernel, rfl⟩
theorem d_Nd_addIfOpen_16 : am_D y_Nd_addIfOpen.2.2.1 16 (.aload_n 1) 1 17 := ⟨by decide +kernel, rfl⟩
theorem d_Nd_addIfOpen_17 : am_D y_Nd_addIfOpen.2.2.1 17 (.invokevirtual 61) 3 20 := ⟨by decide +kernel, rfl⟩
theorem d_Nd_addIfOpen_20 : am_D y_Nd_addIfOpen.2.2.1 20 (.pop) 1 21 := ⟨by decide +kernel, rfl⟩
theorem d_Nd_addIfOpen_21 : am_D y_Nd_addIfOpen.2.2.1 21 (.return_) 1 22 := ⟨by decide +kernel, rfl⟩
theorem d_FF_carry_0 : am_D y_FF_carry.2.2.1 0 (.aload_n 0) 1 1 := ⟨by decide +kernel, rfl⟩
theorem d_FF_carry_1 : am_D y_FF_carry.2.2.1 1 (.iload_n 1) 1 2 := ⟨by decide +kernel, rfl⟩
theorem d_FF_carry_2 : am_D y_FF_carry.2.2.1 2 (.iload_n 2) 1 3 := ⟨by decide +kernel, rfl⟩
theorem d_FF_carry_3 : am_D y_FF_carry.2.2.1 3 (.invokevirtual 79) 3 6 := ⟨by decide +kernel, rfl⟩
theorem d_FF_carry_6 : am_D y_FF_carry.2.2.1 6 (.ifCond .eq 23) 3 9 := ⟨by decide +kernel, rfl⟩
theorem d_FF_carry_9 : am_D y_FF_carry.2.2.1 9 (.aload_n 0) 1 10 := ⟨by decide +kernel, rfl⟩
theorem d_FF_carry_10 : am_D y_FF_carry.2.2.1 10 (.getfield 18) 3 13 := ⟨by decide +kernel, rfl⟩
theorem d_FF_carry_13 : am_D y_FF_carry.2.2.1 13 (.iload_n 1) 1 14 := ⟨by decide +kernel, rfl⟩
theorem d_FF_carry_14 : am_D y_FF_carry.2.2.1 14 (.aaload) 1 15 := ⟨by decide +kernel, rfl⟩
theorem d_FF_carry_15 : am_D y_FF_carry.2.2.1 15 (.getfield 51) 3 18 := ⟨by decide +kernel, rfl⟩
theorem d_FF_carry_18 : am_D y_FF_carry.2.2.1 18 (.iload_n 2) 1 19 := ⟨by decide +kernel, rfl⟩
theorem d_FF_carry_19 : am_D y_FF_carry.2.2.1 19 (.aaload) 1 20 := ⟨by decide +kernel, rfl⟩
theorem d_FF_carry_20 : am_D y_FF_carry.2.2.1 20 (.getfield 153) 3 23 := ⟨by decide +kernel, rfl⟩
theorem d_FF_carry_23 : am_D y_FF_carry.2.2.1 23 (.invokevirtual 156) 3 26 := ⟨by decide +kernel, rfl⟩
theorem d_FF_carry_26 : am_D y_FF_carry.2.2.1 26 (.ifCond .eq 5) 3 29 := ⟨by decide +kernel, rfl⟩
theorem d_FF_carry_29 : am_D y_FF_carry.2.2.1 29 (.iconst 0) 1 30 := ⟨by decide +kernel, rfl⟩
theorem d_FF_carry_30 : am_D y_FF_carry.2.2.1 30 (.ireturn) 1 31 := ⟨by decide +kernel, rfl⟩
theorem d_FF_carry_31 : am_D y_FF_carry.2.2.1 31 (.aload_n 0) 1 32 := ⟨by decide +kernel, rfl⟩
theorem d_FF_carry_32 : am_D y_FF_carry.2.2.1 32 (.getfield 18) 3 35 := ⟨by decide +kernel, rfl⟩
theorem d_FF_carry_35 : am_D y_FF_carry.2.2.1 35 (.iload_n 1) 1 36 := ⟨by decide +kernel, rfl⟩
theorem d_FF_carry_36 : am_D y_FF_carry.2.2.1 36 (.aaload) 1 37 := ⟨by decide +kernel, rfl⟩
theorem d_FF_carry_37 : am_D y_FF_carry.2.2.1 37 (.getfield 51) 3 40 := ⟨by decide +kernel, rfl⟩
theorem d_FF_carry_40 : am_D y_FF_carry.2.2.1 40 (.iload_n 2) 1 41 := ⟨by decide +kernel, rfl⟩
theorem d_FF_carry_41 : am_D y_FF_carry.2.2.1 41 (.aaload) 1 42 := ⟨by decide +kernel, rfl⟩
theorem d_FF_carry_42 : am_D y_FF_carry.2.2.1 42 (.getfield 153) 3 45 := ⟨by decide +kernel, rfl⟩
theorem d_FF_carry_45 : am_D y_FF_carry.2.2.1 45 (.iconst 0) 1 46 := ⟨by decide +kernel, rfl⟩
theorem d_FF_carry_46 : am_D y_FF_carry.2.2.1 46 (.invokevirtual 130) 3 49 := ⟨by decide +kernel, rfl⟩
theorem d_FF_carry_49 : am_D y_FF_carry.2.2.1 49 (.checkcast 159) 3 52 := ⟨by decide +kernel, rfl⟩
theorem d_FF_carry_52 : am_D y_FF_carry.2.2.1 52 (.astore_n 3) 1 53 := ⟨by decide +kernel, rfl⟩
theorem d_FF_carry_53 : am_D y_FF_carry.2.2.1 53 (.aload_n 0) 1 54 := ⟨by decide +kernel, rfl⟩
theorem d_FF_carry_54 : am_D y_FF_carry.2.2.1 54 (.getfield 18) 3 57 := ⟨by decide +kernel, rfl⟩
theorem d_FF_carry_57 : am_D y_FF_carry.2.2.1 57 (.iload_n 1) 1 58 := ⟨by decide +kernel, rfl⟩
theorem d_FF_carry_58 : am_D y_FF_carry.2.2.1 58 (.aaload) 1 59 := ⟨by decide +kernel, rfl⟩
theorem d_FF_carry_59 : am_D y_FF_carry.2.2.1 59 (.getfield 51) 3 62 := ⟨by decide +kernel, rfl⟩
theorem d_FF_carry_62 : am_D y_FF_carry.2.2.1 62 (.iload_n 2) 1 63 := ⟨by decide +kernel, rfl⟩
theorem d_FF_carry_63 : am_D y_FF_carry.2.2.1 63 (.aaload) 1 64 := ⟨by decide +kernel, rfl⟩
theorem d_FF_carry_64 : am_D y_FF_carry.2.2.1 64 (.getfield 86) 3 67 := ⟨by decide +kernel, rfl⟩
theorem d_FF_carry_67 : am_D y_FF_carry.2.2.1 67 (.istore 4) 2 69 := ⟨by decide +kernel, rfl⟩
theorem d_FF_carry_69 : am_D y_FF_carry.2.2.1 69 (.aload_n 0) 1 70 := ⟨by decide +kernel, rfl⟩
theorem d_FF_carry_70 : am_D y_FF_carry.2.2.1 70 (.getfield 18) 3 73 := ⟨by decide +kernel, rfl⟩
theorem d_FF_carry_73 : am_D y_FF_carry.2.2.1 73 (.iload 4) 2 75 := ⟨by decide +kernel, rfl⟩
theorem d_FF_carry_75 : am_D y_FF_carry.2.2.1 75 (.invokestatic 89) 3 78 := ⟨by decide +kernel, rfl⟩
theorem d_FF_carry_78 : am_D y_FF_carry.2.2.1 78 (.aaload) 1 79 := ⟨by decide +kernel, rfl⟩
theorem d_FF_carry_79 : am_D y_FF_carry.2.2.1 79 (.aload_n 3) 1 80 := ⟨by decide +kernel, rfl⟩
theorem d_FF_carry_80 : am_D y_FF_carry.2.2.1 80 (.iload 4) 2 82 := ⟨by decide +kernel, rfl⟩
theorem d_FF_carry_82 : am_D y_FF_carry.2.2.1 82 (.invokestatic 100) 3 85 := ⟨by decide +kernel, rfl⟩
theorem d_FF_carry_85 : am_D y_FF_carry.2.2.1 85 (.aload_n 0) 1 86 := ⟨by decide +kernel, rfl⟩
theorem d_FF_carry_86 : am_D y_FF_carry.2.2.1 86 (.getfield 44) 3 89 := ⟨by decide +kernel, rfl⟩
theorem d_FF_carry_89 : am_D y_FF_carry.2.2.1 89 (.invokevirtual 161) 3 92 := ⟨by decide +kernel, rfl⟩
theorem d_FF_carry_92 : am_D y_FF_carry.2.2.1 92 (.iconst 1) 1 93 := ⟨by decide +kernel, rfl⟩
theorem d_FF_carry_93 : am_D y_FF_carry.2.2.1 93 (.ireturn) 1 94 := ⟨by decide +kernel, rfl⟩
theorem d_Nd_receive_0 : am_D y_Nd_receive.2.2.1 0 (.aload_n 1) 1 1 := ⟨by decide +kernel, rfl⟩
theorem d_Nd_receive_1 : am_D y_Nd_receive.2.2.1 1 (.getfield 65) 3 4 := ⟨by decide +kernel, rfl⟩
theorem d_Nd_receive_4 : am_D y_Nd_receive.2.2.1 4 (.ifnull 16) 3 7 := ⟨by decide +kernel, rfl⟩
theorem d_Nd_receive_7 : am_D y_Nd_receive.2.2.1 7 (.aload_n 0) 1 8 := ⟨by decide +kernel, rfl⟩
theorem d_Nd_receive_8 : am_D y_Nd_receive.2.2.1 8 (.aload_n 1) 1 9 := ⟨by decide +kernel, rfl⟩
theorem d_Nd_receive_9 : am_D y_Nd_receive.2.2.1 9 (.getfield 65) 3 12 := ⟨by decide +kernel, rfl⟩
theorem d_Nd_receive_12 : am_D y_Nd_receive.2.2.1 12 (.iload_n 2) 1 13 := ⟨by decide +kernel, rfl⟩
theorem d_Nd_receive_13 : am_D y_Nd_receive.2.2.1 13 (.iload_n 3) 1 14 := ⟨by decide +kernel, rfl⟩
theorem d_Nd_receive_14 : am_D y_Nd_receive.2.2.1 14 (.invokevirtual 71) 3 17 := ⟨by decide +kernel, rfl⟩
theorem d_Nd_receive_17 : am_D y_Nd_receive.2.2.1 17 (.goto 15) 3 20 := ⟨by decide +kernel, rfl⟩
theorem d_Nd_receive_20 : am_D y_Nd_receive.2.2.1 20 (.aload_n 0) 1 21 := ⟨by decide +kernel, rfl⟩
theorem d_Nd_receive_21 : am_D y_Nd_receive.2.2.1 21 (.iload_n 2) 1 22 := ⟨by decide +kernel, rfl⟩
theorem d_Nd_receive_22 : am_D y_Nd_receive.2.2.1 22 (.aload_n 1) 1 23 := ⟨by decide +kernel, rfl⟩
theorem d_Nd_receive_23 : am_D y_Nd_receive.2.2.1 23 (.getfield 75) 3 26 := ⟨by decide +kernel, rfl⟩
theorem d_Nd_receive_26 : am_D y_Nd_receive.2.2.1 26 (.invokestatic 78) 3 29 := ⟨by decide +kernel, rfl⟩
theorem d_Nd_receive_29 : am_D y_Nd_receive.2.2.1 29 (.invokevirtual 81) 3 32 := ⟨by decide +kernel, rfl⟩
theorem d_Nd_receive_32 : am_D y_Nd_receive.2.2.1 32 (.return_) 1 33 := ⟨by decide +kernel, rfl⟩
theorem d_Ms_ofProbe_0 : am_D y_Ms_ofProbe.2.2.1 0 (.new 10) 3 3 := ⟨by decide +kernel, rfl⟩
theorem d_Ms_ofProbe_3 : am_D y_Ms_ofProbe.2.2.1 3 (.dup) 1 4 := ⟨by decide +kernel, rfl⟩
theorem d_Ms_ofProbe_4 : am_D y_Ms_ofProbe.2.2.1 4 (.iconst 1) 1 5 := ⟨by decide +kernel, rfl⟩
theorem d_Ms_ofProbe_5 : am_D y_Ms_ofProbe.2.2.1 5 (.iload_n 0) 1 6 := ⟨by decide +kernel, rfl⟩
theorem d_Ms_ofProbe_6 : am_D y_Ms_ofProbe.2.2.1 6 (.iload_n 1) 1 7 := ⟨by decide +kernel, rfl⟩
theorem d_Ms_ofProbe_7 : am_D y_Ms_ofProbe.2.2.1 7 (.iconst (-1)) 1 8 := ⟨by decide +kernel, rfl⟩
theorem d_Ms_ofProbe_8 : am_D y_Ms_ofProbe.2.2.1 8 (.iconst 0) 1 9 := ⟨by decide +kernel, rfl⟩
theorem d_Ms_ofProbe_9 : am_D y_Ms_ofProbe.2.2.1 9 (.invokespecial 27) 3 12 := ⟨by decide +kernel, rfl⟩
theorem d_Ms_ofProbe_12 : am_D y_Ms_ofProbe.2.2.1 12 (.areturn) 1 13 := ⟨by decide +kernel, rfl⟩
theorem d_FF_obey_0 : am_D y_FF_obey.2.2.1 0 (.aload_n 0) 1 1 := ⟨by decide +kernel, rfl⟩
theorem d_FF_obey_1 : am_D y_FF_obey.2.2.1 1 (.iload_n 1) 1 2 := ⟨by decide +kernel, rfl⟩
theorem d_FF_obey_2 : am_D y_FF_obey.2.2.1 2 (.invokevirtual 103) 3 5 := ⟨by decide +kernel, rfl⟩
theorem d_FF_obey_5 : am_D y_FF_obey.2.2.1 5 (.ifCond .eq 18) 3 8 := ⟨by decide +kernel, rfl⟩
theorem d_FF_obey_8 : am_D y_FF_obey.2.2.1 8 (.aload_n 0) 1 9 := ⟨by decide +kernel, rfl⟩
theorem d_FF_obey_9 : am_D y_FF_obey.2.2.1 9 (.getfield 18) 3 12 := ⟨by decide +kernel, rfl⟩
theorem d_FF_obey_12 : am_D y_FF_obey.2.2.1 12 (.iload_n 1) 1 13 := ⟨by decide +kernel, rfl⟩
theorem d_FF_obey_13 : am_D y_FF_obey.2.2.1 13 (.aaload) 1 14 := ⟨by decide +kernel, rfl⟩
theorem d_FF_obey_14 : am_D y_FF_obey.2.2.1 14 (.getfield 165) 3 17 := ⟨by decide +kernel, rfl⟩
theorem d_FF_obey_17 : am_D y_FF_obey.2.2.1 17 (.invokevirtual 156) 3 20 := ⟨by decide +kernel, rfl⟩
theorem d_FF_obey_20 : am_D y_FF_obey.2.2.1 20 (.ifCond .eq 5) 3 23 := ⟨by decide +kernel, rfl⟩
theorem d_FF_obey_23 : am_D y_FF_obey.2.2.1 23 (.iconst (-1)) 1 24 := ⟨by decide +kernel, rfl⟩
theorem d_FF_obey_24 : am_D y_FF_obey.2.2.1 24 (.ireturn) 1 25 := ⟨by decide +kernel, rfl⟩
theorem d_FF_obey_25 : am_D y_FF_obey.2.2.1 25 (.aload_n 0) 1 26 := ⟨by decide +kernel, rfl⟩
theorem d_FF_obey_26 : am_D y_FF_obey.2.2.1 26 (.getfield 18) 3 29 := ⟨by decide +kernel, rfl⟩
theorem d_FF_obey_29 : am_D y_FF_obey.2.2.1 29 (.iload_n 1) 1 30 := ⟨by decide +kernel, rfl⟩
theorem d_FF_obey_30 : am_D y_FF_obey.2.2.1 30 (.aaload) 1 31 := ⟨by decide +kernel, rfl⟩
theorem d_FF_obey_31 : am_D y_FF_obey.2.2.1 31 (.getfield 165) 3 34 := ⟨by decide +kernel, rfl⟩
theorem d_FF_obey_34 : am_D y_FF_obey.2.2.1 34 (.iconst 0) 1 35 := ⟨by decide +kernel, rfl⟩
theorem d_FF_obey_35 : am_D y_FF_obey.2.2.1 35 (.invokevirtual 130) 3 38 := ⟨by decide +kernel, rfl⟩
theorem d_FF_obey_38 : am_D y_FF_obey.2.2.1 38 (.checkcast 168) 3 41 := ⟨by decide +kernel, rfl⟩
theorem d_FF_obey_41 : am_D y_FF_obey.2.2.1 41 (.astore_n 2) 1 42 := ⟨by decide +kernel, rfl⟩
theorem d_FF_obey_42 : am_D y_FF_obey.2.2.1 42 (.aload_n 0) 1 43 := ⟨by decide +kernel, rfl⟩
theorem d_FF_obey_43 : am_D y_FF_obey.2.2.1 43 (.getfield 18) 3 46 := ⟨by decide +kernel, rfl⟩
theorem d_FF_obey_46 : am_D y_FF_obey.2.2.1 46 (.iload_n 1) 1 47 := ⟨by decide +kernel, rfl⟩
theorem d_FF_obey_47 : am_D y_FF_obey.2.2.1 47 (.aaload) 1 48 := ⟨by decide +kernel, rfl⟩
theorem d_FF_obey_48 : am_D y_FF_obey.2.2.1 48 (.aload_n 2) 1 49 := ⟨by decide +kernel, rfl⟩
theorem d_FF_obey_49 : am_D y_FF_obey.2.2.1 49 (.aload_n 0) 1 50 := ⟨by decide +kernel, rfl⟩
theorem d_FF_obey_50 : am_D y_FF_obey.2.2.1 50 (.getfield 44) 3 53 := ⟨by decide +kernel, rfl⟩
theorem d_FF_obey_53 : am_D y_FF_obey.2.2.1 53 (.invokevirtual 170) 3 56 := ⟨by decide +kernel, rfl⟩
theorem d_FF_obey_56 : am_D y_FF_obey.2.2.1 56 (.aload_n 2) 1 57 := ⟨by decide +kernel, rfl⟩
theorem d_FF_obey_57 : am_D y_FF_obey.2.2.1 57 (.getfield 174) 3 60 := ⟨by decide +kernel, rfl⟩
theorem d_FF_obey_60 : am_D y_FF_obey.2.2.1 60 (.ireturn) 1 61 := ⟨by decide +kernel, rfl⟩
theorem d_Nd_carryOut_0 : am_D y_Nd_carryOut.2.2.1 0 (.aload_n 1) 1 1 := ⟨by decide +kernel, rfl⟩
theorem d_Nd_carryOut_1 : am_D y_Nd_carryOut.2.2.1 1 (.getfield 147) 3 4 := ⟨by decide +kernel, rfl⟩
theorem d_Nd_carryOut_4 : am_D y_Nd_carryOut.2.2.1 4 (.tableswitch 118 0 5 #[40, 49, 64, 83, 98, 111]) 40 44 := ⟨by decide +kernel, rfl⟩
theorem d_Nd_carryOut_44 : am_D y_Nd_carryOut.2.2.1 44 (.aload_n 0) 1 45 := ⟨by decide +kernel, rfl⟩
theorem d_Nd_carryOut_45 : am_D y_Nd_carryOut.2.2.1 45 (.aload_n 1) 1 46 := ⟨by decide +kernel, rfl⟩
theorem d_Nd_carryOut_46 : am_D y_Nd_carryOut.2.2.1 46 (.iload_n 2) 1 47 := ⟨by decide +kernel, rfl⟩
theorem d_Nd_carryOut_47 : am_D y_Nd_carryOut.2.2.1 47 (.invokevirtual 150) 3 50 := ⟨by decide +kernel, rfl⟩
theorem d_Nd_carryOut_50 : am_D y_Nd_carryOut.2.2.1 50 (.goto 72) 3 53 := ⟨by decide +kernel, rfl⟩
theorem d_Nd_carryOut_53 : am_D y_Nd_carryOut.2.2.1 53 (.aload_n 0) 1 54 := ⟨by decide +kernel, rfl⟩
theorem d_Nd_carryOut_54 : am_D y_Nd_carryOut.2.2.1 54 (.aload_n 1) 1 55 := ⟨by decide +kernel, rfl⟩
theorem d_Nd_carryOut_55 : am_D y_Nd_carryOut.2.2.1 55 (.getfield 154) 3 58 := ⟨by decide +kernel, rfl⟩
theorem d_Nd_carryOut_58 : am_D y_Nd_carryOut.2.2.1 58 (.aload_n 1) 1 59 := ⟨by decide +kernel, rfl⟩
theorem d_Nd_carryOut_59 : am_D y_Nd_carryOut.2.2.1 59 (.getfield 155) 3 62 := ⟨by decide +kernel, rfl⟩
theorem d_Nd_carryOut_62 : am_D y_Nd_carryOut.2.2.1 62 (.invokevirtual 156) 3 65 := ⟨by decide +kernel, rfl⟩
theorem d_Nd_carryOut_65 : am_D y_Nd_carryOut.2.2.1 65 (.goto 57) 3 68 := ⟨by decide +kernel, rfl⟩
theorem d_Nd_carryOut_68 : am_D y_Nd_carryOut.2.2.1 68 (.aload_n 0) 1 69 := ⟨by decide +kernel, rfl⟩
theorem d_Nd_carryOut_69 : am_D y_Nd_carryOut.2.2.1 69 (.getfield 38) 3 72 := ⟨by decide +kernel, rfl⟩
theorem d_Nd_carryOut_72 : am_D y_Nd_carryOut.2.2.1 72 (.iconst 2) 1 73 := ⟨by decide +kernel, rfl⟩
theorem d_Nd_carryOut_73 : am_D y_Nd_carryOut.2.2.1 73 (.aload_n 1) 1 74 := ⟨by decide +kernel, rfl⟩
theorem d_Nd_carryOut_74 : am_D y_Nd_carryOut.2.2.1 74 (.getfield 160) 3 77 := ⟨by decide +kernel, rfl⟩
theorem d_Nd_carryOut_77 : am_D y_Nd_carryOut.2.2.1 77 (.invokestatic 55) 3 80 := ⟨by decide +kernel, rfl⟩
theorem d_Nd_carryOut_80 : am_D y_Nd_carryOut.2.2.1 80 (.invokevirtual 61) 3 83 := ⟨by decide +kernel, rfl⟩
theorem d_Nd_carryOut_83 : am_D y_Nd_carryOut.2.2.1 83 (.pop) 1 84 := ⟨by decide +kernel, rfl⟩
theorem d_Nd_carryOut_84 : am_D y_Nd_carryOut.2.2.1 84 (.goto 38) 3 87 := ⟨by decide +kernel, rfl⟩
theorem d_Nd_carryOut_87 : am_D y_Nd_carryOut.2.2.1 87 (.aload_n 0) 1 88 := ⟨by decide +kernel, rfl⟩
theorem d_Nd_carryOut_88 : am_D y_Nd_carryOut.2.2.1 88 (.aload_n 1) 1 89 := ⟨by decide +kernel, rfl⟩
theorem d_Nd_carryOut_89 : am_D y_Nd_carryOut.2.2.1 89 (.getfield 160) 3 92 := ⟨by decide +kernel, rfl⟩
theorem d_Nd_carryOut_92 : am_D y_Nd_carryOut.2.2.1 92 (.aload_n 1) 1 93 := ⟨by decide +kernel, rfl⟩
theorem d_Nd_carryOut_93 : am_D y_Nd_carryOut.2.2.1 93 (.invokevirtual 163) 3 96 := ⟨by decide +kernel, rfl⟩
theorem d_Nd_carryOut_96 : am_D y_Nd_carryOut.2.2.1 96 (.invokevirtual 167) 3 99 := ⟨by decide +kernel, rfl⟩
theorem d_Nd_carryOut_99 : am_D y_Nd_carryOut.2.2.1 99 (.goto 23) 3 102 := ⟨by decide +kernel, rfl⟩
theorem d_Nd_carryOut_102 : am_D y_Nd_carryOut.2.2.1 102 (.aload_n 0) 1 103 := ⟨by decide +kernel, rfl⟩
theorem d_Nd_carryOut_103 : am_D y_Nd_carryOut.2.2.1 103 (.aload_n 1) 1 104 := ⟨by decide +kernel, rfl⟩
theorem d_Nd_carryOut_104 : am_D y_Nd_carryOut.2.2.1 104 (.invokevirtual 163) 3 107 := ⟨by decide +kernel, rfl⟩
theorem d_Nd_carryOut_107 : am_D y_Nd_carryOut.2.2.1 107 (.iconst 4) 1 108 := ⟨by decide +kernel, rfl⟩
theorem d_Nd_carryOut_108 : am_D y_Nd_carryOut.2.2.1 108 (.iload_n 2) 1 109 := ⟨by decide +kernel, rfl⟩
theorem d_Nd_carryOut_109 : am_D y_Nd_carryOut.2.2.1 109 (.invokevirtual 105) 3 112 := ⟨by decide +kernel, rfl⟩
theorem d_Nd_carryOut_112 : am_D y_Nd_carryOut.2.2.1 112 (.goto 10) 3 115 := ⟨by decide +kernel, rfl⟩
theorem d_Nd_carryOut_115 : am_D y_Nd_carryOut.2.2.1 115 (.aload_n 0) 1 116 := ⟨by decide +kernel, rfl⟩
theorem d_Nd_carryOut_116 : am_D y_Nd_carryOut.2.2.1 116 (.invokevirtual 171) 3 119 := ⟨by decide +kernel, rfl⟩
theorem d_Nd_carryOut_119 : am_D y_Nd_carryOut.2.2.1 119 (.goto 3) 3 122 := ⟨by decide +kernel, rfl⟩
theorem d_Nd_carryOut_122 : am_D y_Nd_carryOut.2.2.1 122 (.return_) 1 123 := ⟨by decide +kernel, rfl⟩
theorem d_Nd_putRule_0 : am_D y_Nd_putRule.2.2.1 0 (.aload_n 0) 1 1 := ⟨by decide +kernel, rfl⟩
theorem d_Nd_putRule_1 : am_D y_Nd_putRule.2.2.1 1 (.aload_n 1) 1 2 := ⟨by decide +kernel, rfl⟩
theorem d_Nd_putRule_2 : am_D y_Nd_putRule.2.2.1 2 (.getfield 154) 3 5 := ⟨by decide +kernel, rfl⟩
theorem d_Nd_putRule_5 : am_D y_Nd_putRule.2.2.1 5 (.aload_n 1) 1 6 := ⟨by decide +kernel, rfl⟩
theorem d_Nd_putRule_6 : am_D y_Nd_putRule.2.2.1 6 (.getfield 155) 3 9 := ⟨by decide +kernel, rfl⟩
theorem d_Nd_putRule_9 : am_D y_Nd_putRule.2.2.1 9 (.invokevirtual 156) 3 12 := ⟨by decide +kernel, rfl⟩
theorem d_Nd_putRule_12 : am_D y_Nd_putRule.2.2.1 12 (.aload_n 0) 1 13 := ⟨by decide +kernel, rfl⟩
theorem d_Nd_putRule_13 : am_D y_Nd_putRule.2.2.1 13 (.getfield 32) 3 16 := ⟨by decide +kernel, rfl⟩
theorem d_Nd_putRule_16 : am_D y_Nd_putRule.2.2.1 16 (.invokevirtual 41) 3 19 := ⟨by decide +kernel, rfl⟩
theorem d_Nd_putRule_19 : am_D y_Nd_putRule.2.2.1 19 (.aload_n 0) 1 20 := ⟨by decide +kernel, rfl⟩
theorem d_Nd_putRule_20 : am_D y_Nd_putRule.2.2.1 20 (.getfield 15) 3 23 := ⟨by decide +kernel, rfl⟩
theorem d_Nd_putRule_23 : am_D y_Nd_putRule.2.2.1 23 (.if_icmp .lt 27) 3 26 := ⟨by decide +kernel, rfl⟩
theorem d_Nd_putRule_26 : am_D y_Nd_putRule.2.2.1 26 (.aload_n 0) 1 27 := ⟨by decide +kernel, rfl⟩
theorem d_Nd_putRule_27 : am_D y_Nd_putRule.2.2.1 27 (.getfield 38) 3 30 := ⟨by decide +kernel, rfl⟩
theorem d_Nd_putRule_30 : am_D y_Nd_putRule.2.2.1 30 (.iconst 3) 1 31 := ⟨by decide +kernel, rfl⟩
theorem d_Nd_putRule_31 : am_D y_Nd_putRule.2.2.1 31 (.iconst (-1)) 1 32 := ⟨by decide +kernel, rfl⟩
theorem d_Nd_putRule_32 : am_D y_Nd_putRule.2.2.1 32 (.aload_n 1) 1 33 := ⟨by decide +kernel, rfl⟩
theorem d_Nd_putRule_33 : am_D y_Nd_putRule.2.2.1 33 (.getfield 154) 3 36 := ⟨by decide +kernel, rfl⟩
theorem d_Nd_putRule_36 : am_D y_Nd_putRule.2.2.1 36 (.aload_n 1) 1 37 := ⟨by decide +kernel, rfl⟩
theorem d_Nd_putRule_37 : am_D y_Nd_putRule.2.2.1 37 (.getfield 155) 3 40 := ⟨by decide +kernel, rfl⟩
theorem d_Nd_putRule_40 : am_D y_Nd_putRule.2.2.1 40 (.invokestatic 174) 3 43 := ⟨by decide +kernel, rfl⟩
theorem d_Nd_putRule_43 : am_D y_Nd_putRule.2.2.1 43 (.invokevirtual 61) 3 46 := ⟨by decide +kernel, rfl⟩
theorem d_Nd_putRule_46 : am_D y_Nd_putRule.2.2.1 46 (.pop) 1 47 := ⟨by decide +kernel, rfl⟩
theorem d_Nd_putRule_47 : am_D y_Nd_putRule.2.2.1 47 (.goto 31) 3 50 := ⟨by decide +kernel, rfl⟩
theorem d_Nd_putRule_50 : am_D y_Nd_putRule.2.2.1 50 (.aload_n 0) 1 51 := ⟨by decide +kernel, rfl⟩
theorem d_Nd_putRule_51 : am_D y_Nd_putRule.2.2.1 51 (.getfield 32) 3 54 := ⟨by decide +kernel, rfl⟩
theorem d_Nd_putRule_54 : am_D y_Nd_putRule.2.2.1 54 (.new 134) 3 57 := ⟨by decide +kernel, rfl⟩
theorem d_Nd_putRule_57 : am_D y_Nd_putRule.2.2.1 57 (.dup) 1 58 := ⟨by decide +kernel, rfl⟩
theorem d_Nd_putRule_58 : am_D y_Nd_putRule.2.2.1 58 (.aload_n 1) 1 59 := ⟨by decide +kernel, rfl⟩
theorem d_Nd_putRule_59 : am_D y_Nd_putRule.2.2.1 59 (.getfield 154) 3 62 := ⟨by decide +kernel, rfl⟩
theorem d_Nd_putRule_62 : am_D y_Nd_putRule.2.2.1 62 (.aload_n 1) 1 63 := ⟨by decide +kernel, rfl⟩
theorem d_Nd_putRule_63 : am_D y_Nd_putRule.2.2.1 63 (.getfield 155) 3 66 := ⟨by decide +kernel, rfl⟩
theorem d_Nd_putRule_66 : am_D y_Nd_putRule.2.2.1 66 (.aload_n 1) 1 67 := ⟨by decide +kernel, rfl⟩
theorem d_Nd_putRule_67 : am_D y_Nd_putRule.2.2.1 67 (.getfield 160) 3 70 := ⟨by decide +kernel, rfl⟩
theorem d_Nd_putRule_70 : am_D y_Nd_putRule.2.2.1 70 (.iload_n 2) 1 71 := ⟨by decide +kernel, rfl⟩
theorem d_Nd_putRule_71 : am_D y_Nd_putRule.2.2.1 71 (.invokespecial 178) 3 74 := ⟨by decide +kernel, rfl⟩
theorem d_Nd_putRule_74 : am_D y_Nd_putRule.2.2.1 74 (.invokevirtual 61) 3 77 := ⟨by decide +kernel, rfl⟩
theorem d_Nd_putRule_77 : am_D y_Nd_putRule.2.2.1 77 (.pop) 1 78 := ⟨by decide +kernel, rfl⟩
theorem d_Nd_putRule_78 : am_D y_Nd_putRule.2.2.1 78 (.return_) 1 79 := ⟨by decide +kernel, rfl⟩
theorem d_Nd_cutRule_0 : am_D y_Nd_cutRule.2.2.1 0 (.aload_n 0) 1 1 := ⟨by decide +kernel, rfl⟩
theorem d_Nd_cutRule_1 : am_D y_Nd_cutRule.2.2.1 1 (.iload_n 1) 1 2 := ⟨by decide +kernel, rfl⟩
theorem d_Nd_cutRule_2 : am_D y_Nd_cutRule.2.2.1 2 (.iload_n 2) 1 3 := ⟨by decide +kernel, rfl⟩
theorem d_Nd_cutRule_3 : am_D y_Nd_cutRule.2.2.1 3 (.invokevirtual 130) 3 6 := ⟨by decide +kernel, rfl⟩
theorem d_Nd_cutRule_6 : am_D y_Nd_cutRule.2.2.1 6 (.istore_n 3) 1 7 := ⟨by decide +kernel, rfl⟩
theorem d_Nd_cutRule_7 : am_D y_Nd_cutRule.2.2.1 7 (.iload_n 3) 1 8 := ⟨by decide +kernel, rfl⟩
theorem d_Nd_cutRule_8 : am_D y_Nd_cutRule.2.2.1 8 (.iconst (-1)) 1 9 := ⟨by decide +kernel, rfl⟩
theorem d_Nd_cutRule_9 : am_D y_Nd_cutRule.2.2.1 9 (.if_icmp .eq 12) 3 12 := ⟨by decide +kernel, rfl⟩
theorem d_Nd_cutRule_12 : am_D y_Nd_cutRule.2.2.1 12 (.aload_n 0) 1 13 := ⟨by decide +kernel, rfl⟩
theorem d_Nd_cutRule_13 : am_D y_Nd_cutRule.2.2.1 13 (.getfield 32) 3 16 := ⟨by decide +kernel, rfl⟩
theorem d_Nd_cutRule_16 : am_D y_Nd_cutRule.2.2.1 16 (.iload_n 3) 1 17 := ⟨by decide +kernel, rfl⟩
theorem d_Nd_cutRule_17 : am_D y_Nd_cutRule.2.2.1 17 (.invokevirtual 181) 3 20 := ⟨by decide +kernel, rfl⟩
theorem d_Nd_cutRule_20 : am_D y_Nd_cutRule.2.2.1 20 (.pop) 1 21 := ⟨by decide +kernel, rfl⟩
theorem d_Nd_cutRule_21 : am_D y_Nd_cutRule.2.2.1 21 (.return_) 1 22 := ⟨by decide +kernel, rfl⟩
theorem d_Ms_ofPair_0 : am_D y_Ms_ofPair.2.2.1 0 (.new 10) 3 3 := ⟨by decide +kernel, rfl⟩
theorem d_Ms_ofPair_3 : am_D y_Ms_ofPair.2.2.1 3 (.dup) 1 4 := ⟨by decide +kernel, rfl⟩
theorem d_Ms_ofPair_4 : am_D y_Ms_ofPair.2.2.1 4 (.iload_n 0) 1 5 := ⟨by decide +kernel, rfl⟩
theorem d_Ms_ofPair_5 : am_D y_Ms_ofPair.2.2.1 5 (.iload_n 1) 1 6 := ⟨by decide +kernel, rfl⟩
theorem d_Ms_ofPair_6 : am_D y_Ms_ofPair.2.2.1 6 (.iload_n 2) 1 7 := ⟨by decide +kernel, rfl⟩
theorem d_Ms_ofPair_7 : am_D y_Ms_ofPair.2.2.1 7 (.iload_n 3) 1 8 := ⟨by decide +kernel, rfl⟩
theorem d_Ms_ofPair_8 : am_D y_Ms_ofPair.2.2.1 8 (.iconst 0) 1 9 := ⟨by decide +kernel, rfl⟩
theorem d_Ms_ofPair_9 : am_D y_Ms_ofPair.2.2.1 9 (.invokespecial 27) 3 12 := ⟨by decide +kernel, rfl⟩
theorem d_Ms_ofPair_12 : am_D y_Ms_ofPair.2.2.1 12 (.areturn) 1 13 := ⟨by decide +kernel, rfl⟩
theorem d_Rl_new_0 : am_D y_Rl_new.2.2.1 0 (.aload_n 0) 1 1 := ⟨by decide +kernel, rfl⟩
theorem d_Rl_new_1 : am_D y_Rl_new.2.2.1 1 (.invokespecial 3) 3 4 := ⟨by decide +kernel, rfl⟩
theorem d_Rl_new_4 : am_D y_Rl_new.2.2.1 4 (.aload_n 0) 1 5 := ⟨by decide +kernel, rfl⟩
theorem d_Rl_new_5 : am_D y_Rl_new.2.2.1 5 (.iload_n 1) 1 6 := ⟨by decide +kernel, rfl⟩
theorem d_Rl_new_6 : am_D y_Rl_new.2.2.1 6 (.putfield 9) 3 9 := ⟨by decide +kernel, rfl⟩
theorem d_Rl_new_9 : am_D y_Rl_new.2.2.1 9 (.aload_n 0) 1 10 := ⟨by decide +kernel, rfl⟩
theorem d_Rl_new_10 : am_D y_Rl_new.2.2.1 10 (.iload_n 2) 1 11 := ⟨by decide +kernel, rfl⟩
theorem d_Rl_new_11 : am_D y_Rl_new.2.2.1 11 (.putfield 15) 3 14 := ⟨by decide +kernel, rfl⟩
theorem d_Rl_new_14 : am_D y_Rl_new.2.2.1 14 (.aload_n 0) 1 15 := ⟨by decide +kernel, rfl⟩
theorem d_Rl_new_15 : am_D y_Rl_new.2.2.1 15 (.iload_n 3) 1 16 := ⟨by decide +kernel, rfl⟩
theorem d_Rl_new_16 : am_D y_Rl_new.2.2.1 16 (.putfield 18) 3 19 := ⟨by decide +kernel, rfl⟩
theorem d_Rl_new_19 : am_D y_Rl_new.2.2.1 19 (.aload_n 0) 1 20 := ⟨by decide +kernel, rfl⟩
theorem d_Rl_new_20 : am_D y_Rl_new.2.2.1 20 (.iload 4) 2 22 := ⟨by decide +kernel, rfl⟩
theorem d_Rl_new_22 : am_D y_Rl_new.2.2.1 22 (.putfield 21) 3 25 := ⟨by decide +kernel, rfl⟩
theorem d_Rl_new_25 : am_D y_Rl_new.2.2.1 25 (.aload_n 0) 1 26 := ⟨by decide +kernel, rfl⟩
theorem d_Rl_new_26 : am_D y_Rl_new.2.2.1 26 (.iload 4) 2 28 := ⟨by decide +kernel, rfl⟩
theorem d_Rl_new_28 : am_D y_Rl_new.2.2.1 28 (.putfield 24) 3 31 := ⟨by decide +kernel, rfl⟩
theorem d_Rl_new_31 : am_D y_Rl_new.2.2.1 31 (.aload_n 0) 1 32 := ⟨by decide +kernel, rfl⟩
theorem d_Rl_new_32 : am_D y_Rl_new.2.2.1 32 (.iconst 0) 1 33 := ⟨by decide +kernel, rfl⟩
theorem d_Rl_new_33 : am_D y_Rl_new.2.2.1 33 (.putfield 27) 3 36 := ⟨by decide +kernel, rfl⟩
theorem d_Rl_new_36 : am_D y_Rl_new.2.2.1 36 (.return_) 1 37 := ⟨by decide +kernel, rfl⟩
theorem d_Ms_toDatagram_0 : am_D y_Ms_toDatagram.2.2.1 0 (.new 31) 3 3 := ⟨by decide +kernel, rfl⟩
theorem d_Ms_toDatagram_3 : am_D y_Ms_toDatagram.2.2.1 3 (.dup) 1 4 := ⟨by decide +kernel, rfl⟩
theorem d_Ms_toDatagram_4 : am_D y_Ms_toDatagram.2.2.1 4 (.aload_n 0) 1 5 := ⟨by decide +kernel, rfl⟩
theorem d_Ms_toDatagram_5 : am_D y_Ms_toDatagram.2.2.1 5 (.getfield 18) 3 8 := ⟨by decide +kernel, rfl⟩
theorem d_Ms_toDatagram_8 : am_D y_Ms_toDatagram.2.2.1 8 (.aload_n 0) 1 9 := ⟨by decide +kernel, rfl⟩
theorem d_Ms_toDatagram_9 : am_D y_Ms_toDatagram.2.2.1 9 (.getfield 21) 3 12 := ⟨by decide +kernel, rfl⟩
theorem d_Ms_toDatagram_12 : am_D y_Ms_toDatagram.2.2.1 12 (.aload_n 0) 1 13 := ⟨by decide +kernel, rfl⟩
theorem d_Ms_toDatagram_13 : am_D y_Ms_toDatagram.2.2.1 13 (.getfield 24) 3 16 := ⟨by decide +kernel, rfl⟩
theorem d_Ms_toDatagram_16 : am_D y_Ms_toDatagram.2.2.1 16 (.invokespecial 35) 3 19 := ⟨by decide +kernel, rfl⟩
theorem d_Ms_toDatagram_19 : am_D y_Ms_toDatagram.2.2.1 19 (.areturn) 1 20 := ⟨by decide +kernel, rfl⟩
theorem d_Nd_sendOutAt_0 : am_D y_Nd_sendOutAt.2.2.1 0 (.aload_n 2) 1 1 := ⟨by decide +kernel, rfl⟩
theorem d_Nd_sendOutAt_1 : am_D y_Nd_sendOutAt.2.2.1 1 (.invokestatic 97) 3 4 := ⟨by decide +kernel, rfl⟩
theorem d_Nd_sendOutAt_4 : am_D y_Nd_sendOutAt.2.2.1 4 (.astore_n 3) 1 5 := ⟨by decide +kernel, rfl⟩
theorem d_Nd_sendOutAt_5 : am_D y_Nd_sendOutAt.2.2.1 5 (.iconst 0) 1 6 := ⟨by decide +kernel, rfl⟩
theorem d_Nd_sendOutAt_6 : am_D y_Nd_sendOutAt.2.2.1 6 (.istore 4) 2 8 := ⟨by decide +kernel, rfl⟩
theorem d_Nd_sendOutAt_8 : am_D y_Nd_sendOutAt.2.2.1 8 (.iload 4) 2 10 := ⟨by decide +kernel, rfl⟩
theorem d_Nd_sendOutAt_10 : am_D y_Nd_sendOutAt.2.2.1 10 (.iconst 4) 1 11 := ⟨by decide +kernel, rfl⟩
theorem d_Nd_sendOutAt_11 : am_D y_Nd_sendOutAt.2.2.1 11 (.if_icmp .ge 30) 3 14 := ⟨by decide +kernel, rfl⟩
theorem d_Nd_sendOutAt_14 : am_D y_Nd_sendOutAt.2.2.1 14 (.iload_n 1) 1 15 := ⟨by decide +kernel, rfl⟩
theorem d_Nd_sendOutAt_15 : am_D y_Nd_sendOutAt.2.2.1 15 (.iload 4) 2 17 := ⟨by decide +kernel, rfl⟩
theorem d_Nd_sendOutAt_17 : am_D y_Nd_sendOutAt.2.2.1 17 (.ishr) 1 18 := ⟨by decide +kernel, rfl⟩
theorem d_Nd_sendOutAt_18 : am_D y_Nd_sendOutAt.2.2.1 18 (.iconst 1) 1 19 := ⟨by decide +kernel, rfl⟩
theorem d_Nd_sendOutAt_19 : am_D y_Nd_sendOutAt.2.2.1 19 (.iand) 1 20 := ⟨by decide +kernel, rfl⟩
theorem d_Nd_sendOutAt_20 : am_D y_Nd_sendOutAt.2.2.1 20 (.iconst 1) 1 21 := ⟨by decide +kernel, rfl⟩
theorem d_Nd_sendOutAt_21 : am_D y_Nd_sendOutAt.2.2.1 21 (.if_icmp .ne 14) 3 24 := ⟨by decide +kernel, rfl⟩
theorem d_Nd_sendOutAt_24 : am_D y_Nd_sendOutAt.2.2.1 24 (.aload_n 0) 1 25 := ⟨by decide +kernel, rfl⟩
theorem d_Nd_sendOutAt_25 : am_D y_Nd_sendOutAt.2.2.1 25 (.getfield 20) 3 28 := ⟨by decide +kernel, rfl⟩
theorem d_Nd_sendOutAt_28 : am_D y_Nd_sendOutAt.2.2.1 28 (.iload 4) 2 30 := ⟨by decide +kernel, rfl⟩
theorem d_Nd_sendOutAt_30 : am_D y_Nd_sendOutAt.2.2.1 30 (.aaload) 1 31 := ⟨by decide +kernel, rfl⟩
theorem d_Nd_sendOutAt_31 : am_D y_Nd_sendOutAt.2.2.1 31 (.aload_n 3) 1 32 := ⟨by decide +kernel, rfl⟩
theorem d_Nd_sendOutAt_32 : am_D y_Nd_sendOutAt.2.2.1 32 (.invokevirtual 101) 3 35 := ⟨by decide +kernel, rfl⟩
theorem d_Nd_sendOutAt_35 : am_D y_Nd_sendOutAt.2.2.1 35 (.iinc 4 1) 3 38 := ⟨by decide +kernel, rfl⟩
theorem d_Nd_sendOutAt_38 : am_D y_Nd_sendOutAt.2.2.1 38 (.goto (-30)) 3 41 := ⟨by decide +kernel, rfl⟩
theorem d_Nd_sendOutAt_41 : am_D y_Nd_sendOutAt.2.2.1 41 (.return_) 1 42 := ⟨by decide +kernel, rfl⟩
theorem d_Nd_sendProbes_0 : am_D y_Nd_sendProbes.2.2.1 0 (.iconst 0) 1 1 := ⟨by decide +kernel, rfl⟩
theorem d_Nd_sendProbes_1 : am_D y_Nd_sendProbes.2.2.1 1 (.istore_n 1) 1 2 := ⟨by decide +kernel, rfl⟩
theorem d_Nd_sendProbes_2 : am_D y_Nd_sendProbes.2.2.1 2 (.iload_n 1) 1 3 := ⟨by decide +kernel, rfl⟩
theorem d_Nd_sendProbes_3 : am_D y_Nd_sendProbes.2.2.1 3 (.iconst 4) 1 4 := ⟨by decide +kernel, rfl⟩
theorem d_Nd_sendProbes_4 : am_D y_Nd_sendProbes.2.2.1 4 (.if_icmp .ge 42) 3 7 := ⟨by decide +kernel, rfl⟩
theorem d_Nd_sendProbes_7 : am_D y_Nd_sendProbes.2.2.1 7 (.aload_n 0) 1 8 := ⟨by decide +kernel, rfl⟩
theorem d_Nd_sendProbes_8 : am_D y_Nd_sendProbes.2.2.1 8 (.getfield 20) 3 11 := ⟨by decide +kernel, rfl⟩
theorem d_Nd_sendProbes_11 : am_D y_Nd_sendProbes.2.2.1 11 (.iload_n 1) 1 12 := ⟨by decide +kernel, rfl⟩
theorem d_Nd_sendProbes_12 : am_D y_Nd_sendProbes.2.2.1 12 (.aaload) 1 13 := ⟨by decide +kernel, rfl⟩
theorem d_Nd_sendProbes_13 : am_D y_Nd_sendProbes.2.2.1 13 (.getfield 184) 3 16 := ⟨by decide +kernel, rfl⟩
theorem d_Nd_sendProbes_16 : am_D y_Nd_sendProbes.2.2.1 16 (.iconst (-1)) 1 17 := ⟨by decide +kernel, rfl⟩
theorem d_Nd_sendProbes_17 : am_D y_Nd_sendProbes.2.2.1 17 (.if_icmp .eq 23) 3 20 := ⟨by decide +kernel, rfl⟩
theorem d_Nd_sendProbes_20 : am_D y_Nd_sendProbes.2.2.1 20 (.aload_n 0) 1 21 := ⟨by decide +kernel, rfl⟩
theorem d_Nd_sendProbes_21 : am_D y_Nd_sendProbes.2.2.1 21 (.getfield 20) 3 24 := ⟨by decide +kernel, rfl⟩
theorem d_Nd_sendProbes_24 : am_D y_Nd_sendProbes.2.2.1 24 (.iload_n 1) 1 25 := ⟨by decide +kernel, rfl⟩
theorem d_Nd_sendProbes_25 : am_D y_Nd_sendProbes.2.2.1 25 (.aaload) 1 26 := ⟨by decide +kernel, rfl⟩
theorem d_Nd_sendProbes_26 : am_D y_Nd_sendProbes.2.2.1 26 (.aload_n 0) 1 27 := ⟨by decide +kernel, rfl⟩
theorem d_Nd_sendProbes_27 : am_D y_Nd_sendProbes.2.2.1 27 (.getfield 9) 3 30 := ⟨by decide +kernel, rfl⟩
theorem d_Nd_sendProbes_30 : am_D y_Nd_sendProbes.2.2.1 30 (.iload_n 1) 1 31 := ⟨by decide +kernel, rfl⟩
theorem d_Nd_sendProbes_31 : am_D y_Nd_sendProbes.2.2.1 31 (.invokestatic 187) 3 34 := ⟨by decide +kernel, rfl⟩
theorem d_Nd_sendProbes_34 : am_D y_Nd_sendProbes.2.2.1 34 (.invokestatic 190) 3 37 := ⟨by decide +kernel, rfl⟩
theorem d_Nd_sendProbes_37 : am_D y_Nd_sendProbes.2.2.1 37 (.invokevirtual 101) 3 40 := ⟨by decide +kernel, rfl⟩
theorem d_Nd_sendProbes_40 : am_D y_Nd_sendProbes.2.2.1 40 (.iinc 1 1) 3 43 := ⟨by decide +kernel, rfl⟩
theorem d_Nd_sendProbes_43 : am_D y_Nd_sendProbes.2.2.1 43 (.goto (-41)) 3 46 := ⟨by decide +kernel, rfl⟩
theorem d_Nd_sendProbes_46 : am_D y_Nd_sendProbes.2.2.1 46 (.return_) 1 47 := ⟨by decide +kernel, rfl⟩
theorem d_Fr_ofProbe_0 : am_D y_Fr_ofProbe.2.2.1 0 (.new 10) 3 3 := ⟨by decide +kernel, rfl⟩
theorem d_Fr_ofProbe_3 : am_D y_Fr_ofProbe.2.2.1 3 (.dup) 1 4 := ⟨by decide +kernel, rfl⟩
theorem d_Fr_ofProbe_4 : am_D y_Fr_ofProbe.2.2.1 4 (.aconst_null) 1 5 := ⟨by decide +kernel, rfl⟩
theorem d_Fr_ofProbe_5 : am_D y_Fr_ofProbe.2.2.1 5 (.iload_n 0) 1 6 := ⟨by decide +kernel, rfl⟩
theorem d_Fr_ofProbe_6 : am_D y_Fr_ofProbe.2.2.1 6 (.invokespecial 19) 3 9 := ⟨by decide +kernel, rfl⟩
theorem d_Fr_ofProbe_9 : am_D y_Fr_ofProbe.2.2.1 9 (.areturn) 1 10 := ⟨by decide +kernel, rfl⟩
theorem d_FF_report_0 : am_D y_FF_report.2.2.1 0 (.aload_n 0) 1 1 := ⟨by decide +kernel, rfl⟩
theorem d_FF_report_1 : am_D y_FF_report.2.2.1 1 (.iload_n 1) 1 2 := ⟨by decide +kernel, rfl⟩
theorem d_FF_report_2 : am_D y_FF_report.2.2.1 2 (.invokevirtual 103) 3 5 := ⟨by decide +kernel, rfl⟩
theorem d_FF_report_5 : am_D y_FF_report.2.2.1 5 (.ifCond .eq 18) 3 8 := ⟨by decide +kernel, rfl⟩
theorem d_FF_report_8 : am_D y_FF_report.2.2.1 8 (.aload_n 0) 1 9 := ⟨by decide +kernel, rfl⟩
theorem d_FF_report_9 : am_D y_FF_report.2.2.1 9 (.getfield 18) 3 12 := ⟨by decide +kernel, rfl⟩
theorem d_FF_report_12 : am_D y_FF_report.2.2.1 12 (.iload_n 1) 1 13 := ⟨by decide +kernel, rfl⟩
theorem d_FF_report_13 : am_D y_FF_report.2.2.1 13 (.aaload) 1 14 := ⟨by decide +kernel, rfl⟩
theorem d_FF_report_14 : am_D y_FF_report.2.2.1 14 (.getfield 177) 3 17 := ⟨by decide +kernel, rfl⟩
theorem d_FF_report_17 : am_D y_FF_report.2.2.1 17 (.invokevirtual 156) 3 20 := ⟨by decide +kernel, rfl⟩
theorem d_FF_report_20 : am_D y_FF_report.2.2.1 20 (.ifCond .eq 5) 3 23 := ⟨by decide +kernel, rfl⟩
theorem d_FF_report_23 : am_D y_FF_report.2.2.1 23 (.iconst (-1)) 1 24 := ⟨by decide +kernel, rfl⟩
theorem d_FF_report_24 : am_D y_FF_report.2.2.1 24 (.ireturn) 1 25 := ⟨by decide +kernel, rfl⟩
theorem d_FF_report_25 : am_D y_FF_report.2.2.1 25 (.aload_n 0) 1 26 := ⟨by decide +kernel, rfl⟩
theorem d_FF_report_26 : am_D y_FF_report.2.2.1 26 (.getfield 18) 3 29 := ⟨by decide +kernel, rfl⟩
theorem d_FF_report_29 : am_D y_FF_report.2.2.1 29 (.iload_n 1) 1 30 := ⟨by decide +kernel, rfl⟩
theorem d_FF_report_30 : am_D y_FF_report.2.2.1 30 (.aaload) 1 31 := ⟨by decide +kernel, rfl⟩
theorem d_FF_report_31 : am_D y_FF_report.2.2.1 31 (.getfield 177) 3 34 := ⟨by decide +kernel, rfl⟩
theorem d_FF_report_34 : am_D y_FF_report.2.2.1 34 (.iconst 0) 1 35 := ⟨by decide +kernel, rfl⟩
theorem d_FF_report_35 : am_D y_FF_report.2.2.1 35 (.invokevirtual 130) 3 38 := ⟨by decide +kernel, rfl⟩
theorem d_FF_report_38 : am_D y_FF_report.2.2.1 38 (.checkcast 168) 3 41 := ⟨by decide +kernel, rfl⟩
theorem d_FF_report_41 : am_D y_FF_report.2.2.1 41 (.astore_n 2) 1 42 := ⟨by decide +kernel, rfl⟩
theorem d_FF_report_42 : am_D y_FF_report.2.2.1 42 (.aload_n 0) 1 43 := ⟨by decide +kernel, rfl⟩
theorem d_FF_report_43 : am_D y_FF_report.2.2.1 43 (.getfield 37) 3 46 := ⟨by decide +kernel, rfl⟩
theorem d_FF_report_46 : am_D y_FF_report.2.2.1 46 (.iload_n 1) 1 47 := ⟨by decide +kernel, rfl⟩
theorem d_FF_report_47 : am_D y_FF_report.2.2.1 47 (.aload_n 2) 1 48 := ⟨by decide +kernel, rfl⟩
theorem d_FF_report_48 : am_D y_FF_report.2.2.1 48 (.invokevirtual 180) 3 51 := ⟨by decide +kernel, rfl⟩
theorem d_FF_report_51 : am_D y_FF_report.2.2.1 51 (.aload_n 2) 1 52 := ⟨by decide +kernel, rfl⟩
theorem d_FF_report_52 : am_D y_FF_report.2.2.1 52 (.getfield 174) 3 55 := ⟨by decide +kernel, rfl⟩
theorem d_FF_report_55 : am_D y_FF_report.2.2.1 55 (.ireturn) 1 56 := ⟨by decide +kernel, rfl⟩
theorem d_FF_probe_0 : am_D y_FF_probe.2.2.1 0 (.aload_n 0) 1 1 := ⟨by decide +kernel, rfl⟩
theorem d_FF_probe_1 : am_D y_FF_probe.2.2.1 1 (.getfield 18) 3 4 := ⟨by decide +kernel, rfl⟩
theorem d_FF_probe_4 : am_D y_FF_probe.2.2.1 4 (.astore_n 1) 1 5 := ⟨by decide +kernel, rfl⟩
theorem d_FF_probe_5 : am_D y_FF_probe.2.2.1 5 (.aload_n 1) 1 6 := ⟨by decide +kernel, rfl⟩
theorem d_FF_probe_6 : am_D y_FF_probe.2.2.1 6 (.arraylength) 1 7 := ⟨by decide +kernel, rfl⟩
theorem d_FF_probe_7 : am_D y_FF_probe.2.2.1 7 (.istore_n 2) 1 8 := ⟨by decide +kernel, rfl⟩
theorem d_FF_probe_8 : am_D y_FF_probe.2.2.1 8 (.iconst 0) 1 9 := ⟨by decide +kernel, rfl⟩
theorem d_FF_probe_9 : am_D y_FF_probe.2.2.1 9 (.istore_n 3) 1 10 := ⟨by decide +kernel, rfl⟩
theorem d_FF_probe_10 : am_D y_FF_probe.2.2.1 10 (.iload_n 3) 1 11 := ⟨by decide +kernel, rfl⟩
theorem d_FF_probe_11 : am_D y_FF_probe.2.2.1 11 (.iload_n 2) 1 12 := ⟨by decide +kernel, rfl⟩
theorem d_FF_probe_12 : am_D y_FF_probe.2.2.1 12 (.if_icmp .ge 29) 3 15 := ⟨by decide +kernel, rfl⟩
theorem d_FF_probe_15 : am_D y_FF_probe.2.2.1 15 (.aload_n 1) 1 16 := ⟨by decide +kernel, rfl⟩
theorem d_FF_probe_16 : am_D y_FF_probe.2.2.1 16 (.iload_n 3) 1 17 := ⟨by decide +kernel, rfl⟩
theorem d_FF_probe_17 : am_D y_FF_probe.2.2.1 17 (.aaload) 1 18 := ⟨by decide +kernel, rfl⟩
theorem d_FF_probe_18 : am_D y_FF_probe.2.2.1 18 (.astore 4) 2 20 := ⟨by decide +kernel, rfl⟩
theorem d_FF_probe_20 : am_D y_FF_probe.2.2.1 20 (.aload 4) 2 22 := ⟨by decide +kernel, rfl⟩
theorem d_FF_probe_22 : am_D y_FF_probe.2.2.1 22 (.getfield 165) 3 25 := ⟨by decide +kernel, rfl⟩
theorem d_FF_probe_25 : am_D y_FF_probe.2.2.1 25 (.invokevirtual 116) 3 28 := ⟨by decide +kernel, rfl⟩
theorem d_FF_probe_28 : am_D y_FF_probe.2.2.1 28 (.bipush 16) 2 30 := ⟨by decide +kernel, rfl⟩
theorem d_FF_probe_30 : am_D y_FF_probe.2.2.1 30 (.if_icmp .lt 5) 3 33 := ⟨by decide +kernel, rfl⟩
theorem d_FF_probe_33 : am_D y_FF_probe.2.2.1 33 (.iconst 0) 1 34 := ⟨by decide +kernel, rfl⟩
theorem d_FF_probe_34 : am_D y_FF_probe.2.2.1 34 (.ireturn) 1 35 := ⟨by decide +kernel, rfl⟩
theorem d_FF_probe_35 : am_D y_FF_probe.2.2.1 35 (.iinc 3 1) 3 38 := ⟨by decide +kernel, rfl⟩
theorem d_FF_probe_38 : am_D y_FF_probe.2.2.1 38 (.goto (-28)) 3 41 := ⟨by decide +kernel, rfl⟩
theorem d_FF_probe_41 : am_D y_FF_probe.2.2.1 41 (.iconst 5) 1 42 := ⟨by decide +kernel, rfl⟩
theorem d_FF_probe_42 : am_D y_FF_probe.2.2.1 42 (.iconst (-1)) 1 43 := ⟨by decide +kernel, rfl⟩
theorem d_FF_probe_43 : am_D y_FF_probe.2.2.1 43 (.invokestatic 184) 3 46 := ⟨by decide +kernel, rfl⟩
theorem d_FF_probe_46 : am_D y_FF_probe.2.2.1 46 (.astore_n 1) 1 47 := ⟨by decide +kernel, rfl⟩
theorem d_FF_probe_47 : am_D y_FF_probe.2.2.1 47 (.aload_n 0) 1 48 := ⟨by decide +kernel, rfl⟩
theorem d_FF_probe_48 : am_D y_FF_probe.2.2.1 48 (.getfield 18) 3 51 := ⟨by decide +kernel, rfl⟩
theorem d_FF_probe_51 : am_D y_FF_probe.2.2.1 51 (.astore_n 2) 1 52 := ⟨by decide +kernel, rfl⟩
theorem d_FF_probe_52 : am_D y_FF_probe.2.2.1 52 (.aload_n 2) 1 53 := ⟨by decide +kernel, rfl⟩
theorem d_FF_probe_53 : am_D y_FF_probe.2.2.1 53 (.arraylength) 1 54 := ⟨by decide +kernel, rfl⟩
theorem d_FF_probe_54 : am_D y_FF_probe.2.2.1 54 (.istore_n 3) 1 55 := ⟨by decide +kernel, rfl⟩
theorem d_FF_probe_55 : am_D y_FF_probe.2.2.1 55 (.iconst 0) 1 56 := ⟨by decide +kernel, rfl⟩
theorem d_FF_probe_56 : am_D y_FF_probe.2.2.1 56 (.istore 4) 2 58 := ⟨by decide +kernel, rfl⟩
theorem d_FF_probe_58 : am_D y_FF_probe.2.2.1 58 (.iload 4) 2 60 := ⟨by decide +kernel, rfl⟩
theorem d_FF_probe_60 : am_D y_FF_probe.2.2.1 60 (.iload_n 3) 1 61 := ⟨by decide +kernel, rfl⟩
theorem d_FF_probe_61 : am_D y_FF_probe.2.2.1 61 (.if_icmp .ge 25) 3 64 := ⟨by decide +kernel, rfl⟩
theorem d_FF_probe_64 : am_D y_FF_probe.2.2.1 64 (.aload_n 2) 1 65 := ⟨by decide +kernel, rfl⟩
theorem d_FF_probe_65 : am_D y_FF_probe.2.2.1 65 (.iload 4) 2 67 := ⟨by decide +kernel, rfl⟩
theorem d_FF_probe_67 : am_D y_FF_probe.2.2.1 67 (.aaload) 1 68 := ⟨by decide +kernel, rfl⟩
theorem d_FF_probe_68 : am_D y_FF_probe.2.2.1 68 (.astore 5) 2 70 := ⟨by decide +kernel, rfl⟩
theorem d_FF_probe_70 : am_D y_FF_probe.2.2.1 70 (.aload 5) 2 72 := ⟨by decide +kernel, rfl⟩
theorem d_FF_probe_72 : am_D y_FF_probe.2.2.1 72 (.getfield 165) 3 75 := ⟨by decide +kernel, rfl⟩
theorem d_FF_probe_75 : am_D y_FF_probe.2.2.1 75 (.aload_n 1) 1 76 := ⟨by decide +kernel, rfl⟩
theorem d_FF_probe_76 : am_D y_FF_probe.2.2.1 76 (.invokevirtual 123) 3 79 := ⟨by decide +kernel, rfl⟩
theorem d_FF_probe_79 : am_D y_FF_probe.2.2.1 79 (.pop) 1 80 := ⟨by decide +kernel, rfl⟩
theorem d_FF_probe_80 : am_D y_FF_probe.2.2.1 80 (.iinc 4 1) 3 83 := ⟨by decide +kernel, rfl⟩
theorem d_FF_probe_83 : am_D y_FF_probe.2.2.1 83 (.goto (-25)) 3 86 := ⟨by decide +kernel, rfl⟩
theorem d_FF_probe_86 : am_D y_FF_probe.2.2.1 86 (.iconst 1) 1 87 := ⟨by decide +kernel, rfl⟩
theorem d_FF_probe_87 : am_D y_FF_probe.2.2.1 87 (.ireturn) 1 88 := ⟨by decide +kernel, rfl⟩
theorem d_FF_tick_0 : am_D y_FF_tick.2.2.1 0 (.aload_n 0) 1 1 := ⟨by decide +kernel, rfl⟩
theorem d_FF_tick_1 : am_D y_FF_tick.2.2.1 1 (.dup) 1 2 := ⟨by decide +kernel, rfl⟩
theorem d_FF_tick_2 : am_D y_FF_tick.2.2.1 2 (.getfield 44) 3 5 := ⟨by decide +kernel, rfl⟩
theorem d_FF_tick_5 : am_D y_FF_tick.2.2.1 5 (.iconst 1) 1 6 := ⟨by decide +kernel, rfl⟩
theorem d_FF_tick_6 : am_D y_FF_tick.2.2.1 6 (.iadd) 1 7 := ⟨by decide +kernel, rfl⟩
theorem d_FF_tick_7 : am_D y_FF_tick.2.2.1 7 (.putfield 44) 3 10 := ⟨by decide +kernel, rfl⟩
theorem d_FF_tick_10 : am_D y_FF_tick.2.2.1 10 (.iconst 0) 1 11 := ⟨by decide +kernel, rfl⟩
theorem d_FF_tick_11 : am_D y_FF_tick.2.2.1 11 (.istore_n 1) 1 12 := ⟨by decide +kernel, rfl⟩
theorem d_FF_tick_12 : am_D y_FF_tick.2.2.1 12 (.aload_n 0) 1 13 := ⟨by decide +kernel, rfl⟩
theorem d_FF_tick_13 : am_D y_FF_tick.2.2.1 13 (.getfield 18) 3 16 := ⟨by decide +kernel, rfl⟩
theorem d_FF_tick_16 : am_D y_FF_tick.2.2.1 16 (.astore_n 2) 1 17 := ⟨by decide +kernel, rfl⟩
theorem d_FF_tick_17 : am_D y_FF_tick.2.2.1 17 (.aload_n 2) 1 18 := ⟨by decide +kernel, rfl⟩
theorem d_FF_tick_18 : am_D y_FF_tick.2.2.1 18 (.arraylength) 1 19 := ⟨by decide +kernel, rfl⟩
theorem d_FF_tick_19 : am_D y_FF_tick.2.2.1 19 (.istore_n 3) 1 20 := ⟨by decide +kernel, rfl⟩
theorem d_FF_tick_20 : am_D y_FF_tick.2.2.1 20 (.iconst 0) 1 21 := ⟨by decide +kernel, rfl⟩
theorem d_FF_tick_21 : am_D y_FF_tick.2.2.1 21 (.istore 4) 2 23 := ⟨by decide +kernel, rfl⟩
theorem d_FF_tick_23 : am_D y_FF_tick.2.2.1 23 (.iload 4) 2 25 := ⟨by decide +kernel, rfl⟩
theorem d_FF_tick_25 : am_D y_FF_tick.2.2.1 25 (.iload_n 3) 1 26 := ⟨by decide +kernel, rfl⟩
theorem d_FF_tick_26 : am_D y_FF_tick.2.2.1 26 (.if_icmp .ge 31) 3 29 := ⟨by decide +kernel, rfl⟩
theorem d_FF_tick_29 : am_D y_FF_tick.2.2.1 29 (.aload_n 2) 1 30 := ⟨by decide +kernel, rfl⟩
theorem d_FF_tick_30 : am_D y_FF_tick.2.2.1 30 (.iload 4) 2 32 := ⟨by decide +kernel, rfl⟩
theorem d_FF_tick_32 : am_D y_FF_tick.2.2.1 32 (.aaload) 1 33 := ⟨by decide +kernel, rfl⟩
theorem d_FF_tick_33 : am_D y_FF_tick.2.2.1 33 (.astore 5) 2 35 := ⟨by decide +kernel, rfl⟩
theorem d_FF_tick_35 : am_D y_FF_tick.2.2.1 35 (.iload_n 1) 1 36 := ⟨by decide +kernel, rfl⟩
theorem d_FF_tick_36 : am_D y_FF_tick.2.2.1 36 (.aload 5) 2 38 := ⟨by decide +kernel, rfl⟩
theorem d_FF_tick_38 : am_D y_FF_tick.2.2.1 38 (.aload_n 0) 1 39 := ⟨by decide +kernel, rfl⟩
theorem d_FF_tick_39 : am_D y_FF_tick.2.2.1 39 (.getfield 44) 3 42 := ⟨by decide +kernel, rfl⟩
theorem d_FF_tick_42 : am_D y_FF_tick.2.2.1 42 (.aload_n 0) 1 43 := ⟨by decide +kernel, rfl⟩
theorem d_FF_tick_43 : am_D y_FF_tick.2.2.1 43 (.getfield 22) 3 46 := ⟨by decide +kernel, rfl⟩
theorem d_FF_tick_46 : am_D y_FF_tick.2.2.1 46 (.invokevirtual 188) 3 49 := ⟨by decide +kernel, rfl⟩
theorem d_FF_tick_49 : am_D y_FF_tick.2.2.1 49 (.iadd) 1 50 := ⟨by decide +kernel, rfl⟩
theorem d_FF_tick_50 : am_D y_FF_tick.2.2.1 50 (.istore_n 1) 1 51 := ⟨by decide +kernel, rfl⟩
theorem d_FF_tick_51 : am_D y_FF_tick.2.2.1 51 (.iinc 4 1) 3 54 := ⟨by decide +kernel, rfl⟩
theorem d_FF_tick_54 : am_D y_FF_tick.2.2.1 54 (.goto (-31)) 3 57 := ⟨by decide +kernel, rfl⟩
theorem d_FF_tick_57 : am_D y_FF_tick.2.2.1 57 (.iload_n 1) 1 58 := ⟨by decide +kernel, rfl⟩
theorem d_FF_tick_58 : am_D y_FF_tick.2.2.1 58 (.ireturn) 1 59 := ⟨by decide +kernel, rfl⟩
theorem d_Nd_dropOldRules_0 : am_D y_Nd_dropOldRules.2.2.1 0 (.aload_n 0) 1 1 := ⟨by decide +kernel, rfl⟩
theorem d_Nd_dropOldRules_1 : am_D y_Nd_dropOldRules.2.2.1 1 (.getfield 32) 3 4 := ⟨by decide +kernel, rfl⟩
theorem d_Nd_dropOldRules_4 : am_D y_Nd_dropOldRules.2.2.1 4 (.invokevirtual 41) 3 7 := ⟨by decide +kernel, rfl⟩
theorem d_Nd_dropOldRules_7 : am_D y_Nd_dropOldRules.2.2.1 7 (.istore_n 3) 1 8 := ⟨by decide +kernel, rfl⟩
theorem d_Nd_dropOldRules_8 : am_D y_Nd_dropOldRules.2.2.1 8 (.iconst 0) 1 9 := ⟨by decide +kernel, rfl⟩
theorem d_Nd_dropOldRules_9 : am_D y_Nd_dropOldRules.2.2.1 9 (.istore 4) 2 11 := ⟨by decide +kernel, rfl⟩
theorem d_Nd_dropOldRules_11 : am_D y_Nd_dropOldRules.2.2.1 11 (.iconst 0) 1 12 := ⟨by decide +kernel, rfl⟩
theorem d_Nd_dropOldRules_12 : am_D y_Nd_dropOldRules.2.2.1 12 (.istore 5) 2 14 := ⟨by decide +kernel, rfl⟩
theorem d_Nd_dropOldRules_14 : am_D y_Nd_dropOldRules.2.2.1 14 (.iload 5) 2 16 := ⟨by decide +kernel, rfl⟩
theorem d_Nd_dropOldRules_16 : am_D y_Nd_dropOldRules.2.2.1 16 (.iload_n 3) 1 17 := ⟨by decide +kernel, rfl⟩
theorem d_Nd_dropOldRules_17 : am_D y_Nd_dropOldRules.2.2.1 17 (.if_icmp .ge 72) 3 20 := ⟨by decide +kernel, rfl⟩
theorem d_Nd_dropOldRules_20 : am_D y_Nd_dropOldRules.2.2.1 20 (.aload_n 0) 1 21 := ⟨by decide +kernel, rfl⟩
theorem d_Nd_dropOldRules_21 : am_D y_Nd_dropOldRules.2.2.1 21 (.getfield 32) 3 24 := ⟨by decide +kernel, rfl⟩
theorem d_Nd_dropOldRules_24 : am_D y_Nd_dropOldRules.2.2.1 24 (.iload 4) 2 26 := ⟨by decide +kernel, rfl⟩
theorem d_Nd_dropOldRules_26 : am_D y_Nd_dropOldRules.2.2.1 26 (.invokevirtual 111) 3 29 := ⟨by decide +kernel, rfl⟩
theorem d_Nd_dropOldRules_29 : am_D y_Nd_dropOldRules.2.2.1 29 (.checkcast 134) 3 32 := ⟨by decide +kernel, rfl⟩
theorem d_Nd_dropOldRules_32 : am_D y_Nd_dropOldRules.2.2.1 32 (.astore 6) 2 34 := ⟨by decide +kernel, rfl⟩
theorem d_Nd_dropOldRules_34 : am_D y_Nd_dropOldRules.2.2.1 34 (.aload 6) 2 36 := ⟨by decide +kernel, rfl⟩
theorem d_Nd_dropOldRules_36 : am_D y_Nd_dropOldRules.2.2.1 36 (.iload_n 1) 1 37 := ⟨by decide +kernel, rfl⟩
theorem d_Nd_dropOldRules_37 : am_D y_Nd_dropOldRules.2.2.1 37 (.iload_n 2) 1 38 := ⟨by decide +kernel, rfl⟩
theorem d_Nd_dropOldRules_38 : am_D y_Nd_dropOldRules.2.2.1 38 (.invokevirtual 193) 3 41 := ⟨by decide +kernel, rfl⟩
theorem d_Nd_dropOldRules_41 : am_D y_Nd_dropOldRules.2.2.1 41 (.ifCond .eq 39) 3 44 := ⟨by decide +kernel, rfl⟩
theorem d_Nd_dropOldRules_44 : am_D y_Nd_dropOldRules.2.2.1 44 (.aload_n 0) 1 45 := ⟨by decide +kernel, rfl⟩
theorem d_Nd_dropOldRules_45 : am_D y_Nd_dropOldRules.2.2.1 45 (.getfield 32) 3 48 := ⟨by decide +kernel, rfl⟩
theorem d_Nd_dropOldRules_48 : am_D y_Nd_dropOldRules.2.2.1 48 (.iload 4) 2 50 := ⟨by decide +kernel, rfl⟩
theorem d_Nd_dropOldRules_50 : am_D y_Nd_dropOldRules.2.2.1 50 (.invokevirtual 181) 3 53 := ⟨by decide +kernel, rfl⟩
theorem d_Nd_dropOldRules_53 : am_D y_Nd_dropOldRules.2.2.1 53 (.pop) 1 54 := ⟨by decide +kernel, rfl⟩
theorem d_Nd_dropOldRules_54 : am_D y_Nd_dropOldRules.2.2.1 54 (.aload_n 0) 1 55 := ⟨by decide +kernel, rfl⟩
theorem d_Nd_dropOldRules_55 : am_D y_Nd_dropOldRules.2.2.1 55 (.getfield 38) 3 58 := ⟨by decide +kernel, rfl⟩
theorem d_Nd_dropOldRules_58 : am_D y_Nd_dropOldRules.2.2.1 58 (.iconst 4) 1 59 := ⟨by decide +kernel, rfl⟩
theorem d_Nd_dropOldRules_59 : am_D y_Nd_dropOldRules.2.2.1 59 (.iconst (-1)) 1 60 := ⟨by decide +kernel, rfl⟩
theorem d_Nd_dropOldRules_60 : am_D y_Nd_dropOldRules.2.2.1 60 (.aload 6) 2 62 := ⟨by decide +kernel, rfl⟩
theorem d_Nd_dropOldRules_62 : am_D y_Nd_dropOldRules.2.2.1 62 (.getfield 145) 3 65 := ⟨by decide +kernel, rfl⟩
theorem d_Nd_dropOldRules_65 : am_D y_Nd_dropOldRules.2.2.1 65 (.aload 6) 2 67 := ⟨by decide +kernel, rfl⟩
theorem d_Nd_dropOldRules_67 : am_D y_Nd_dropOldRules.2.2.1 67 (.getfield 146) 3 70 := ⟨by decide +kernel, rfl⟩
theorem d_Nd_dropOldRules_70 : am_D y_Nd_dropOldRules.2.2.1 70 (.invokestatic 174) 3 73 := ⟨by decide +kernel, rfl⟩
theorem d_Nd_dropOldRules_73 : am_D y_Nd_dropOldRules.2.2.1 73 (.invokevirtual 61) 3 76 := ⟨by decide +kernel, rfl⟩
theorem d_Nd_dropOldRules_76 : am_D y_Nd_dropOldRules.2.2.1 76 (.pop) 1 77 := ⟨by decide +kernel, rfl⟩
theorem d_Nd_dropOldRules_77 : am_D y_Nd_dropOldRules.2.2.1 77 (.goto 6) 3 80 := ⟨by decide +kernel, rfl⟩
theorem d_Nd_dropOldRules_80 : am_D y_Nd_dropOldRules.2.2.1 80 (.iinc 4 1) 3 83 := ⟨by decide +kernel, rfl⟩
theorem d_Nd_dropOldRules_83 : am_D y_Nd_dropOldRules.2.2.1 83 (.iinc 5 1) 3 86 := ⟨by decide +kernel, rfl⟩
theorem d_Nd_dropOldRules_86 : am_D y_Nd_dropOldRules.2.2.1 86 (.goto (-72)) 3 89 := ⟨by decide +kernel, rfl⟩
theorem d_Nd_dropOldRules_89 : am_D y_Nd_dropOldRules.2.2.1 89 (.iload_n 3) 1 90 := ⟨by decide +kernel, rfl⟩
theorem d_Nd_dropOldRules_90 : am_D y_Nd_dropOldRules.2.2.1 90 (.iload 4) 2 92 := ⟨by decide +kernel, rfl⟩
theorem d_Nd_dropOldRules_92 : am_D y_Nd_dropOldRules.2.2.1 92 (.isub) 1 93 := ⟨by decide +kernel, rfl⟩
theorem d_Nd_dropOldRules_93 : am_D y_Nd_dropOldRules.2.2.1 93 (.ireturn) 1 94 := ⟨by decide +kernel, rfl⟩
theorem d_Rl_isOld_0 : am_D y_Rl_isOld.2.2.1 0 (.iload_n 1) 1 1 := ⟨by decide +kernel, rfl⟩
theorem d_Rl_isOld_1 : am_D y_Rl_isOld.2.2.1 1 (.aload_n 0) 1 2 := ⟨by decide +kernel, rfl⟩
theorem d_Rl_isOld_2 : am_D y_Rl_isOld.2.2.1 2 (.getfield 24) 3 5 := ⟨by decide +kernel, rfl⟩
theorem d_Rl_isOld_5 : am_D y_Rl_isOld.2.2.1 5 (.isub) 1 6 := ⟨by decide +kernel, rfl⟩
theorem d_Rl_isOld_6 : am_D y_Rl_isOld.2.2.1 6 (.iload_n 2) 1 7 := ⟨by decide +kernel, rfl⟩
theorem d_Rl_isOld_7 : am_D y_Rl_isOld.2.2.1 7 (.if_icmp .ge 15) 3 10 := ⟨by decide +kernel, rfl⟩
theorem d_Rl_isOld_10 : am_D y_Rl_isOld.2.2.1 10 (.iload_n 1) 1 11 := ⟨by decide +kernel, rfl⟩
theorem d_Rl_isOld_11 : am_D y_Rl_isOld.2.2.1 11 (.aload_n 0) 1 12 := ⟨by decide +kernel, rfl⟩
theorem d_Rl_isOld_12 : am_D y_Rl_isOld.2.2.1 12 (.getfield 21) 3 15 := ⟨by decide +kernel, rfl⟩
theorem d_Rl_isOld_15 : am_D y_Rl_isOld.2.2.1 15 (.isub) 1 16 := ⟨by decide +kernel, rfl⟩
theorem d_Rl_isOld_16 : am_D y_Rl_isOld.2.2.1 16 (.iconst 4) 1 17 := ⟨by decide +kernel, rfl⟩
theorem d_Rl_isOld_17 : am_D y_Rl_isOld.2.2.1 17 (.iload_n 2) 1 18 := ⟨by decide +kernel, rfl⟩
theorem d_Rl_isOld_18 : am_D y_Rl_isOld.2.2.1 18 (.imul) 1 19 := ⟨by decide +kernel, rfl⟩
theorem d_Rl_isOld_19 : am_D y_Rl_isOld.2.2.1 19 (.if_icmp .lt 7) 3 22 := ⟨by decide +kernel, rfl⟩
theorem d_Rl_isOld_22 : am_D y_Rl_isOld.2.2.1 22 (.iconst 1) 1 23 := ⟨by decide +kernel, rfl⟩
theorem d_Rl_isOld_23 : am_D y_Rl_isOld.2.2.1 23 (.goto 4) 3 26 := ⟨by decide +kernel, rfl⟩
theorem d_Rl_isOld_26 : am_D y_Rl_isOld.2.2.1 26 (.iconst 0) 1 27 := ⟨by decide +kernel, rfl⟩
theorem d_Rl_isOld_27 : am_D y_Rl_isOld.2.2.1 27 (.ireturn) 1 28 := ⟨by decide +kernel, rfl⟩
theorem d_FF_waiting_0 : am_D y_FF_waiting.2.2.1 0 (.aload_n 0) 1 1 := ⟨by decide +kernel, rfl⟩
theorem d_FF_waiting_1 : am_D y_FF_waiting.2.2.1 1 (.iload_n 1) 1 2 := ⟨by decide +kernel, rfl⟩
theorem d_FF_waiting_2 : am_D y_FF_waiting.2.2.1 2 (.invokevirtual 103) 3 5 := ⟨by decide +kernel, rfl⟩
theorem d_FF_waiting_5 : am_D y_FF_waiting.2.2.1 5 (.ifCond .ne 5) 3 8 := ⟨by decide +kernel, rfl⟩
theorem d_FF_waiting_8 : am_D y_FF_waiting.2.2.1 8 (.iconst (-1)) 1 9 := ⟨by decide +kernel, rfl⟩
theorem d_FF_waiting_9 : am_D y_FF_waiting.2.2.1 9 (.ireturn) 1 10 := ⟨by decide +kernel, rfl⟩
theorem d_FF_waiting_10 : am_D y_FF_waiting.2.2.1 10 (.iload_n 2) 1 11 := ⟨by decide +kernel, rfl⟩
theorem d_FF_waiting_11 : am_D y_FF_waiting.2.2.1 11 (.ifCond .lt 26) 3 14 := ⟨by decide +kernel, rfl⟩
theorem d_FF_waiting_14 : am_D y_FF_waiting.2.2.1 14 (.iload_n 2) 1 15 := ⟨by decide +kernel, rfl⟩
theorem d_FF_waiting_15 : am_D y_FF_waiting.2.2.1 15 (.iconst 4) 1 16 := ⟨by decide +kernel, rfl⟩
theorem d_FF_waiting_16 : am_D y_FF_waiting.2.2.1 16 (.if_icmp .ge 21) 3 19 := ⟨by decide +kernel, rfl⟩
theorem d_FF_waiting_19 : am_D y_FF_waiting.2.2.1 19 (.aload_n 0) 1 20 := ⟨by decide +kernel, rfl⟩
theorem d_FF_waiting_20 : am_D y_FF_waiting.2.2.1 20 (.getfield 18) 3 23 := ⟨by decide +kernel, rfl⟩
theorem d_FF_waiting_23 : am_D y_FF_waiting.2.2.1 23 (.iload_n 1) 1 24 := ⟨by decide +kernel, rfl⟩
theorem d_FF_waiting_24 : am_D y_FF_waiting.2.2.1 24 (.aaload) 1 25 := ⟨by decide +kernel, rfl⟩
theorem d_FF_waiting_25 : am_D y_FF_waiting.2.2.1 25 (.getfield 51) 3 28 := ⟨by decide +kernel, rfl⟩
theorem d_FF_waiting_28 : am_D y_FF_waiting.2.2.1 28 (.iload_n 2) 1 29 := ⟨by decide +kernel, rfl⟩
theorem d_FF_waiting_29 : am_D y_FF_waiting.2.2.1 29 (.aaload) 1 30 := ⟨by decide +kernel, rfl⟩
theorem d_FF_waiting_30 : am_D y_FF_waiting.2.2.1 30 (.getfield 153) 3 33 := ⟨by decide +kernel, rfl⟩
theorem d_FF_waiting_33 : am_D y_FF_waiting.2.2.1 33 (.invokevirtual 116) 3 36 := ⟨by decide +kernel, rfl⟩
theorem d_FF_waiting_36 : am_D y_FF_waiting.2.2.1 36 (.ireturn) 1 37 := ⟨by decide +kernel, rfl⟩
theorem d_FF_waiting_37 : am_D y_FF_waiting.2.2.1 37 (.iload_n 2) 1 38 := ⟨by decide +kernel, rfl⟩
theorem d_FF_waiting_38 : am_D y_FF_waiting.2.2.1 38 (.lookupswitch 52 #[(4, 26), (5, 39)]) 26 64 := ⟨by decide +kernel, rfl⟩
theorem d_FF_waiting_64 : am_D y_FF_waiting.2.2.1 64 (.aload_n 0) 1 65 := ⟨by decide +kernel, rfl⟩
theorem d_FF_waiting_65 : am_D y_FF_waiting.2.2.1 65 (.getfield 18) 3 68 := ⟨by decide +kernel, rfl⟩
theorem d_FF_waiting_68 : am_D y_FF_waiting.2.2.1 68 (.iload_n 1) 1 69 := ⟨by decide +kernel, rfl⟩
theorem d_FF_waiting_69 : am_D y_FF_waiting.2.2.1 69 (.aaload) 1 70 := ⟨by decide +kernel, rfl⟩
theorem d_FF_waiting_70 : am_D y_FF_waiting.2.2.1 70 (.getfield 165) 3 73 := ⟨by decide +kernel, rfl⟩
theorem d_FF_waiting_73 : am_D y_FF_waiting.2.2.1 73 (.invokevirtual 116) 3 76 := ⟨by decide +kernel, rfl⟩
theorem d_FF_waiting_76 : am_D y_FF_waiting.2.2.1 76 (.ireturn) 1 77 := ⟨by decide +kernel, rfl⟩
theorem d_FF_waiting_77 : am_D y_FF_waiting.2.2.1 77 (.aload_n 0) 1 78 := ⟨by decide +kernel, rfl⟩
theorem d_FF_waiting_78 : am_D y_FF_waiting.2.2.1 78 (.getfield 18) 3 81 := ⟨by decide +kernel, rfl⟩
theorem d_FF_waiting_81 : am_D y_FF_waiting.2.2.1 81 (.iload_n 1) 1 82 := ⟨by decide +kernel, rfl⟩
theorem d_FF_waiting_82 : am_D y_FF_waiting.2.2.1 82 (.aaload) 1 83 := ⟨by decide +kernel, rfl⟩
theorem d_FF_waiting_83 : am_D y_FF_waiting.2.2.1 83 (.getfield 177) 3 86 := ⟨by decide +kernel, rfl⟩
theorem d_FF_waiting_86 : am_D y_FF_waiting.2.2.1 86 (.invokevirtual 116) 3 89 := ⟨by decide +kernel, rfl⟩
theorem d_FF_waiting_89 : am_D y_FF_waiting.2.2.1 89 (.ireturn) 1 90 := ⟨by decide +kernel, rfl⟩
theorem d_FF_waiting_90 : am_D y_FF_waiting.2.2.1 90 (.iconst (-1)) 1 91 := ⟨by decide +kernel, rfl⟩
theorem d_FF_waiting_91 : am_D y_FF_waiting.2.2.1 91 (.ireturn) 1 92 := ⟨by decide +kernel, rfl⟩
theorem d_FF_rule_0 : am_D y_FF_rule.2.2.1 0 (.aload_n 0) 1 1 := ⟨by decide +kernel, rfl⟩
theorem d_FF_rule_1 : am_D y_FF_rule.2.2.1 1 (.iload_n 1) 1 2 := ⟨by decide +kernel, rfl⟩
theorem d_FF_rule_2 : am_D y_FF_rule.2.2.1 2 (.invokevirtual 103) 3 5 := ⟨by decide +kernel, rfl⟩
theorem d_FF_rule_5 : am_D y_FF_rule.2.2.1 5 (.ifCond .ne 5) 3 8 := ⟨by decide +kernel, rfl⟩
theorem d_FF_rule_8 : am_D y_FF_rule.2.2.1 8 (.iconst (-1)) 1 9 := ⟨by decide +kernel, rfl⟩
theorem d_FF_rule_9 : am_D y_FF_rule.2.2.1 9 (.ireturn) 1 10 := ⟨by decide +kernel, rfl⟩
theorem d_FF_rule_10 : am_D y_FF_rule.2.2.1 10 (.aload_n 0) 1 11 := ⟨by decide +kernel, rfl⟩
theorem d_FF_rule_11 : am_D y_FF_rule.2.2.1 11 (.getfield 18) 3 14 := ⟨by decide +kernel, rfl⟩
theorem d_FF_rule_14 : am_D y_FF_rule.2.2.1 14 (.iload_n 1) 1 15 := ⟨by decide +kernel, rfl⟩
theorem d_FF_rule_15 : am_D y_FF_rule.2.2.1 15 (.aaload) 1 16 := ⟨by decide +kernel, rfl⟩
theorem d_FF_rule_16 : am_D y_FF_rule.2.2.1 16 (.iload_n 2) 1 17 := ⟨by decide +kernel, rfl⟩
theorem d_FF_rule_17 : am_D y_FF_rule.2.2.1 17 (.iload_n 3) 1 18 := ⟨by decide +kernel, rfl⟩
theorem d_FF_rule_18 : am_D y_FF_rule.2.2.1 18 (.invokevirtual 191) 3 21 := ⟨by decide +kernel, rfl⟩
theorem d_FF_rule_21 : am_D y_FF_rule.2.2.1 21 (.istore 5) 2 23 := ⟨by decide +kernel, rfl⟩
theorem d_FF_rule_23 : am_D y_FF_rule.2.2.1 23 (.iload 5) 2 25 := ⟨by decide +kernel, rfl⟩
theorem d_FF_rule_25 : am_D y_FF_rule.2.2.1 25 (.iconst (-1)) 1 26 := ⟨by decide +kernel, rfl⟩
theorem d_FF_rule_26 : am_D y_FF_rule.2.2.1 26 (.if_icmp .ne 5) 3 29 := ⟨by decide +kernel, rfl⟩
theorem d_FF_rule_29 : am_D y_FF_rule.2.2.1 29 (.iconst (-1)) 1 30 := ⟨by decide +kernel, rfl⟩
theorem d_FF_rule_30 : am_D y_FF_rule.2.2.1 30 (.ireturn) 1 31 := ⟨by decide +kernel, rfl⟩
theorem d_FF_rule_31 : am_D y_FF_rule.2.2.1 31 (.aload_n 0) 1 32 := ⟨by decide +kernel, rfl⟩
theorem d_FF_rule_32 : am_D y_FF_rule.2.2.1 32 (.getfield 18) 3 35 := ⟨by decide +kernel, rfl⟩
theorem d_FF_rule_35 : am_D y_FF_rule.2.2.1 35 (.iload_n 1) 1 36 := ⟨by decide +kernel, rfl⟩
theorem d_FF_rule_36 : am_D y_FF_rule.2.2.1 36 (.aaload) 1 37 := ⟨by decide +kernel, rfl⟩
theorem d_FF_rule_37 : am_D y_FF_rule.2.2.1 37 (.getfield 194) 3 40 := ⟨by decide +kernel, rfl⟩
theorem d_FF_rule_40 : am_D y_FF_rule.2.2.1 40 (.iload 5) 2 42 := ⟨by decide +kernel, rfl⟩
theorem d_FF_rule_42 : am_D y_FF_rule.2.2.1 42 (.invokevirtual 197) 3 45 := ⟨by decide +kernel, rfl⟩
theorem d_FF_rule_45 : am_D y_FF_rule.2.2.1 45 (.checkcast 200) 3 48 := ⟨by decide +kernel, rfl⟩
theorem d_FF_rule_48 : am_D y_FF_rule.2.2.1 48 (.astore 6) 2 50 := ⟨by decide +kernel, rfl⟩
theorem d_FF_rule_50 : am_D y_FF_rule.2.2.1 50 (.iload 4) 2 52 := ⟨by decide +kernel, rfl⟩
theorem d_FF_rule_52 : am_D y_FF_rule.2.2.1 52 (.tableswitch 43 0 2 #[28, 34, 40]) 28 80 := ⟨by decide +kernel, rfl⟩
theorem d_FF_rule_80 : am_D y_FF_rule.2.2.1 80 (.aload 6) 2 82 := ⟨by decide +kernel, rfl⟩
theorem d_FF_rule_82 : am_D y_FF_rule.2.2.1 82 (.getfield 202) 3 85 := ⟨by decide +kernel, rfl⟩
theorem d_FF_rule_85 : am_D y_FF_rule.2.2.1 85 (.ireturn) 1 86 := ⟨by decide +kernel, rfl⟩
theorem d_FF_rule_86 : am_D y_FF_rule.2.2.1 86 (.aload 6) 2 88 := ⟨by decide +kernel, rfl⟩
theorem d_FF_rule_88 : am_D y_FF_rule.2.2.1 88 (.getfield 203) 3 91 := ⟨by decide +kernel, rfl⟩
theorem d_FF_rule_91 : am_D y_FF_rule.2.2.1 91 (.ireturn) 1 92 := ⟨by decide +kernel, rfl⟩
theorem d_FF_rule_92 : am_D y_FF_rule.2.2.1 92 (.iload 5) 2 94 := ⟨by decide +kernel, rfl⟩
theorem d_FF_rule_94 : am_D y_FF_rule.2.2.1 94 (.ireturn) 1 95 := ⟨by decide +kernel, rfl⟩
theorem d_FF_rule_95 : am_D y_FF_rule.2.2.1 95 (.iconst (-1)) 1 96 := ⟨by decide +kernel, rfl⟩
theorem d_FF_rule_96 : am_D y_FF_rule.2.2.1 96 (.ireturn) 1 97 := ⟨by decide +kernel, rfl⟩
theorem d_FF_hits_0 : am_D y_FF_hits.2.2.1 0 (.aload_n 0) 1 1 := ⟨by decide +kernel, rfl⟩
theorem d_FF_hits_1 : am_D y_FF_hits.2.2.1 1 (.iload_n 1) 1 2 := ⟨by decide +kernel, rfl⟩
theorem d_FF_hits_2 : am_D y_FF_hits.2.2.1 2 (.iload_n 2) 1 3 := ⟨by decide +kernel, rfl⟩
theorem d_FF_hits_3 : am_D y_FF_hits.2.2.1 3 (.invokevirtual 127) 3 6 := ⟨by decide +kernel, rfl⟩
theorem d_FF_hits_6 : am_D y_FF_hits.2.2.1 6 (.ifCond .ne 5) 3 9 := ⟨by decide +kernel, rfl⟩
theorem d_FF_hits_9 : am_D y_FF_hits.2.2.1 9 (.iconst (-1)) 1 10 := ⟨by decide +kernel, rfl⟩
theorem d_FF_hits_10 : am_D y_FF_hits.2.2.1 10 (.ireturn) 1 11 := ⟨by decide +kernel, rfl⟩
theorem d_FF_hits_11 : am_D y_FF_hits.2.2.1 11 (.aload_n 0) 1 12 := ⟨by decide +kernel, rfl⟩
theorem d_FF_hits_12 : am_D y_FF_hits.2.2.1 12 (.getfield 18) 3 15 := ⟨by decide +kernel, rfl⟩
theorem d_FF_hits_15 : am_D y_FF_hits.2.2.1 15 (.iload_n 1) 1 16 := ⟨by decide +kernel, rfl⟩
theorem d_FF_hits_16 : am_D y_FF_hits.2.2.1 16 (.aaload) 1 17 := ⟨by decide +kernel, rfl⟩
theorem d_FF_hits_17 : am_D y_FF_hits.2.2.1 17 (.getfield 112) 3 20 := ⟨by decide +kernel, rfl⟩
theorem d_FF_hits_20 : am_D y_FF_hits.2.2.1 20 (.iload_n 2) 1 21 := ⟨by decide +kernel, rfl⟩
theorem d_FF_hits_21 : am_D y_FF_hits.2.2.1 21 (.invokevirtual 197) 3 24 := ⟨by decide +kernel, rfl⟩
theorem d_FF_hits_24 : am_D y_FF_hits.2.2.1 24 (.checkcast 108) 3 27 := ⟨by decide +kernel, rfl⟩
theorem d_FF_hits_27 : am_D y_FF_hits.2.2.1 27 (.getfield 134) 3 30 := ⟨by decide +kernel, rfl⟩
theorem d_FF_hits_30 : am_D y_FF_hits.2.2.1 30 (.ireturn) 1 31 := ⟨by decide +kernel, rfl⟩
theorem d_FF_taken_0 : am_D y_FF_taken.2.2.1 0 (.aload_n 0) 1 1 := ⟨by decide +kernel, rfl⟩
theorem d_FF_taken_1 : am_D y_FF_taken.2.2.1 1 (.iload_n 1) 1 2 := ⟨by decide +kernel, rfl⟩
theorem d_FF_taken_2 : am_D y_FF_taken.2.2.1 2 (.invokevirtual 137) 3 5 := ⟨by decide +kernel, rfl⟩
theorem d_FF_taken_5 : am_D y_FF_taken.2.2.1 5 (.ifCond .ne 5) 3 8 := ⟨by decide +kernel, rfl⟩
theorem d_FF_taken_8 : am_D y_FF_taken.2.2.1 8 (.iconst (-1)) 1 9 := ⟨by decide +kernel, rfl⟩
theorem d_FF_taken_9 : am_D y_FF_taken.2.2.1 9 (.ireturn) 1 10 := ⟨by decide +kernel, rfl⟩
theorem d_FF_taken_10 : am_D y_FF_taken.2.2.1 10 (.iload_n 2) 1 11 := ⟨by decide +kernel, rfl⟩
theorem d_FF_taken_11 : am_D y_FF_taken.2.2.1 11 (.tableswitch 55 0 2 #[25, 35, 45]) 25 36 := ⟨by decide +kernel, rfl⟩
theorem d_FF_taken_36 : am_D y_FF_taken.2.2.1 36 (.aload_n 0) 1 37 := ⟨by decide +kernel, rfl⟩
theorem d_FF_taken_37 : am_D y_FF_taken.2.2.1 37 (.getfield 28) 3 40 := ⟨by decide +kernel, rfl⟩
theorem d_FF_taken_40 : am_D y_FF_taken.2.2.1 40 (.iload_n 1) 1 41 := ⟨by decide +kernel, rfl⟩
theorem d_FF_taken_41 : am_D y_FF_taken.2.2.1 41 (.aaload) 1 42 := ⟨by decide +kernel, rfl⟩
theorem d_FF_taken_42 : am_D y_FF_taken.2.2.1 42 (.getfield 206) 3 45 := ⟨by decide +kernel, rfl⟩
theorem d_FF_taken_45 : am_D y_FF_taken.2.2.1 45 (.ireturn) 1 46 := ⟨by decide +kernel, rfl⟩
theorem d_FF_taken_46 : am_D y_FF_taken.2.2.1 46 (.aload_n 0) 1 47 := ⟨by decide +kernel, rfl⟩
theorem d_FF_taken_47 : am_D y_FF_taken.2.2.1 47 (.getfield 28) 3 50 := ⟨by decide +kernel, rfl⟩
theorem d_FF_taken_50 : am_D y_FF_taken.2.2.1 50 (.iload_n 1) 1 51 := ⟨by decide +kernel, rfl⟩
theorem d_FF_taken_51 : am_D y_FF_taken.2.2.1 51 (.aaload) 1 52 := ⟨by decide +kernel, rfl⟩
theorem d_FF_taken_52 : am_D y_FF_taken.2.2.1 52 (.getfield 209) 3 55 := ⟨by decide +kernel, rfl⟩
theorem d_FF_taken_55 : am_D y_FF_taken.2.2.1 55 (.ireturn) 1 56 := ⟨by decide +kernel, rfl⟩
theorem d_FF_taken_56 : am_D y_FF_taken.2.2.1 56 (.aload_n 0) 1 57 := ⟨by decide +kernel, rfl⟩
theorem d_FF_taken_57 : am_D y_FF_taken.2.2.1 57 (.getfield 28) 3 60 := ⟨by decide +kernel, rfl⟩
theorem d_FF_taken_60 : am_D y_FF_taken.2.2.1 60 (.iload_n 1) 1 61 := ⟨by decide +kernel, rfl⟩
theorem d_FF_taken_61 : am_D y_FF_taken.2.2.1 61 (.aaload) 1 62 := ⟨by decide +kernel, rfl⟩
theorem d_FF_taken_62 : am_D y_FF_taken.2.2.1 62 (.getfield 212) 3 65 := ⟨by decide +kernel, rfl⟩
theorem d_FF_taken_65 : am_D y_FF_taken.2.2.1 65 (.ireturn) 1 66 := ⟨by decide +kernel, rfl⟩
theorem d_FF_taken_66 : am_D y_FF_taken.2.2.1 66 (.iconst (-1)) 1 67 := ⟨by decide +kernel, rfl⟩
theorem d_FF_taken_67 : am_D y_FF_taken.2.2.1 67 (.ireturn) 1 68 := ⟨by decide +kernel, rfl⟩
theorem d_FF_known_0 : am_D y_FF_known.2.2.1 0 (.aload_n 0) 1 1 := ⟨by decide +kernel, rfl⟩
theorem d_FF_known_1 : am_D y_FF_known.2.2.1 1 (.iload_n 1) 1 2 := ⟨by decide +kernel, rfl⟩
theorem d_FF_known_2 : am_D y_FF_known.2.2.1 2 (.iload_n 2) 1 3 := ⟨by decide +kernel, rfl⟩
theorem d_FF_known_3 : am_D y_FF_known.2.2.1 3 (.invokevirtual 47) 3 6 := ⟨by decide +kernel, rfl⟩
theorem d_FF_known_6 : am_D y_FF_known.2.2.1 6 (.ifCond .ne 5) 3 9 := ⟨by decide +kernel, rfl⟩
theorem d_FF_known_9 : am_D y_FF_known.2.2.1 9 (.iconst (-1)) 1 10 := ⟨by decide +kernel, rfl⟩
theorem d_FF_known_10 : am_D y_FF_known.2.2.1 10 (.ireturn) 1 11 := ⟨by decide +kernel, rfl⟩
theorem d_FF_known_11 : am_D y_FF_known.2.2.1 11 (.aload_n 0) 1 12 := ⟨by decide +kernel, rfl⟩
theorem d_FF_known_12 : am_D y_FF_known.2.2.1 12 (.getfield 37) 3 15 := ⟨by decide +kernel, rfl⟩
theorem d_FF_known_15 : am_D y_FF_known.2.2.1 15 (.getfield 215) 3 18 := ⟨by decide +kernel, rfl⟩
theorem d_FF_known_18 : am_D y_FF_known.2.2.1 18 (.iload_n 1) 1 19 := ⟨by decide +kernel, rfl⟩
theorem d_FF_known_19 : am_D y_FF_known.2.2.1 19 (.iload_n 2) 1 20 := ⟨by decide +kernel, rfl⟩
theorem d_FF_known_20 : am_D y_FF_known.2.2.1 20 (.invokestatic 71) 3 23 := ⟨by decide +kernel, rfl⟩
theorem d_FF_known_23 : am_D y_FF_known.2.2.1 23 (.iaload) 1 24 := ⟨by decide +kernel, rfl⟩
theorem d_FF_known_24 : am_D y_FF_known.2.2.1 24 (.ireturn) 1 25 := ⟨by decide +kernel, rfl⟩
theorem d_FF_place_0 : am_D y_FF_place.2.2.1 0 (.aload_n 0) 1 1 := ⟨by decide +kernel, rfl⟩
theorem d_FF_place_1 : am_D y_FF_place.2.2.1 1 (.iload_n 1) 1 2 := ⟨by decide +kernel, rfl⟩
theorem d_FF_place_2 : am_D y_FF_place.2.2.1 2 (.invokevirtual 137) 3 5 := ⟨by decide +kernel, rfl⟩
theorem d_FF_place_5 : am_D y_FF_place.2.2.1 5 (.ifCond .ne 5) 3 8 := ⟨by decide +kernel, rfl⟩
theorem d_FF_place_8 : am_D y_FF_place.2.2.1 8 (.iconst (-1)) 1 9 := ⟨by decide +kernel, rfl⟩
theorem d_FF_place_9 : am_D y_FF_place.2.2.1 9 (.ireturn) 1 10 := ⟨by decide +kernel, rfl⟩
theorem d_FF_place_10 : am_D y_FF_place.2.2.1 10 (.aload_n 0) 1 11 := ⟨by decide +kernel, rfl⟩
theorem d_FF_place_11 : am_D y_FF_place.2.2.1 11 (.getfield 37) 3 14 := ⟨by decide +kernel, rfl⟩
theorem d_FF_place_14 : am_D y_FF_place.2.2.1 14 (.getfield 219) 3 17 := ⟨by decide +kernel, rfl⟩
theorem d_FF_place_17 : am_D y_FF_place.2.2.1 17 (.iload_n 1) 1 18 := ⟨by decide +kernel, rfl⟩
theorem d_FF_place_18 : am_D y_FF_place.2.2.1 18 (.iaload) 1 19 := ⟨by decide +kernel, rfl⟩
theorem d_FF_place_19 : am_D y_FF_place.2.2.1 19 (.ireturn) 1 20 := ⟨by decide +kernel, rfl⟩
theorem d_FF_course_0 : am_D y_FF_course.2.2.1 0 (.aload_n 0) 1 1 := ⟨by decide +kernel, rfl⟩
theorem d_FF_course_1 : am_D y_FF_course.2.2.1 1 (.getfield 37) 3 4 := ⟨by decide +kernel, rfl⟩
theorem d_FF_course_4 : am_D y_FF_course.2.2.1 4 (.iload_n 1) 1 5 := ⟨by decide +kernel, rfl⟩
theorem d_FF_course_5 : am_D y_FF_course.2.2.1 5 (.iload_n 2) 1 6 := ⟨by decide +kernel, rfl⟩
theorem d_FF_course_6 : am_D y_FF_course.2.2.1 6 (.invokevirtual 222) 3 9 := ⟨by decide +kernel, rfl⟩
theorem d_FF_course_9 : am_D y_FF_course.2.2.1 9 (.astore 4) 2 11 := ⟨by decide +kernel, rfl⟩
theorem d_FF_course_11 : am_D y_FF_course.2.2.1 11 (.aload 4) 2 13 := ⟨by decide +kernel, rfl⟩
theorem d_FF_course_13 : am_D y_FF_course.2.2.1 13 (.ifnonnull 5) 3 16 := ⟨by decide +kernel, rfl⟩
theorem d_FF_course_16 : am_D y_FF_course.2.2.1 16 (.iconst (-1)) 1 17 := ⟨by decide +kernel, rfl⟩
theorem d_FF_course_17 : am_D y_FF_course.2.2.1 17 (.ireturn) 1 18 := ⟨by decide +kernel, rfl⟩
theorem d_FF_course_18 : am_D y_FF_course.2.2.1 18 (.iload_n 3) 1 19 := ⟨by decide +kernel, rfl⟩
theorem d_FF_course_19 : am_D y_FF_course.2.2.1 19 (.ifCond .lt 24) 3 22 := ⟨by decide +kernel, rfl⟩
theorem d_FF_course_22 : am_D y_FF_course.2.2.1 22 (.iload_n 3) 1 23 := ⟨by decide +kernel, rfl⟩
theorem d_FF_course_23 : am_D y_FF_course.2.2.1 23 (.aload 4) 2 25 := ⟨by decide +kernel, rfl⟩
theorem d_FF_course_25 : am_D y_FF_course.2.2.1 25 (.getfield 226) 3 28 := ⟨by decide +kernel, rfl⟩
theorem d_FF_course_28 : am_D y_FF_course.2.2.1 28 (.arraylength) 1 29 := ⟨by decide +kernel, rfl⟩
theorem d_FF_course_29 : am_D y_FF_course.2.2.1 29 (.if_icmp .ge 14) 3 32 := ⟨by decide +kernel, rfl⟩
theorem d_FF_course_32 : am_D y_FF_course.2.2.1 32 (.aload 4) 2 34 := ⟨by decide +kernel, rfl⟩
theorem d_FF_course_34 : am_D y_FF_course.2.2.1 34 (.getfield 226) 3 37 := ⟨by decide +kernel, rfl⟩
theorem d_FF_course_37 : am_D y_FF_course.2.2.1 37 (.iload_n 3) 1 38 := ⟨by decide +kernel, rfl⟩
theorem d_FF_course_38 : am_D y_FF_course.2.2.1 38 (.iaload) 1 39 := ⟨by decide +kernel, rfl⟩
theorem d_FF_course_39 : am_D y_FF_course.2.2.1 39 (.invokestatic 89) 3 42 := ⟨by decide +kernel, rfl⟩
theorem d_FF_course_42 : am_D y_FF_course.2.2.1 42 (.ireturn) 1 43 := ⟨by decide +kernel, rfl⟩
theorem d_FF_course_43 : am_D y_FF_course.2.2.1 43 (.iload_n 3) 1 44 := ⟨by decide +kernel, rfl⟩
theorem d_FF_course_44 : am_D y_FF_course.2.2.1 44 (.lookupswitch 55 #[(-2, 34), (-1, 28)]) 28 72 := ⟨by decide +kernel, rfl⟩
theorem d_FF_course_72 : am_D y_FF_course.2.2.1 72 (.aload 4) 2 74 := ⟨by decide +kernel, rfl⟩
theorem d_FF_course_74 : am_D y_FF_course.2.2.1 74 (.getfield 231) 3 77 := ⟨by decide +kernel, rfl⟩
theorem d_FF_course_77 : am_D y_FF_course.2.2.1 77 (.ireturn) 1 78 := ⟨by decide +kernel, rfl⟩
theorem d_FF_course_78 : am_D y_FF_course.2.2.1 78 (.aload 4) 2 80 := ⟨by decide +kernel, rfl⟩
theorem d_FF_course_80 : am_D y_FF_course.2.2.1 80 (.getfield 234) 3 83 := ⟨by decide +kernel, rfl⟩
theorem d_FF_course_83 : am_D y_FF_course.2.2.1 83 (.ifnonnull 7) 3 86 := ⟨by decide +kernel, rfl⟩
theorem d_FF_course_86 : am_D y_FF_course.2.2.1 86 (.iconst 0) 1 87 := ⟨by decide +kernel, rfl⟩
theorem d_FF_course_87 : am_D y_FF_course.2.2.1 87 (.goto 11) 3 90 := ⟨by decide +kernel, rfl⟩
theorem d_FF_course_90 : am_D y_FF_course.2.2.1 90 (.aload 4) 2 92 := ⟨by decide +kernel, rfl⟩
theorem d_FF_course_92 : am_D y_FF_course.2.2.1 92 (.getfield 234) 3 95 := ⟨by decide +kernel, rfl⟩
theorem d_FF_course_95 : am_D y_FF_course.2.2.1 95 (.getfield 238) 3 98 := ⟨by decide +kernel, rfl⟩
theorem d_FF_course_98 : am_D y_FF_course.2.2.1 98 (.ireturn) 1 99 := ⟨by decide +kernel, rfl⟩
theorem d_FF_course_99 : am_D y_FF_course.2.2.1 99 (.iconst (-1)) 1 100 := ⟨by decide +kernel, rfl⟩
theorem d_FF_course_100 : am_D y_FF_course.2.2.1 100 (.ireturn) 1 101 := ⟨by decide +kernel, rfl⟩
end
section
theorem d_M_new_0 : am_D y_M_new.2.2.1 0 (.aload_n 0) 1 1 := ⟨by decide +kernel, rfl⟩
theorem d_M_new_1 : am_D y_M_new.2.2.1 1 (.invokespecial 1) 3 4 := ⟨by decide +kernel, rfl⟩
theorem d_M_new_4 : am_D y_M_new.2.2.1 4 (.aload_n 0) 1 5 := ⟨by decide +kernel, rfl⟩
theorem d_M_new_5 : am_D y_M_new.2.2.1 5 (.bipush 20) 2 7 := ⟨by decide +kernel, rfl⟩
theorem d_M_new_7 : am_D y_M_new.2.2.1 7 (.newarray .int) 2 9 := ⟨by decide +kernel, rfl⟩
theorem d_M_new_9 : am_D y_M_new.2.2.1 9 (.putfield 7) 3 12 := ⟨by decide +kernel, rfl⟩
theorem d_M_new_12 : am_D y_M_new.2.2.1 12 (.aload_n 0) 1 13 := ⟨by decide +kernel, rfl⟩
theorem d_M_new_13 : am_D y_M_new.2.2.1 13 (.bipush 20) 2 15 := ⟨by decide +kernel, rfl⟩
theorem d_M_new_15 : am_D y_M_new.2.2.1 15 (.newarray .int) 2 17 := ⟨by decide +kernel, rfl⟩
theorem d_M_new_17 : am_D y_M_new.2.2.1 17 (.putfield 13) 3 20 := ⟨by decide +kernel, rfl⟩
theorem d_M_new_20 : am_D y_M_new.2.2.1 20 (.aload_n 0) 1 21 := ⟨by decide +kernel, rfl⟩
theorem d_M_new_21 : am_D y_M_new.2.2.1 21 (.bipush 20) 2 23 := ⟨by decide +kernel, rfl⟩
theorem d_M_new_23 : am_D y_M_new.2.2.1 23 (.newarray .boolean) 2 25 := ⟨by decide +kernel, rfl⟩
theorem d_M_new_25 : am_D y_M_new.2.2.1 25 (.putfield 16) 3 28 := ⟨by decide +kernel, rfl⟩
theorem d_M_new_28 : am_D y_M_new.2.2.1 28 (.aload_n 0) 1 29 := ⟨by decide +kernel, rfl⟩
theorem d_M_new_29 : am_D y_M_new.2.2.1 29 (.bipush 6) 2 31 := ⟨by decide +kernel, rfl⟩
theorem d_M_new_31 : am_D y_M_new.2.2.1 31 (.newarray .int) 2 33 := ⟨by decide +kernel, rfl⟩
theorem d_M_new_33 : am_D y_M_new.2.2.1 33 (.putfield 20) 3 36 := ⟨by decide +kernel, rfl⟩
theorem d_M_new_36 : am_D y_M_new.2.2.1 36 (.aload_n 0) 1 37 := ⟨by decide +kernel, rfl⟩
theorem d_M_new_37 : am_D y_M_new.2.2.1 37 (.bipush 6) 2 39 := ⟨by decide +kernel, rfl⟩
theorem d_M_new_39 : am_D y_M_new.2.2.1 39 (.newarray .int) 2 41 := ⟨by decide +kernel, rfl⟩
theorem d_M_new_41 : am_D y_M_new.2.2.1 41 (.putfield 23) 3 44 := ⟨by decide +kernel, rfl⟩
theorem d_M_new_44 : am_D y_M_new.2.2.1 44 (.aload_n 0) 1 45 := ⟨by decide +kernel, rfl⟩
theorem d_M_new_45 : am_D y_M_new.2.2.1 45 (.bipush 6) 2 47 := ⟨by decide +kernel, rfl⟩
theorem d_M_new_47 : am_D y_M_new.2.2.1 47 (.newarray .int) 2 49 := ⟨by decide +kernel, rfl⟩
theorem d_M_new_49 : am_D y_M_new.2.2.1 49 (.putfield 26) 3 52 := ⟨by decide +kernel, rfl⟩
theorem d_M_new_52 : am_D y_M_new.2.2.1 52 (.aload_n 0) 1 53 := ⟨by decide +kernel, rfl⟩
theorem d_M_new_53 : am_D y_M_new.2.2.1 53 (.bipush 6) 2 55 := ⟨by decide +kernel, rfl⟩
theorem d_M_new_55 : am_D y_M_new.2.2.1 55 (.newarray .int) 2 57 := ⟨by decide +kernel, rfl⟩
theorem d_M_new_57 : am_D y_M_new.2.2.1 57 (.putfield 29) 3 60 := ⟨by decide +kernel, rfl⟩
theorem d_M_new_60 : am_D y_M_new.2.2.1 60 (.aload_n 0) 1 61 := ⟨by decide +kernel, rfl⟩
theorem d_M_new_61 : am_D y_M_new.2.2.1 61 (.bipush 20) 2 63 := ⟨by decide +kernel, rfl⟩
theorem d_M_new_63 : am_D y_M_new.2.2.1 63 (.newarray .int) 2 65 := ⟨by decide +kernel, rfl⟩
theorem d_M_new_65 : am_D y_M_new.2.2.1 65 (.putfield 32) 3 68 := ⟨by decide +kernel, rfl⟩
theorem d_M_new_68 : am_D y_M_new.2.2.1 68 (.aload_n 0) 1 69 := ⟨by decide +kernel, rfl⟩
theorem d_M_new_69 : am_D y_M_new.2.2.1 69 (.sipush 360) 3 72 := ⟨by decide +kernel, rfl⟩
theorem d_M_new_72 : am_D y_M_new.2.2.1 72 (.newarray .int) 2 74 := ⟨by decide +kernel, rfl⟩
theorem d_M_new_74 : am_D y_M_new.2.2.1 74 (.putfield 35) 3 77 := ⟨by decide +kernel, rfl⟩
theorem d_M_new_77 : am_D y_M_new.2.2.1 77 (.aload_n 0) 1 78 := ⟨by decide +kernel, rfl⟩
theorem d_M_new_78 : am_D y_M_new.2.2.1 78 (.iconst 5) 1 79 := ⟨by decide +kernel, rfl⟩
theorem d_M_new_79 : am_D y_M_new.2.2.1 79 (.newarray .int) 2 81 := ⟨by decide +kernel, rfl⟩
theorem d_M_new_81 : am_D y_M_new.2.2.1 81 (.putfield 38) 3 84 := ⟨by decide +kernel, rfl⟩
theorem d_M_new_84 : am_D y_M_new.2.2.1 84 (.aload_n 0) 1 85 := ⟨by decide +kernel, rfl⟩
theorem d_M_new_85 : am_D y_M_new.2.2.1 85 (.bipush 20) 2 87 := ⟨by decide +kernel, rfl⟩
theorem d_M_new_87 : am_D y_M_new.2.2.1 87 (.newarray .int) 2 89 := ⟨by decide +kernel, rfl⟩
theorem d_M_new_89 : am_D y_M_new.2.2.1 89 (.putfield 41) 3 92 := ⟨by decide +kernel, rfl⟩
theorem d_M_new_92 : am_D y_M_new.2.2.1 92 (.aload_n 0) 1 93 := ⟨by decide +kernel, rfl⟩
theorem d_M_new_93 : am_D y_M_new.2.2.1 93 (.bipush 20) 2 95 := ⟨by decide +kernel, rfl⟩
theorem d_M_new_95 : am_D y_M_new.2.2.1 95 (.newarray .int) 2 97 := ⟨by decide +kernel, rfl⟩
theorem d_M_new_97 : am_D y_M_new.2.2.1 97 (.putfield 44) 3 100 := ⟨by decide +kernel, rfl⟩
theorem d_M_new_100 : am_D y_M_new.2.2.1 100 (.aload_n 0) 1 101 := ⟨by decide +kernel, rfl⟩
theorem d_M_new_101 : am_D y_M_new.2.2.1 101 (.bipush 20) 2 103 := ⟨by decide +kernel, rfl⟩
theorem d_M_new_103 : am_D y_M_new.2.2.1 103 (.newarray .int) 2 105 := ⟨by decide +kernel, rfl⟩
theorem d_M_new_105 : am_D y_M_new.2.2.1 105 (.putfield 47) 3 108 := ⟨by decide +kernel, rfl⟩
theorem d_M_new_108 : am_D y_M_new.2.2.1 108 (.aload_n 0) 1 109 := ⟨by decide +kernel, rfl⟩
theorem d_M_new_109 : am_D y_M_new.2.2.1 109 (.bipush 20) 2 111 := ⟨by decide +kernel, rfl⟩
theorem d_M_new_111 : am_D y_M_new.2.2.1 111 (.newarray .int) 2 113 := ⟨by decide +kernel, rfl⟩
theorem d_M_new_113 : am_D y_M_new.2.2.1 113 (.putfield 50) 3 116 := ⟨by decide +kernel, rfl⟩
theorem d_M_new_116 : am_D y_M_new.2.2.1 116 (.aload_n 0) 1 117 := ⟨by decide +kernel, rfl⟩
theorem d_M_new_117 : am_D y_M_new.2.2.1 117 (.iconst 5) 1 118 := ⟨by decide +kernel, rfl⟩
theorem d_M_new_118 : am_D y_M_new.2.2.1 118 (.newarray .int) 2 120 := ⟨by decide +kernel, rfl⟩
theorem d_M_new_120 : am_D y_M_new.2.2.1 120 (.putfield 53) 3 123 := ⟨by decide +kernel, rfl⟩
theorem d_M_new_123 : am_D y_M_new.2.2.1 123 (.aload_n 0) 1 124 := ⟨by decide +kernel, rfl⟩
theorem d_M_new_124 : am_D y_M_new.2.2.1 124 (.bipush 40) 2 126 := ⟨by decide +kernel, rfl⟩
theorem d_M_new_126 : am_D y_M_new.2.2.1 126 (.newarray .int) 2 128 := ⟨by decide +kernel, rfl⟩
theorem d_M_new_128 : am_D y_M_new.2.2.1 128 (.putfield 56) 3 131 := ⟨by decide +kernel, rfl⟩
theorem d_M_new_131 : am_D y_M_new.2.2.1 131 (.aload_n 0) 1 132 := ⟨by decide +kernel, rfl⟩
theorem d_M_new_132 : am_D y_M_new.2.2.1 132 (.bipush 40) 2 134 := ⟨by decide +kernel, rfl⟩
theorem d_M_new_134 : am_D y_M_new.2.2.1 134 (.newarray .int) 2 136 := ⟨by decide +kernel, rfl⟩
theorem d_M_new_136 : am_D y_M_new.2.2.1 136 (.putfield 59) 3 139 := ⟨by decide +kernel, rfl⟩
theorem d_M_new_139 : am_D y_M_new.2.2.1 139 (.aload_n 0) 1 140 := ⟨by decide +kernel, rfl⟩
theorem d_M_new_140 : am_D y_M_new.2.2.1 140 (.bipush 40) 2 142 := ⟨by decide +kernel, rfl⟩
theorem d_M_new_142 : am_D y_M_new.2.2.1 142 (.newarray .int) 2 144 := ⟨by decide +kernel, rfl⟩
theorem d_M_new_144 : am_D y_M_new.2.2.1 144 (.putfield 62) 3 147 := ⟨by decide +kernel, rfl⟩
theorem d_M_new_147 : am_D y_M_new.2.2.1 147 (.aload_n 0) 1 148 := ⟨by decide +kernel, rfl⟩
theorem d_M_new_148 : am_D y_M_new.2.2.1 148 (.bipush 40) 2 150 := ⟨by decide +kernel, rfl⟩
theorem d_M_new_150 : am_D y_M_new.2.2.1 150 (.newarray .int) 2 152 := ⟨by decide +kernel, rfl⟩
theorem d_M_new_152 : am_D y_M_new.2.2.1 152 (.putfield 65) 3 155 := ⟨by decide +kernel, rfl⟩
theorem d_M_new_155 : am_D y_M_new.2.2.1 155 (.aload_n 0) 1 156 := ⟨by decide +kernel, rfl⟩
theorem d_M_new_156 : am_D y_M_new.2.2.1 156 (.bipush 40) 2 158 := ⟨by decide +kernel, rfl⟩
theorem d_M_new_158 : am_D y_M_new.2.2.1 158 (.newarray .int) 2 160 := ⟨by decide +kernel, rfl⟩
theorem d_M_new_160 : am_D y_M_new.2.2.1 160 (.putfield 68) 3 163 := ⟨by decide +kernel, rfl⟩
theorem d_M_new_163 : am_D y_M_new.2.2.1 163 (.aload_n 0) 1 164 := ⟨by decide +kernel, rfl⟩
theorem d_M_new_164 : am_D y_M_new.2.2.1 164 (.bipush 10) 2 166 := ⟨by decide +kernel, rfl⟩
theorem d_M_new_166 : am_D y_M_new.2.2.1 166 (.newarray .int) 2 168 := ⟨by decide +kernel, rfl⟩
theorem d_M_new_168 : am_D y_M_new.2.2.1 168 (.putfield 71) 3 171 := ⟨by decide +kernel, rfl⟩
theorem d_M_new_171 : am_D y_M_new.2.2.1 171 (.aload_n 0) 1 172 := ⟨by decide +kernel, rfl⟩
theorem d_M_new_172 : am_D y_M_new.2.2.1 172 (.sipush 3000) 3 175 := ⟨by decide +kernel, rfl⟩
theorem d_M_new_175 : am_D y_M_new.2.2.1 175 (.newarray .int) 2 177 := ⟨by decide +kernel, rfl⟩
theorem d_M_new_177 : am_D y_M_new.2.2.1 177 (.putfield 74) 3 180 := ⟨by decide +kernel, rfl⟩
theorem d_M_new_180 : am_D y_M_new.2.2.1 180 (.aload_n 0) 1 181 := ⟨by decide +kernel, rfl⟩
theorem d_M_new_181 : am_D y_M_new.2.2.1 181 (.iconst 5) 1 182 := ⟨by decide +kernel, rfl⟩
theorem d_M_new_182 : am_D y_M_new.2.2.1 182 (.newarray .int) 2 184 := ⟨by decide +kernel, rfl⟩
theorem d_M_new_184 : am_D y_M_new.2.2.1 184 (.putfield 77) 3 187 := ⟨by decide +kernel, rfl⟩
theorem d_M_new_187 : am_D y_M_new.2.2.1 187 (.aload_n 0) 1 188 := ⟨by decide +kernel, rfl⟩
theorem d_M_new_188 : am_D y_M_new.2.2.1 188 (.bipush 20) 2 190 := ⟨by decide +kernel, rfl⟩
theorem d_M_new_190 : am_D y_M_new.2.2.1 190 (.newarray .int) 2 192 := ⟨by decide +kernel, rfl⟩
theorem d_M_new_192 : am_D y_M_new.2.2.1 192 (.putfield 80) 3 195 := ⟨by decide +kernel, rfl⟩
theorem d_M_new_195 : am_D y_M_new.2.2.1 195 (.aload_n 0) 1 196 := ⟨by decide +kernel, rfl⟩
theorem d_M_new_196 : am_D y_M_new.2.2.1 196 (.bipush 20) 2 198 := ⟨by decide +kernel, rfl⟩
theorem d_M_new_198 : am_D y_M_new.2.2.1 198 (.newarray .boolean) 2 200 := ⟨by decide +kernel, rfl⟩
theorem d_M_new_200 : am_D y_M_new.2.2.1 200 (.putfield 83) 3 203 := ⟨by decide +kernel, rfl⟩
theorem d_M_new_203 : am_D y_M_new.2.2.1 203 (.aload_n 0) 1 204 := ⟨by decide +kernel, rfl⟩
theorem d_M_new_204 : am_D y_M_new.2.2.1 204 (.bipush 6) 2 206 := ⟨by decide +kernel, rfl⟩
theorem d_M_new_206 : am_D y_M_new.2.2.1 206 (.newarray .int) 2 208 := ⟨by decide +kernel, rfl⟩
theorem d_M_new_208 : am_D y_M_new.2.2.1 208 (.putfield 86) 3 211 := ⟨by decide +kernel, rfl⟩
theorem d_M_new_211 : am_D y_M_new.2.2.1 211 (.aload_n 0) 1 212 := ⟨by decide +kernel, rfl⟩
theorem d_M_new_212 : am_D y_M_new.2.2.1 212 (.bipush 6) 2 214 := ⟨by decide +kernel, rfl⟩
theorem d_M_new_214 : am_D y_M_new.2.2.1 214 (.newarray .int) 2 216 := ⟨by decide +kernel, rfl⟩
theorem d_M_new_216 : am_D y_M_new.2.2.1 216 (.putfield 89) 3 219 := ⟨by decide +kernel, rfl⟩
theorem d_M_new_219 : am_D y_M_new.2.2.1 219 (.aload_n 0) 1 220 := ⟨by decide +kernel, rfl⟩
theorem d_M_new_220 : am_D y_M_new.2.2.1 220 (.bipush 6) 2 222 := ⟨by decide +kernel, rfl⟩
theorem d_M_new_222 : am_D y_M_new.2.2.1 222 (.newarray .int) 2 224 := ⟨by decide +kernel, rfl⟩
theorem d_M_new_224 : am_D y_M_new.2.2.1 224 (.putfield 92) 3 227 := ⟨by decide +kernel, rfl⟩
theorem d_M_new_227 : am_D y_M_new.2.2.1 227 (.aload_n 0) 1 228 := ⟨by decide +kernel, rfl⟩
theorem d_M_new_228 : am_D y_M_new.2.2.1 228 (.bipush 6) 2 230 := ⟨by decide +kernel, rfl⟩
theorem d_M_new_230 : am_D y_M_new.2.2.1 230 (.newarray .int) 2 232 := ⟨by decide +kernel, rfl⟩
theorem d_M_new_232 : am_D y_M_new.2.2.1 232 (.putfield 95) 3 235 := ⟨by decide +kernel, rfl⟩
theorem d_M_new_235 : am_D y_M_new.2.2.1 235 (.aload_n 0) 1 236 := ⟨by decide +kernel, rfl⟩
theorem d_M_new_236 : am_D y_M_new.2.2.1 236 (.bipush 6) 2 238 := ⟨by decide +kernel, rfl⟩
theorem d_M_new_238 : am_D y_M_new.2.2.1 238 (.newarray .int) 2 240 := ⟨by decide +kernel, rfl⟩
theorem d_M_new_240 : am_D y_M_new.2.2.1 240 (.putfield 98) 3 243 := ⟨by decide +kernel, rfl⟩
theorem d_M_new_243 : am_D y_M_new.2.2.1 243 (.aload_n 0) 1 244 := ⟨by decide +kernel, rfl⟩
theorem d_M_new_244 : am_D y_M_new.2.2.1 244 (.bipush 6) 2 246 := ⟨by decide +kernel, rfl⟩
theorem d_M_new_246 : am_D y_M_new.2.2.1 246 (.newarray .int) 2 248 := ⟨by decide +kernel, rfl⟩
theorem d_M_new_248 : am_D y_M_new.2.2.1 248 (.putfield 101) 3 251 := ⟨by decide +kernel, rfl⟩
theorem d_M_new_251 : am_D y_M_new.2.2.1 251 (.aload_n 0) 1 252 := ⟨by decide +kernel, rfl⟩
theorem d_M_new_252 : am_D y_M_new.2.2.1 252 (.bipush 6) 2 254 := ⟨by decide +kernel, rfl⟩
theorem d_M_new_254 : am_D y_M_new.2.2.1 254 (.newarray .int) 2 256 := ⟨by decide +kernel, rfl⟩
theorem d_M_new_256 : am_D y_M_new.2.2.1 256 (.putfield 104) 3 259 := ⟨by decide +kernel, rfl⟩
theorem d_M_new_259 : am_D y_M_new.2.2.1 259 (.aload_n 0) 1 260 := ⟨by decide +kernel, rfl⟩
theorem d_M_new_260 : am_D y_M_new.2.2.1 260 (.bipush 30) 2 262 := ⟨by decide +kernel, rfl⟩
theorem d_M_new_262 : am_D y_M_new.2.2.1 262 (.newarray .int) 2 264 := ⟨by decide +kernel, rfl⟩
theorem d_M_new_264 : am_D y_M_new.2.2.1 264 (.putfield 107) 3 267 := ⟨by decide +kernel, rfl⟩
theorem d_M_new_267 : am_D y_M_new.2.2.1 267 (.aload_n 0) 1 268 := ⟨by decide +kernel, rfl⟩
theorem d_M_new_268 : am_D y_M_new.2.2.1 268 (.bipush 6) 2 270 := ⟨by decide +kernel, rfl⟩
theorem d_M_new_270 : am_D y_M_new.2.2.1 270 (.newarray .boolean) 2 272 := ⟨by decide +kernel, rfl⟩
theorem d_M_new_272 : am_D y_M_new.2.2.1 272 (.putfield 110) 3 275 := ⟨by decide +kernel, rfl⟩
theorem d_M_new_275 : am_D y_M_new.2.2.1 275 (.aload_n 0) 1 276 := ⟨by decide +kernel, rfl⟩
theorem d_M_new_276 : am_D y_M_new.2.2.1 276 (.bipush 6) 2 278 := ⟨by decide +kernel, rfl⟩
theorem d_M_new_278 : am_D y_M_new.2.2.1 278 (.newarray .int) 2 280 := ⟨by decide +kernel, rfl⟩
theorem d_M_new_280 : am_D y_M_new.2.2.1 280 (.putfield 113) 3 283 := ⟨by decide +kernel, rfl⟩
theorem d_M_new_283 : am_D y_M_new.2.2.1 283 (.aload_n 0) 1 284 := ⟨by decide +kernel, rfl⟩
theorem d_M_new_284 : am_D y_M_new.2.2.1 284 (.iconst 5) 1 285 := ⟨by decide +kernel, rfl⟩
theorem d_M_new_285 : am_D y_M_new.2.2.1 285 (.newarray .int) 2 287 := ⟨by decide +kernel, rfl⟩
theorem d_M_new_287 : am_D y_M_new.2.2.1 287 (.putfield 116) 3 290 := ⟨by decide +kernel, rfl⟩
theorem d_M_new_290 : am_D y_M_new.2.2.1 290 (.aload_n 0) 1 291 := ⟨by decide +kernel, rfl⟩
theorem d_M_new_291 : am_D y_M_new.2.2.1 291 (.iload_n 1) 1 292 := ⟨by decide +kernel, rfl⟩
theorem d_M_new_292 : am_D y_M_new.2.2.1 292 (.iconst 2) 1 293 := ⟨by decide +kernel, rfl⟩
theorem d_M_new_293 : am_D y_M_new.2.2.1 293 (.iconst 5) 1 294 := ⟨by decide +kernel, rfl⟩
theorem d_M_new_294 : am_D y_M_new.2.2.1 294 (.invokestatic 119) 3 297 := ⟨by decide +kernel, rfl⟩
theorem d_M_new_297 : am_D y_M_new.2.2.1 297 (.putfield 123) 3 300 := ⟨by decide +kernel, rfl⟩
theorem d_M_new_300 : am_D y_M_new.2.2.1 300 (.aload_n 0) 1 301 := ⟨by decide +kernel, rfl⟩
theorem d_M_new_301 : am_D y_M_new.2.2.1 301 (.iload_n 2) 1 302 := ⟨by decide +kernel, rfl⟩
theorem d_M_new_302 : am_D y_M_new.2.2.1 302 (.iconst 1) 1 303 := ⟨by decide +kernel, rfl⟩
theorem d_M_new_303 : am_D y_M_new.2.2.1 303 (.bipush 8) 2 305 := ⟨by decide +kernel, rfl⟩
theorem d_M_new_305 : am_D y_M_new.2.2.1 305 (.invokestatic 119) 3 308 := ⟨by decide +kernel, rfl⟩
theorem d_M_new_308 : am_D y_M_new.2.2.1 308 (.putfield 127) 3 311 := ⟨by decide +kernel, rfl⟩
theorem d_M_new_311 : am_D y_M_new.2.2.1 311 (.aload_n 0) 1 312 := ⟨by decide +kernel, rfl⟩
theorem d_M_new_312 : am_D y_M_new.2.2.1 312 (.iload_n 3) 1 313 := ⟨by decide +kernel, rfl⟩
theorem d_M_new_313 : am_D y_M_new.2.2.1 313 (.iconst 1) 1 314 := ⟨by decide +kernel, rfl⟩
theorem d_M_new_314 : am_D y_M_new.2.2.1 314 (.bipush 9) 2 316 := ⟨by decide +kernel, rfl⟩
theorem d_M_new_316 : am_D y_M_new.2.2.1 316 (.invokestatic 119) 3 319 := ⟨by decide +kernel, rfl⟩
theorem d_M_new_319 : am_D y_M_new.2.2.1 319 (.putfield 130) 3 322 := ⟨by decide +kernel, rfl⟩
theorem d_M_new_322 : am_D y_M_new.2.2.1 322 (.return_) 1 323 := ⟨by decide +kernel, rfl⟩
theorem d_M_between_0 : am_D y_M_between.2.2.1 0 (.iload_n 0) 1 1 := ⟨by decide +kernel, rfl⟩
theorem d_M_between_1 : am_D y_M_between.2.2.1 1 (.iload_n 1) 1 2 := ⟨by decide +kernel, rfl⟩
theorem d_M_between_2 : am_D y_M_between.2.2.1 2 (.if_icmp .ge 7) 3 5 := ⟨by decide +kernel, rfl⟩
theorem d_M_between_5 : am_D y_M_between.2.2.1 5 (.iload_n 1) 1 6 := ⟨by decide +kernel, rfl⟩
theorem d_M_between_6 : am_D y_M_between.2.2.1 6 (.goto 13) 3 9 := ⟨by decide +kernel, rfl⟩
theorem d_M_between_9 : am_D y_M_between.2.2.1 9 (.iload_n 0) 1 10 := ⟨by decide +kernel, rfl⟩
theorem d_M_between_10 : am_D y_M_between.2.2.1 10 (.iload_n 2) 1 11 := ⟨by decide +kernel, rfl⟩
theorem d_M_between_11 : am_D y_M_between.2.2.1 11 (.if_icmp .le 7) 3 14 := ⟨by decide +kernel, rfl⟩
theorem d_M_between_14 : am_D y_M_between.2.2.1 14 (.iload_n 2) 1 15 := ⟨by decide +kernel, rfl⟩
theorem d_M_between_15 : am_D y_M_between.2.2.1 15 (.goto 4) 3 18 := ⟨by decide +kernel, rfl⟩
theorem d_M_between_18 : am_D y_M_between.2.2.1 18 (.iload_n 0) 1 19 := ⟨by decide +kernel, rfl⟩
theorem d_M_between_19 : am_D y_M_between.2.2.1 19 (.ireturn) 1 20 := ⟨by decide +kernel, rfl⟩
theorem d_M_attach_0 : am_D y_M_attach.2.2.1 0 (.aload_n 0) 1 1 := ⟨by decide +kernel, rfl⟩
theorem d_M_attach_1 : am_D y_M_attach.2.2.1 1 (.iload_n 1) 1 2 := ⟨by decide +kernel, rfl⟩
theorem d_M_attach_2 : am_D y_M_attach.2.2.1 2 (.iload_n 2) 1 3 := ⟨by decide +kernel, rfl⟩
theorem d_M_attach_3 : am_D y_M_attach.2.2.1 3 (.invokevirtual 140) 3 6 := ⟨by decide +kernel, rfl⟩
theorem d_M_attach_6 : am_D y_M_attach.2.2.1 6 (.ifCond .eq 16) 3 9 := ⟨by decide +kernel, rfl⟩
theorem d_M_attach_9 : am_D y_M_attach.2.2.1 9 (.aload_n 0) 1 10 := ⟨by decide +kernel, rfl⟩
theorem d_M_attach_10 : am_D y_M_attach.2.2.1 10 (.getfield 7) 3 13 := ⟨by decide +kernel, rfl⟩
theorem d_M_attach_13 : am_D y_M_attach.2.2.1 13 (.iconst 4) 1 14 := ⟨by decide +kernel, rfl⟩
theorem d_M_attach_14 : am_D y_M_attach.2.2.1 14 (.iload_n 1) 1 15 := ⟨by decide +kernel, rfl⟩
theorem d_M_attach_15 : am_D y_M_attach.2.2.1 15 (.imul) 1 16 := ⟨by decide +kernel, rfl⟩
theorem d_M_attach_16 : am_D y_M_attach.2.2.1 16 (.iload_n 2) 1 17 := ⟨by decide +kernel, rfl⟩
theorem d_M_attach_17 : am_D y_M_attach.2.2.1 17 (.iadd) 1 18 := ⟨by decide +kernel, rfl⟩
theorem d_M_attach_18 : am_D y_M_attach.2.2.1 18 (.iaload) 1 19 := ⟨by decide +kernel, rfl⟩
theorem d_M_attach_19 : am_D y_M_attach.2.2.1 19 (.ifCond .eq 5) 3 22 := ⟨by decide +kernel, rfl⟩
theorem d_M_attach_22 : am_D y_M_attach.2.2.1 22 (.iconst (-1)) 1 23 := ⟨by decide +kernel, rfl⟩
theorem d_M_attach_23 : am_D y_M_attach.2.2.1 23 (.ireturn) 1 24 := ⟨by decide +kernel, rfl⟩
theorem d_M_attach_24 : am_D y_M_attach.2.2.1 24 (.aload_n 0) 1 25 := ⟨by decide +kernel, rfl⟩
theorem d_M_attach_25 : am_D y_M_attach.2.2.1 25 (.getfield 137) 3 28 := ⟨by decide +kernel, rfl⟩
theorem d_M_attach_28 : am_D y_M_attach.2.2.1 28 (.bipush 6) 2 30 := ⟨by decide +kernel, rfl⟩
theorem d_M_attach_30 : am_D y_M_attach.2.2.1 30 (.if_icmp .ne 6) 3 33 := ⟨by decide +kernel, rfl⟩
theorem d_M_attach_33 : am_D y_M_attach.2.2.1 33 (.bipush (-2)) 2 35 := ⟨by decide +kernel, rfl⟩
theorem d_M_attach_35 : am_D y_M_attach.2.2.1 35 (.ireturn) 1 36 := ⟨by decide +kernel, rfl⟩
theorem d_M_attach_36 : am_D y_M_attach.2.2.1 36 (.aload_n 0) 1 37 := ⟨by decide +kernel, rfl⟩
theorem d_M_attach_37 : am_D y_M_attach.2.2.1 37 (.getfield 7) 3 40 := ⟨by decide +kernel, rfl⟩
theorem d_M_attach_40 : am_D y_M_attach.2.2.1 40 (.iconst 4) 1 41 := ⟨by decide +kernel, rfl⟩
theorem d_M_attach_41 : am_D y_M_attach.2.2.1 41 (.iload_n 1) 1 42 := ⟨by decide +kernel, rfl⟩
theorem d_M_attach_42 : am_D y_M_attach.2.2.1 42 (.imul) 1 43 := ⟨by decide +kernel, rfl⟩
theorem d_M_attach_43 : am_D y_M_attach.2.2.1 43 (.iload_n 2) 1 44 := ⟨by decide +kernel, rfl⟩
theorem d_M_attach_44 : am_D y_M_attach.2.2.1 44 (.iadd) 1 45 := ⟨by decide +kernel, rfl⟩
theorem d_M_attach_45 : am_D y_M_attach.2.2.1 45 (.iconst 1) 1 46 := ⟨by decide +kernel, rfl⟩
theorem d_M_attach_46 : am_D y_M_attach.2.2.1 46 (.iastore) 1 47 := ⟨by decide +kernel, rfl⟩
theorem d_M_attach_47 : am_D y_M_attach.2.2.1 47 (.aload_n 0) 1 48 := ⟨by decide +kernel, rfl⟩
theorem d_M_attach_48 : am_D y_M_attach.2.2.1 48 (.getfield 13) 3 51 := ⟨by decide +kernel, rfl⟩
theorem d_M_attach_51 : am_D y_M_attach.2.2.1 51 (.iconst 4) 1 52 := ⟨by decide +kernel, rfl⟩
theorem d_M_attach_52 : am_D y_M_attach.2.2.1 52 (.iload_n 1) 1 53 := ⟨by decide +kernel, rfl⟩
theorem d_M_attach_53 : am_D y_M_attach.2.2.1 53 (.imul) 1 54 := ⟨by decide +kernel, rfl⟩
theorem d_M_attach_54 : am_D y_M_attach.2.2.1 54 (.iload_n 2) 1 55 := ⟨by decide +kernel, rfl⟩
theorem d_M_attach_55 : am_D y_M_attach.2.2.1 55 (.iadd) 1 56 := ⟨by decide +kernel, rfl⟩
theorem d_M_attach_56 : am_D y_M_attach.2.2.1 56 (.aload_n 0) 1 57 := ⟨by decide +kernel, rfl⟩
theorem d_M_attach_57 : am_D y_M_attach.2.2.1 57 (.getfield 137) 3 60 := ⟨by decide +kernel, rfl⟩
theorem d_M_attach_60 : am_D y_M_attach.2.2.1 60 (.iastore) 1 61 := ⟨by decide +kernel, rfl⟩
theorem d_M_attach_61 : am_D y_M_attach.2.2.1 61 (.aload_n 0) 1 62 := ⟨by decide +kernel, rfl⟩
theorem d_M_attach_62 : am_D y_M_attach.2.2.1 62 (.getfield 20) 3 65 := ⟨by decide +kernel, rfl⟩
theorem d_M_attach_65 : am_D y_M_attach.2.2.1 65 (.aload_n 0) 1 66 := ⟨by decide +kernel, rfl⟩
theorem d_M_attach_66 : am_D y_M_attach.2.2.1 66 (.getfield 137) 3 69 := ⟨by decide +kernel, rfl⟩
theorem d_M_attach_69 : am_D y_M_attach.2.2.1 69 (.iconst 4) 1 70 := ⟨by decide +kernel, rfl⟩
theorem d_M_attach_70 : am_D y_M_attach.2.2.1 70 (.iload_n 1) 1 71 := ⟨by decide +kernel, rfl⟩
theorem d_M_attach_71 : am_D y_M_attach.2.2.1 71 (.imul) 1 72 := ⟨by decide +kernel, rfl⟩
theorem d_M_attach_72 : am_D y_M_attach.2.2.1 72 (.iload_n 2) 1 73 := ⟨by decide +kernel, rfl⟩
theorem d_M_attach_73 : am_D y_M_attach.2.2.1 73 (.iadd) 1 74 := ⟨by decide +kernel, rfl⟩
theorem d_M_attach_74 : am_D y_M_attach.2.2.1 74 (.iastore) 1 75 := ⟨by decide +kernel, rfl⟩
theorem d_M_attach_75 : am_D y_M_attach.2.2.1 75 (.aload_n 0) 1 76 := ⟨by decide +kernel, rfl⟩
theorem d_M_attach_76 : am_D y_M_attach.2.2.1 76 (.getfield 29) 3 79 := ⟨by decide +kernel, rfl⟩
theorem d_M_attach_79 : am_D y_M_attach.2.2.1 79 (.aload_n 0) 1 80 := ⟨by decide +kernel, rfl⟩
theorem d_M_attach_80 : am_D y_M_attach.2.2.1 80 (.getfield 137) 3 83 := ⟨by decide +kernel, rfl⟩
theorem d_M_attach_83 : am_D y_M_attach.2.2.1 83 (.iconst (-1)) 1 84 := ⟨by decide +kernel, rfl⟩
theorem d_M_attach_84 : am_D y_M_attach.2.2.1 84 (.iastore) 1 85 := ⟨by decide +kernel, rfl⟩
theorem d_M_attach_85 : am_D y_M_attach.2.2.1 85 (.aload_n 0) 1 86 := ⟨by decide +kernel, rfl⟩
theorem d_M_attach_86 : am_D y_M_attach.2.2.1 86 (.dup) 1 87 := ⟨by decide +kernel, rfl⟩
theorem d_M_attach_87 : am_D y_M_attach.2.2.1 87 (.getfield 137) 3 90 := ⟨by decide +kernel, rfl⟩
theorem d_M_attach_90 : am_D y_M_attach.2.2.1 90 (.iconst 1) 1 91 := ⟨by decide +kernel, rfl⟩
theorem d_M_attach_91 : am_D y_M_attach.2.2.1 91 (.iadd) 1 92 := ⟨by decide +kernel, rfl⟩
theorem d_M_attach_92 : am_D y_M_attach.2.2.1 92 (.putfield 137) 3 95 := ⟨by decide +kernel, rfl⟩
theorem d_M_attach_95 : am_D y_M_attach.2.2.1 95 (.aload_n 0) 1 96 := ⟨by decide +kernel, rfl⟩
theorem d_M_attach_96 : am_D y_M_attach.2.2.1 96 (.getfield 137) 3 99 := ⟨by decide +kernel, rfl⟩
theorem d_M_attach_99 : am_D y_M_attach.2.2.1 99 (.iconst 1) 1 100 := ⟨by decide +kernel, rfl⟩
theorem d_M_attach_100 : am_D y_M_attach.2.2.1 100 (.isub) 1 101 := ⟨by decide +kernel, rfl⟩
theorem d_M_attach_101 : am_D y_M_attach.2.2.1 101 (.ireturn) 1 102 := ⟨by decide +kernel, rfl⟩
theorem d_M_isPort_0 : am_D y_M_isPort.2.2.1 0 (.aload_n 0) 1 1 := ⟨by decide +kernel, rfl⟩
theorem d_M_isPort_1 : am_D y_M_isPort.2.2.1 1 (.iload_n 1) 1 2 := ⟨by decide +kernel, rfl⟩
theorem d_M_isPort_2 : am_D y_M_isPort.2.2.1 2 (.invokevirtual 133) 3 5 := ⟨by decide +kernel, rfl⟩
theorem d_M_isPort_5 : am_D y_M_isPort.2.2.1 5 (.ifCond .eq 16) 3 8 := ⟨by decide +kernel, rfl⟩
theorem d_M_isPort_8 : am_D y_M_isPort.2.2.1 8 (.iload_n 2) 1 9 := ⟨by decide +kernel, rfl⟩
theorem d_M_isPort_9 : am_D y_M_isPort.2.2.1 9 (.ifCond .lt 12) 3 12 := ⟨by decide +kernel, rfl⟩
theorem d_M_isPort_12 : am_D y_M_isPort.2.2.1 12 (.iload_n 2) 1 13 := ⟨by decide +kernel, rfl⟩
theorem d_M_isPort_13 : am_D y_M_isPort.2.2.1 13 (.iconst 3) 1 14 := ⟨by decide +kernel, rfl⟩
theorem d_M_isPort_14 : am_D y_M_isPort.2.2.1 14 (.if_icmp .gt 7) 3 17 := ⟨by decide +kernel, rfl⟩
theorem d_M_isPort_17 : am_D y_M_isPort.2.2.1 17 (.iconst 1) 1 18 := ⟨by decide +kernel, rfl⟩
theorem d_M_isPort_18 : am_D y_M_isPort.2.2.1 18 (.goto 4) 3 21 := ⟨by decide +kernel, rfl⟩
theorem d_M_isPort_21 : am_D y_M_isPort.2.2.1 21 (.iconst 0) 1 22 := ⟨by decide +kernel, rfl⟩
theorem d_M_isPort_22 : am_D y_M_isPort.2.2.1 22 (.ireturn) 1 23 := ⟨by decide +kernel, rfl⟩
theorem d_M_isSwitch_0 : am_D y_M_isSwitch.2.2.1 0 (.iload_n 1) 1 1 := ⟨by decide +kernel, rfl⟩
theorem d_M_isSwitch_1 : am_D y_M_isSwitch.2.2.1 1 (.ifCond .lt 15) 3 4 := ⟨by decide +kernel, rfl⟩
theorem d_M_isSwitch_4 : am_D y_M_isSwitch.2.2.1 4 (.iload_n 1) 1 5 := ⟨by decide +kernel, rfl⟩
theorem d_M_isSwitch_5 : am_D y_M_isSwitch.2.2.1 5 (.aload_n 0) 1 6 := ⟨by decide +kernel, rfl⟩
theorem d_M_isSwitch_6 : am_D y_M_isSwitch.2.2.1 6 (.getfield 123) 3 9 := ⟨by decide +kernel, rfl⟩
theorem d_M_isSwitch_9 : am_D y_M_isSwitch.2.2.1 9 (.if_icmp .ge 7) 3 12 := ⟨by decide +kernel, rfl⟩
theorem d_M_isSwitch_12 : am_D y_M_isSwitch.2.2.1 12 (.iconst 1) 1 13 := ⟨by decide +kernel, rfl⟩
theorem d_M_isSwitch_13 : am_D y_M_isSwitch.2.2.1 13 (.goto 4) 3 16 := ⟨by decide +kernel, rfl⟩
theorem d_M_isSwitch_16 : am_D y_M_isSwitch.2.2.1 16 (.iconst 0) 1 17 := ⟨by decide +kernel, rfl⟩
theorem d_M_isSwitch_17 : am_D y_M_isSwitch.2.2.1 17 (.ireturn) 1 18 := ⟨by decide +kernel, rfl⟩
theorem d_M_link_0 : am_D y_M_link.2.2.1 0 (.aload_n 0) 1 1 := ⟨by decide +kernel, rfl⟩
theorem d_M_link_1 : am_D y_M_link.2.2.1 1 (.iload_n 1) 1 2 := ⟨by decide +kernel, rfl⟩
theorem d_M_link_2 : am_D y_M_link.2.2.1 2 (.iload_n 2) 1 3 := ⟨by decide +kernel, rfl⟩
theorem d_M_link_3 : am_D y_M_link.2.2.1 3 (.invokevirtual 140) 3 6 := ⟨by decide +kernel, rfl⟩
theorem d_M_link_6 : am_D y_M_link.2.2.1 6 (.ifCond .eq 45) 3 9 := ⟨by decide +kernel, rfl⟩
theorem d_M_link_9 : am_D y_M_link.2.2.1 9 (.aload_n 0) 1 10 := ⟨by decide +kernel, rfl⟩
theorem d_M_link_10 : am_D y_M_link.2.2.1 10 (.iload_n 3) 1 11 := ⟨by decide +kernel, rfl⟩
theorem d_M_link_11 : am_D y_M_link.2.2.1 11 (.iload 4) 2 13 := ⟨by decide +kernel, rfl⟩
theorem d_M_link_13 : am_D y_M_link.2.2.1 13 (.invokevirtual 140) 3 16 := ⟨by decide +kernel, rfl⟩
theorem d_M_link_16 : am_D y_M_link.2.2.1 16 (.ifCond .eq 35) 3 19 := ⟨by decide +kernel, rfl⟩
theorem d_M_link_19 : am_D y_M_link.2.2.1 19 (.iload_n 1) 1 20 := ⟨by decide +kernel, rfl⟩
theorem d_M_link_20 : am_D y_M_link.2.2.1 20 (.iload_n 3) 1 21 := ⟨by decide +kernel, rfl⟩
theorem d_M_link_21 : am_D y_M_link.2.2.1 21 (.if_icmp .eq 30) 3 24 := ⟨by decide +kernel, rfl⟩
theorem d_M_link_24 : am_D y_M_link.2.2.1 24 (.aload_n 0) 1 25 := ⟨by decide +kernel, rfl⟩
theorem d_M_link_25 : am_D y_M_link.2.2.1 25 (.getfield 7) 3 28 := ⟨by decide +kernel, rfl⟩
theorem d_M_link_28 : am_D y_M_link.2.2.1 28 (.iconst 4) 1 29 := ⟨by decide +kernel, rfl⟩
theorem d_M_link_29 : am_D y_M_link.2.2.1 29 (.iload_n 1) 1 30 := ⟨by decide +kernel, rfl⟩
theorem d_M_link_30 : am_D y_M_link.2.2.1 30 (.imul) 1 31 := ⟨by decide +kernel, rfl⟩
theorem d_M_link_31 : am_D y_M_link.2.2.1 31 (.iload_n 2) 1 32 := ⟨by decide +kernel, rfl⟩
theorem d_M_link_32 : am_D y_M_link.2.2.1 32 (.iadd) 1 33 := ⟨by decide +kernel, rfl⟩
theorem d_M_link_33 : am_D y_M_link.2.2.1 33 (.iaload) 1 34 := ⟨by decide +kernel, rfl⟩
theorem d_M_link_34 : am_D y_M_link.2.2.1 34 (.ifCond .ne 17) 3 37 := ⟨by decide +kernel, rfl⟩
theorem d_M_link_37 : am_D y_M_link.2.2.1 37 (.aload_n 0) 1 38 := ⟨by decide +kernel, rfl⟩
theorem d_M_link_38 : am_D y_M_link.2.2.1 38 (.getfield 7) 3 41 := ⟨by decide +kernel, rfl⟩
theorem d_M_link_41 : am_D y_M_link.2.2.1 41 (.iconst 4) 1 42 := ⟨by decide +kernel, rfl⟩
theorem d_M_link_42 : am_D y_M_link.2.2.1 42 (.iload_n 3) 1 43 := ⟨by decide +kernel, rfl⟩
theorem d_M_link_43 : am_D y_M_link.2.2.1 43 (.imul) 1 44 := ⟨by decide +kernel, rfl⟩
theorem d_M_link_44 : am_D y_M_link.2.2.1 44 (.iload 4) 2 46 := ⟨by decide +kernel, rfl⟩
theorem d_M_link_46 : am_D y_M_link.2.2.1 46 (.iadd) 1 47 := ⟨by decide +kernel, rfl⟩
theorem d_M_link_47 : am_D y_M_link.2.2.1 47 (.iaload) 1 48 := ⟨by decide +kernel, rfl⟩
theorem d_M_link_48 : am_D y_M_link.2.2.1 48 (.ifCond .eq 5) 3 51 := ⟨by decide +kernel, rfl⟩
theorem d_M_link_51 : am_D y_M_link.2.2.1 51 (.iconst 0) 1 52 := ⟨by decide +kernel, rfl⟩
theorem d_M_link_52 : am_D y_M_link.2.2.1 52 (.ireturn) 1 53 := ⟨by decide +kernel, rfl⟩
theorem d_M_link_53 : am_D y_M_link.2.2.1 53 (.aload_n 0) 1 54 := ⟨by decide +kernel, rfl⟩
theorem d_M_link_54 : am_D y_M_link.2.2.1 54 (.iconst 4) 1 55 := ⟨by decide +kernel, rfl⟩
theorem d_M_link_55 : am_D y_M_link.2.2.1 55 (.iload_n 1) 1 56 := ⟨by decide +kernel, rfl⟩
theorem d_M_link_56 : am_D y_M_link.2.2.1 56 (.imul) 1 57 := ⟨by decide +kernel, rfl⟩
theorem d_M_link_57 : am_D y_M_link.2.2.1 57 (.iload_n 2) 1 58 := ⟨by decide +kernel, rfl⟩
theorem d_M_link_58 : am_D y_M_link.2.2.1 58 (.iadd) 1 59 := ⟨by decide +kernel, rfl⟩
theorem d_M_link_59 : am_D y_M_link.2.2.1 59 (.iconst 4) 1 60 := ⟨by decide +kernel, rfl⟩
theorem d_M_link_60 : am_D y_M_link.2.2.1 60 (.iload_n 3) 1 61 := ⟨by decide +kernel, rfl⟩
theorem d_M_link_61 : am_D y_M_link.2.2.1 61 (.imul) 1 62 := ⟨by decide +kernel, rfl⟩
theorem d_M_link_62 : am_D y_M_link.2.2.1 62 (.iload 4) 2 64 := ⟨by decide +kernel, rfl⟩
theorem d_M_link_64 : am_D y_M_link.2.2.1 64 (.iadd) 1 65 := ⟨by decide +kernel, rfl⟩
theorem d_M_link_65 : am_D y_M_link.2.2.1 65 (.invokevirtual 144) 3 68 := ⟨by decide +kernel, rfl⟩
theorem d_M_link_68 : am_D y_M_link.2.2.1 68 (.aload_n 0) 1 69 := ⟨by decide +kernel, rfl⟩
theorem d_M_link_69 : am_D y_M_link.2.2.1 69 (.iconst 4) 1 70 := ⟨by decide +kernel, rfl⟩
theorem d_M_link_70 : am_D y_M_link.2.2.1 70 (.iload_n 3) 1 71 := ⟨by decide +kernel, rfl⟩
theorem d_M_link_71 : am_D y_M_link.2.2.1 71 (.imul) 1 72 := ⟨by decide +kernel, rfl⟩
theorem d_M_link_72 : am_D y_M_link.2.2.1 72 (.iload 4) 2 74 := ⟨by decide +kernel, rfl⟩
theorem d_M_link_74 : am_D y_M_link.2.2.1 74 (.iadd) 1 75 := ⟨by decide +kernel, rfl⟩
theorem d_M_link_75 : am_D y_M_link.2.2.1 75 (.iconst 4) 1 76 := ⟨by decide +kernel, rfl⟩
theorem d_M_link_76 : am_D y_M_link.2.2.1 76 (.iload_n 1) 1 77 := ⟨by decide +kernel, rfl⟩
theorem d_M_link_77 : am_D y_M_link.2.2.1 77 (.imul) 1 78 := ⟨by decide +kernel, rfl⟩
theorem d_M_link_78 : am_D y_M_link.2.2.1 78 (.iload_n 2) 1 79 := ⟨by decide +kernel, rfl⟩
theorem d_M_link_79 : am_D y_M_link.2.2.1 79 (.iadd) 1 80 := ⟨by decide +kernel, rfl⟩
theorem d_M_link_80 : am_D y_M_link.2.2.1 80 (.invokevirtual 144) 3 83 := ⟨by decide +kernel, rfl⟩
theorem d_M_link_83 : am_D y_M_link.2.2.1 83 (.iconst 1) 1 84 := ⟨by decide +kernel, rfl⟩
theorem d_M_link_84 : am_D y_M_link.2.2.1 84 (.ireturn) 1 85 := ⟨by decide +kernel, rfl⟩
theorem d_M_join_0 : am_D y_M_join.2.2.1 0 (.aload_n 0) 1 1 := ⟨by decide +kernel, rfl⟩
theorem d_M_join_1 : am_D y_M_join.2.2.1 1 (.getfield 7) 3 4 := ⟨by decide +kernel, rfl⟩
theorem d_M_join_4 : am_D y_M_join.2.2.1 4 (.iload_n 1) 1 5 := ⟨by decide +kernel, rfl⟩
theorem d_M_join_5 : am_D y_M_join.2.2.1 5 (.iconst 2) 1 6 := ⟨by decide +kernel, rfl⟩
theorem d_M_join_6 : am_D y_M_join.2.2.1 6 (.iastore) 1 7 := ⟨by decide +kernel, rfl⟩
theorem d_M_join_7 : am_D y_M_join.2.2.1 7 (.aload_n 0) 1 8 := ⟨by decide +kernel, rfl⟩
theorem d_M_join_8 : am_D y_M_join.2.2.1 8 (.getfield 13) 3 11 := ⟨by decide +kernel, rfl⟩
theorem d_M_join_11 : am_D y_M_join.2.2.1 11 (.iload_n 1) 1 12 := ⟨by decide +kernel, rfl⟩
theorem d_M_join_12 : am_D y_M_join.2.2.1 12 (.iload_n 2) 1 13 := ⟨by decide +kernel, rfl⟩
theorem d_M_join_13 : am_D y_M_join.2.2.1 13 (.iastore) 1 14 := ⟨by decide +kernel, rfl⟩
theorem d_M_join_14 : am_D y_M_join.2.2.1 14 (.aload_n 0) 1 15 := ⟨by decide +kernel, rfl⟩
theorem d_M_join_15 : am_D y_M_join.2.2.1 15 (.getfield 16) 3 18 := ⟨by decide +kernel, rfl⟩
theorem d_M_join_18 : am_D y_M_join.2.2.1 18 (.iload_n 1) 1 19 := ⟨by decide +kernel, rfl⟩
theorem d_M_join_19 : am_D y_M_join.2.2.1 19 (.iconst 1) 1 20 := ⟨by decide +kernel, rfl⟩
theorem d_M_join_20 : am_D y_M_join.2.2.1 20 (.bastore) 1 21 := ⟨by decide +kernel, rfl⟩
theorem d_M_join_21 : am_D y_M_join.2.2.1 21 (.return_) 1 22 := ⟨by decide +kernel, rfl⟩
theorem d_M_turn_0 : am_D y_M_turn.2.2.1 0 (.aload_n 0) 1 1 := ⟨by decide +kernel, rfl⟩
theorem d_M_turn_1 : am_D y_M_turn.2.2.1 1 (.iload_n 1) 1 2 := ⟨by decide +kernel, rfl⟩
theorem d_M_turn_2 : am_D y_M_turn.2.2.1 2 (.iload_n 2) 1 3 := ⟨by decide +kernel, rfl⟩
theorem d_M_turn_3 : am_D y_M_turn.2.2.1 3 (.invokevirtual 140) 3 6 := ⟨by decide +kernel, rfl⟩
theorem d_M_turn_6 : am_D y_M_turn.2.2.1 6 (.ifCond .eq 25) 3 9 := ⟨by decide +kernel, rfl⟩
theorem d_M_turn_9 : am_D y_M_turn.2.2.1 9 (.aload_n 0) 1 10 := ⟨by decide +kernel, rfl⟩
theorem d_M_turn_10 : am_D y_M_turn.2.2.1 10 (.getfield 7) 3 13 := ⟨by decide +kernel, rfl⟩
theorem d_M_turn_13 : am_D y_M_turn.2.2.1 13 (.iconst 4) 1 14 := ⟨by decide +kernel, rfl⟩
theorem d_M_turn_14 : am_D y_M_turn.2.2.1 14 (.iload_n 1) 1 15 := ⟨by decide +kernel, rfl⟩
theorem d_M_turn_15 : am_D y_M_turn.2.2.1 15 (.imul) 1 16 := ⟨by decide +kernel, rfl⟩
theorem d_M_turn_16 : am_D y_M_turn.2.2.1 16 (.iload_n 2) 1 17 := ⟨by decide +kernel, rfl⟩
theorem d_M_turn_17 : am_D y_M_turn.2.2.1 17 (.iadd) 1 18 := ⟨by decide +kernel, rfl⟩
theorem d_M_turn_18 : am_D y_M_turn.2.2.1 18 (.iaload) 1 19 := ⟨by decide +kernel, rfl⟩
theorem d_M_turn_19 : am_D y_M_turn.2.2.1 19 (.iconst 2) 1 20 := ⟨by decide +kernel, rfl⟩
theorem d_M_turn_20 : am_D y_M_turn.2.2.1 20 (.if_icmp .ne 11) 3 23 := ⟨by decide +kernel, rfl⟩
theorem d_M_turn_23 : am_D y_M_turn.2.2.1 23 (.iconst 4) 1 24 := ⟨by decide +kernel, rfl⟩
theorem d_M_turn_24 : am_D y_M_turn.2.2.1 24 (.iload_n 1) 1 25 := ⟨by decide +kernel, rfl⟩
theorem d_M_turn_25 : am_D y_M_turn.2.2.1 25 (.imul) 1 26 := ⟨by decide +kernel, rfl⟩
theorem d_M_turn_26 : am_D y_M_turn.2.2.1 26 (.iload_n 2) 1 27 := ⟨by decide +kernel, rfl⟩
theorem d_M_turn_27 : am_D y_M_turn.2.2.1 27 (.iadd) 1 28 := ⟨by decide +kernel, rfl⟩
theorem d_M_turn_28 : am_D y_M_turn.2.2.1 28 (.goto 4) 3 31 := ⟨by decide +kernel, rfl⟩
theorem d_M_turn_31 : am_D y_M_turn.2.2.1 31 (.iconst (-1)) 1 32 := ⟨by decide +kernel, rfl⟩
theorem d_M_turn_32 : am_D y_M_turn.2.2.1 32 (.istore 4) 2 34 := ⟨by decide +kernel, rfl⟩
theorem d_M_turn_34 : am_D y_M_turn.2.2.1 34 (.iload 4) 2 36 := ⟨by decide +kernel, rfl⟩
theorem d_M_turn_36 : am_D y_M_turn.2.2.1 36 (.ifCond .lt 52) 3 39 := ⟨by decide +kernel, rfl⟩
theorem d_M_turn_39 : am_D y_M_turn.2.2.1 39 (.aload_n 0) 1 40 := ⟨by decide +kernel, rfl⟩
theorem d_M_turn_40 : am_D y_M_turn.2.2.1 40 (.getfield 16) 3 43 := ⟨by decide +kernel, rfl⟩
theorem d_M_turn_43 : am_D y_M_turn.2.2.1 43 (.iload 4) 2 45 := ⟨by decide +kernel, rfl⟩
theorem d_M_turn_45 : am_D y_M_turn.2.2.1 45 (.baload) 1 46 := ⟨by decide +kernel, rfl⟩
theorem d_M_turn_46 : am_D y_M_turn.2.2.1 46 (.iload_n 3) 1 47 := ⟨by decide +kernel, rfl⟩
theorem d_M_turn_47 : am_D y_M_turn.2.2.1 47 (.if_icmp .eq 41) 3 50 := ⟨by decide +kernel, rfl⟩
theorem d_M_turn_50 : am_D y_M_turn.2.2.1 50 (.aload_n 0) 1 51 := ⟨by decide +kernel, rfl⟩
theorem d_M_turn_51 : am_D y_M_turn.2.2.1 51 (.getfield 71) 3 54 := ⟨by decide +kernel, rfl⟩
theorem d_M_turn_54 : am_D y_M_turn.2.2.1 54 (.iconst 2) 1 55 := ⟨by decide +kernel, rfl⟩
theorem d_M_turn_55 : am_D y_M_turn.2.2.1 55 (.iload_n 1) 1 56 := ⟨by decide +kernel, rfl⟩
theorem d_M_turn_56 : am_D y_M_turn.2.2.1 56 (.imul) 1 57 := ⟨by decide +kernel, rfl⟩
theorem d_M_turn_57 : am_D y_M_turn.2.2.1 57 (.iconst 1) 1 58 := ⟨by decide +kernel, rfl⟩
theorem d_M_turn_58 : am_D y_M_turn.2.2.1 58 (.iadd) 1 59 := ⟨by decide +kernel, rfl⟩
theorem d_M_turn_59 : am_D y_M_turn.2.2.1 59 (.iaload) 1 60 := ⟨by decide +kernel, rfl⟩
theorem d_M_turn_60 : am_D y_M_turn.2.2.1 60 (.bipush 20) 2 62 := ⟨by decide +kernel, rfl⟩
theorem d_M_turn_62 : am_D y_M_turn.2.2.1 62 (.if_icmp .ge 26) 3 65 := ⟨by decide +kernel, rfl⟩
theorem d_M_turn_65 : am_D y_M_turn.2.2.1 65 (.aload_n 0) 1 66 := ⟨by decide +kernel, rfl⟩
theorem d_M_turn_66 : am_D y_M_turn.2.2.1 66 (.getfield 71) 3 69 := ⟨by decide +kernel, rfl⟩
theorem d_M_turn_69 : am_D y_M_turn.2.2.1 69 (.iconst 2) 1 70 := ⟨by decide +kernel, rfl⟩
theorem d_M_turn_70 : am_D y_M_turn.2.2.1 70 (.aload_n 0) 1 71 := ⟨by decide +kernel, rfl⟩
theorem d_M_turn_71 : am_D y_M_turn.2.2.1 71 (.getfield 13) 3 74 := ⟨by decide +kernel, rfl⟩
theorem d_M_turn_74 : am_D y_M_turn.2.2.1 74 (.iload 4) 2 76 := ⟨by decide +kernel, rfl⟩
theorem d_M_turn_76 : am_D y_M_turn.2.2.1 76 (.iaload) 1 77 := ⟨by decide +kernel, rfl⟩
theorem d_M_turn_77 : am_D y_M_turn.2.2.1 77 (.iconst 4) 1 78 := ⟨by decide +kernel, rfl⟩
theorem d_M_turn_78 : am_D y_M_turn.2.2.1 78 (.idiv) 1 79 := ⟨by decide +kernel, rfl⟩
theorem d_M_turn_79 : am_D y_M_turn.2.2.1 79 (.imul) 1 80 := ⟨by decide +kernel, rfl⟩
theorem d_M_turn_80 : am_D y_M_turn.2.2.1 80 (.iconst 1) 1 81 := ⟨by decide +kernel, rfl⟩
theorem d_M_turn_81 : am_D y_M_turn.2.2.1 81 (.iadd) 1 82 := ⟨by decide +kernel, rfl⟩
theorem d_M_turn_82 : am_D y_M_turn.2.2.1 82 (.iaload) 1 83 := ⟨by decide +kernel, rfl⟩
theorem d_M_turn_83 : am_D y_M_turn.2.2.1 83 (.bipush 20) 2 85 := ⟨by decide +kernel, rfl⟩
theorem d_M_turn_85 : am_D y_M_turn.2.2.1 85 (.if_icmp .lt 5) 3 88 := ⟨by decide +kernel, rfl⟩
theorem d_M_turn_88 : am_D y_M_turn.2.2.1 88 (.iconst 0) 1 89 := ⟨by decide +kernel, rfl⟩
theorem d_M_turn_89 : am_D y_M_turn.2.2.1 89 (.ireturn) 1 90 := ⟨by decide +kernel, rfl⟩
theorem d_M_turn_90 : am_D y_M_turn.2.2.1 90 (.aload_n 0) 1 91 := ⟨by decide +kernel, rfl⟩
theorem d_M_turn_91 : am_D y_M_turn.2.2.1 91 (.getfield 16) 3 94 := ⟨by decide +kernel, rfl⟩
theorem d_M_turn_94 : am_D y_M_turn.2.2.1 94 (.iload 4) 2 96 := ⟨by decide +kernel, rfl⟩
theorem d_M_turn_96 : am_D y_M_turn.2.2.1 96 (.iload_n 3) 1 97 := ⟨by decide +kernel, rfl⟩
theorem d_M_turn_97 : am_D y_M_turn.2.2.1 97 (.bastore) 1 98 := ⟨by decide +kernel, rfl⟩
theorem d_M_turn_98 : am_D y_M_turn.2.2.1 98 (.aload_n 0) 1 99 := ⟨by decide +kernel, rfl⟩
theorem d_M_turn_99 : am_D y_M_turn.2.2.1 99 (.getfield 16) 3 102 := ⟨by decide +kernel, rfl⟩
theorem d_M_turn_102 : am_D y_M_turn.2.2.1 102 (.aload_n 0) 1 103 := ⟨by decide +kernel, rfl⟩
theorem d_M_turn_103 : am_D y_M_turn.2.2.1 103 (.getfield 13) 3 106 := ⟨by decide +kernel, rfl⟩
theorem d_M_turn_106 : am_D y_M_turn.2.2.1 106 (.iload 4) 2 108 := ⟨by decide +kernel, rfl⟩
theorem d_M_turn_108 : am_D y_M_turn.2.2.1 108 (.iaload) 1 109 := ⟨by decide +kernel, rfl⟩
theorem d_M_turn_109 : am_D y_M_turn.2.2.1 109 (.iload_n 3) 1 110 := ⟨by decide +kernel, rfl⟩
theorem d_M_turn_110 : am_D y_M_turn.2.2.1 110 (.bastore) 1 111 := ⟨by decide +kernel, rfl⟩
theorem d_M_turn_111 : am_D y_M_turn.2.2.1 111 (.iload_n 3) 1 112 := ⟨by decide +kernel, rfl⟩
theorem d_M_turn_112 : am_D y_M_turn.2.2.1 112 (.ifCond .ne 60) 3 115 := ⟨by decide +kernel, rfl⟩
theorem d_M_turn_115 : am_D y_M_turn.2.2.1 115 (.aload_n 0) 1 116 := ⟨by decide +kernel, rfl⟩
theorem d_M_turn_116 : am_D y_M_turn.2.2.1 116 (.getfield 32) 3 119 := ⟨by decide +kernel, rfl⟩
theorem d_M_turn_119 : am_D y_M_turn.2.2.1 119 (.iload 4) 2 121 := ⟨by decide +kernel, rfl⟩
theorem d_M_turn_121 : am_D y_M_turn.2.2.1 121 (.iconst 0) 1 122 := ⟨by decide +kernel, rfl⟩
theorem d_M_turn_122 : am_D y_M_turn.2.2.1 122 (.iastore) 1 123 := ⟨by decide +kernel, rfl⟩
theorem d_M_turn_123 : am_D y_M_turn.2.2.1 123 (.aload_n 0) 1 124 := ⟨by decide +kernel, rfl⟩
theorem d_M_turn_124 : am_D y_M_turn.2.2.1 124 (.getfield 32) 3 127 := ⟨by decide +kernel, rfl⟩
theorem d_M_turn_127 : am_D y_M_turn.2.2.1 127 (.aload_n 0) 1 128 := ⟨by decide +kernel, rfl⟩
theorem d_M_turn_128 : am_D y_M_turn.2.2.1 128 (.getfield 13) 3 131 := ⟨by decide +kernel, rfl⟩
theorem d_M_turn_131 : am_D y_M_turn.2.2.1 131 (.iload 4) 2 133 := ⟨by decide +kernel, rfl⟩
theorem d_M_turn_133 : am_D y_M_turn.2.2.1 133 (.iaload) 1 134 := ⟨by decide +kernel, rfl⟩
theorem d_M_turn_134 : am_D y_M_turn.2.2.1 134 (.iconst 0) 1 135 := ⟨by decide +kernel, rfl⟩
theorem d_M_turn_135 : am_D y_M_turn.2.2.1 135 (.iastore) 1 136 := ⟨by decide +kernel, rfl⟩
theorem d_M_turn_136 : am_D y_M_turn.2.2.1 136 (.aload_n 0) 1 137 := ⟨by decide +kernel, rfl⟩
theorem d_M_turn_137 : am_D y_M_turn.2.2.1 137 (.iload_n 1) 1 138 := ⟨by decide +kernel, rfl⟩
theorem d_M_turn_138 : am_D y_M_turn.2.2.1 138 (.iconst 5) 1 139 := ⟨by decide +kernel, rfl⟩
theorem d_M_turn_139 : am_D y_M_turn.2.2.1 139 (.iload_n 2) 1 140 := ⟨by decide +kernel, rfl⟩
theorem d_M_turn_140 : am_D y_M_turn.2.2.1 140 (.iconst 0) 1 141 := ⟨by decide +kernel, rfl⟩
theorem d_M_turn_141 : am_D y_M_turn.2.2.1 141 (.iconst 0) 1 142 := ⟨by decide +kernel, rfl⟩
theorem d_M_turn_142 : am_D y_M_turn.2.2.1 142 (.iconst 0) 1 143 := ⟨by decide +kernel, rfl⟩
theorem d_M_turn_143 : am_D y_M_turn.2.2.1 143 (.invokevirtual 148) 3 146 := ⟨by decide +kernel, rfl⟩
theorem d_M_turn_146 : am_D y_M_turn.2.2.1 146 (.aload_n 0) 1 147 := ⟨by decide +kernel, rfl⟩
theorem d_M_turn_147 : am_D y_M_turn.2.2.1 147 (.aload_n 0) 1 148 := ⟨by decide +kernel, rfl⟩
theorem d_M_turn_148 : am_D y_M_turn.2.2.1 148 (.getfield 13) 3 151 := ⟨by decide +kernel, rfl⟩
theorem d_M_turn_151 : am_D y_M_turn.2.2.1 151 (.iload 4) 2 153 := ⟨by decide +kernel, rfl⟩
theorem d_M_turn_153 : am_D y_M_turn.2.2.1 153 (.iaload) 1 154 := ⟨by decide +kernel, rfl⟩
theorem d_M_turn_154 : am_D y_M_turn.2.2.1 154 (.iconst 4) 1 155 := ⟨by decide +kernel, rfl⟩
theorem d_M_turn_155 : am_D y_M_turn.2.2.1 155 (.idiv) 1 156 := ⟨by decide +kernel, rfl⟩
theorem d_M_turn_156 : am_D y_M_turn.2.2.1 156 (.iconst 5) 1 157 := ⟨by decide +kernel, rfl⟩
theorem d_M_turn_157 : am_D y_M_turn.2.2.1 157 (.aload_n 0) 1 158 := ⟨by decide +kernel, rfl⟩
theorem d_M_turn_158 : am_D y_M_turn.2.2.1 158 (.getfield 13) 3 161 := ⟨by decide +kernel, rfl⟩
theorem d_M_turn_161 : am_D y_M_turn.2.2.1 161 (.iload 4) 2 163 := ⟨by decide +kernel, rfl⟩
theorem d_M_turn_163 : am_D y_M_turn.2.2.1 163 (.iaload) 1 164 := ⟨by decide +kernel, rfl⟩
theorem d_M_turn_164 : am_D y_M_turn.2.2.1 164 (.iconst 4) 1 165 := ⟨by decide +kernel, rfl⟩
theorem d_M_turn_165 : am_D y_M_turn.2.2.1 165 (.irem) 1 166 := ⟨by decide +kernel, rfl⟩
theorem d_M_turn_166 : am_D y_M_turn.2.2.1 166 (.iconst 0) 1 167 := ⟨by decide +kernel, rfl⟩
theorem d_M_turn_167 : am_D y_M_turn.2.2.1 167 (.iconst 0) 1 168 := ⟨by decide +kernel, rfl⟩
theorem d_M_turn_168 : am_D y_M_turn.2.2.1 168 (.iconst 0) 1 169 := ⟨by decide +kernel, rfl⟩
theorem d_M_turn_169 : am_D y_M_turn.2.2.1 169 (.invokevirtual 148) 3 172 := ⟨by decide +kernel, rfl⟩
theorem d_M_turn_172 : am_D y_M_turn.2.2.1 172 (.iconst 1) 1 173 := ⟨by decide +kernel, rfl⟩
theorem d_M_turn_173 : am_D y_M_turn.2.2.1 173 (.ireturn) 1 174 := ⟨by decide +kernel, rfl⟩
theorem d_M_tell_0 : am_D y_M_tell.2.2.1 0 (.iload_n 2) 1 1 := ⟨by decide +kernel, rfl⟩
theorem d_M_tell_1 : am_D y_M_tell.2.2.1 1 (.ifCond .eq 8) 3 4 := ⟨by decide +kernel, rfl⟩
theorem d_M_tell_4 : am_D y_M_tell.2.2.1 4 (.iload_n 2) 1 5 := ⟨by decide +kernel, rfl⟩
theorem d_M_tell_5 : am_D y_M_tell.2.2.1 5 (.iconst 1) 1 6 := ⟨by decide +kernel, rfl⟩
theorem d_M_tell_6 : am_D y_M_tell.2.2.1 6 (.if_icmp .ne 7) 3 9 := ⟨by decide +kernel, rfl⟩
theorem d_M_tell_9 : am_D y_M_tell.2.2.1 9 (.iconst 1) 1 10 := ⟨by decide +kernel, rfl⟩
theorem d_M_tell_10 : am_D y_M_tell.2.2.1 10 (.goto 4) 3 13 := ⟨by decide +kernel, rfl⟩
theorem d_M_tell_13 : am_D y_M_tell.2.2.1 13 (.iconst 0) 1 14 := ⟨by decide +kernel, rfl⟩
theorem d_M_tell_14 : am_D y_M_tell.2.2.1 14 (.istore 7) 2 16 := ⟨by decide +kernel, rfl⟩
theorem d_M_tell_16 : am_D y_M_tell.2.2.1 16 (.iload 7) 2 18 := ⟨by decide +kernel, rfl⟩
theorem d_M_tell_18 : am_D y_M_tell.2.2.1 18 (.ifCond .eq 18) 3 21 := ⟨by decide +kernel, rfl⟩
theorem d_M_tell_21 : am_D y_M_tell.2.2.1 21 (.aload_n 0) 1 22 := ⟨by decide +kernel, rfl⟩
theorem d_M_tell_22 : am_D y_M_tell.2.2.1 22 (.getfield 71) 3 25 := ⟨by decide +kernel, rfl⟩
theorem d_M_tell_25 : am_D y_M_tell.2.2.1 25 (.iconst 2) 1 26 := ⟨by decide +kernel, rfl⟩
theorem d_M_tell_26 : am_D y_M_tell.2.2.1 26 (.iload_n 1) 1 27 := ⟨by decide +kernel, rfl⟩
theorem d_M_tell_27 : am_D y_M_tell.2.2.1 27 (.imul) 1 28 := ⟨by decide +kernel, rfl⟩
theorem d_M_tell_28 : am_D y_M_tell.2.2.1 28 (.iconst 1) 1 29 := ⟨by decide +kernel, rfl⟩
theorem d_M_tell_29 : am_D y_M_tell.2.2.1 29 (.iadd) 1 30 := ⟨by decide +kernel, rfl⟩
theorem d_M_tell_30 : am_D y_M_tell.2.2.1 30 (.iaload) 1 31 := ⟨by decide +kernel, rfl⟩
theorem d_M_tell_31 : am_D y_M_tell.2.2.1 31 (.bipush 8) 2 33 := ⟨by decide +kernel, rfl⟩
theorem d_M_tell_33 : am_D y_M_tell.2.2.1 33 (.if_icmp .ge 20) 3 36 := ⟨by decide +kernel, rfl⟩
theorem d_M_tell_36 : am_D y_M_tell.2.2.1 36 (.aload_n 0) 1 37 := ⟨by decide +kernel, rfl⟩
theorem d_M_tell_37 : am_D y_M_tell.2.2.1 37 (.iconst 2) 1 38 := ⟨by decide +kernel, rfl⟩
theorem d_M_tell_38 : am_D y_M_tell.2.2.1 38 (.iload_n 1) 1 39 := ⟨by decide +kernel, rfl⟩
theorem d_M_tell_39 : am_D y_M_tell.2.2.1 39 (.imul) 1 40 := ⟨by decide +kernel, rfl⟩
theorem d_M_tell_40 : am_D y_M_tell.2.2.1 40 (.iconst 1) 1 41 := ⟨by decide +kernel, rfl⟩
theorem d_M_tell_41 : am_D y_M_tell.2.2.1 41 (.iadd) 1 42 := ⟨by decide +kernel, rfl⟩
theorem d_M_tell_42 : am_D y_M_tell.2.2.1 42 (.iload_n 2) 1 43 := ⟨by decide +kernel, rfl⟩
theorem d_M_tell_43 : am_D y_M_tell.2.2.1 43 (.iload_n 3) 1 44 := ⟨by decide +kernel, rfl⟩
theorem d_M_tell_44 : am_D y_M_tell.2.2.1 44 (.iload 4) 2 46 := ⟨by decide +kernel, rfl⟩
theorem d_M_tell_46 : am_D y_M_tell.2.2.1 46 (.iload 5) 2 48 := ⟨by decide +kernel, rfl⟩
theorem d_M_tell_48 : am_D y_M_tell.2.2.1 48 (.iload 6) 2 50 := ⟨by decide +kernel, rfl⟩
theorem d_M_tell_50 : am_D y_M_tell.2.2.1 50 (.invokevirtual 155) 3 53 := ⟨by decide +kernel, rfl⟩
theorem d_M_tell_53 : am_D y_M_tell.2.2.1 53 (.return_) 1 54 := ⟨by decide +kernel, rfl⟩
theorem d_M_add_0 : am_D y_M_add.2.2.1 0 (.aload_n 0) 1 1 := ⟨by decide +kernel, rfl⟩
theorem d_M_add_1 : am_D y_M_add.2.2.1 1 (.getfield 71) 3 4 := ⟨by decide +kernel, rfl⟩
theorem d_M_add_4 : am_D y_M_add.2.2.1 4 (.iload_n 1) 1 5 := ⟨by decide +kernel, rfl⟩
theorem d_M_add_5 : am_D y_M_add.2.2.1 5 (.iaload) 1 6 := ⟨by decide +kernel, rfl⟩
theorem d_M_add_6 : am_D y_M_add.2.2.1 6 (.bipush 60) 2 8 := ⟨by decide +kernel, rfl⟩
theorem d_M_add_8 : am_D y_M_add.2.2.1 8 (.if_icmp .lt 4) 3 11 := ⟨by decide +kernel, rfl⟩
theorem d_M_add_11 : am_D y_M_add.2.2.1 11 (.return_) 1 12 := ⟨by decide +kernel, rfl⟩
theorem d_M_add_12 : am_D y_M_add.2.2.1 12 (.sipush 300) 3 15 := ⟨by decide +kernel, rfl⟩
theorem d_M_add_15 : am_D y_M_add.2.2.1 15 (.iload_n 1) 1 16 := ⟨by decide +kernel, rfl⟩
theorem d_M_add_16 : am_D y_M_add.2.2.1 16 (.imul) 1 17 := ⟨by decide +kernel, rfl⟩
theorem d_M_add_17 : am_D y_M_add.2.2.1 17 (.iconst 5) 1 18 := ⟨by decide +kernel, rfl⟩
theorem d_M_add_18 : am_D y_M_add.2.2.1 18 (.aload_n 0) 1 19 := ⟨by decide +kernel, rfl⟩
theorem d_M_add_19 : am_D y_M_add.2.2.1 19 (.getfield 71) 3 22 := ⟨by decide +kernel, rfl⟩
theorem d_M_add_22 : am_D y_M_add.2.2.1 22 (.iload_n 1) 1 23 := ⟨by decide +kernel, rfl⟩
theorem d_M_add_23 : am_D y_M_add.2.2.1 23 (.iaload) 1 24 := ⟨by decide +kernel, rfl⟩
theorem d_M_add_24 : am_D y_M_add.2.2.1 24 (.imul) 1 25 := ⟨by decide +kernel, rfl⟩
theorem d_M_add_25 : am_D y_M_add.2.2.1 25 (.iadd) 1 26 := ⟨by decide +kernel, rfl⟩
theorem d_M_add_26 : am_D y_M_add.2.2.1 26 (.istore 7) 2 28 := ⟨by decide +kernel, rfl⟩
theorem d_M_add_28 : am_D y_M_add.2.2.1 28 (.aload_n 0) 1 29 := ⟨by decide +kernel, rfl⟩
theorem d_M_add_29 : am_D y_M_add.2.2.1 29 (.getfield 74) 3 32 := ⟨by decide +kernel, rfl⟩
theorem d_M_add_32 : am_D y_M_add.2.2.1 32 (.iload 7) 2 34 := ⟨by decide +kernel, rfl⟩
theorem d_M_add_34 : am_D y_M_add.2.2.1 34 (.iload_n 2) 1 35 := ⟨by decide +kernel, rfl⟩
theorem d_M_add_35 : am_D y_M_add.2.2.1 35 (.iastore) 1 36 := ⟨by decide +kernel, rfl⟩
theorem d_M_add_36 : am_D y_M_add.2.2.1 36 (.aload_n 0) 1 37 := ⟨by decide +kernel, rfl⟩
theorem d_M_add_37 : am_D y_M_add.2.2.1 37 (.getfield 74) 3 40 := ⟨by decide +kernel, rfl⟩
theorem d_M_add_40 : am_D y_M_add.2.2.1 40 (.iload 7) 2 42 := ⟨by decide +kernel, rfl⟩
theorem d_M_add_42 : am_D y_M_add.2.2.1 42 (.iconst 1) 1 43 := ⟨by decide +kernel, rfl⟩
theorem d_M_add_43 : am_D y_M_add.2.2.1 43 (.iadd) 1 44 := ⟨by decide +kernel, rfl⟩
theorem d_M_add_44 : am_D y_M_add.2.2.1 44 (.iload_n 3) 1 45 := ⟨by decide +kernel, rfl⟩
theorem d_M_add_45 : am_D y_M_add.2.2.1 45 (.iastore) 1 46 := ⟨by decide +kernel, rfl⟩
theorem d_M_add_46 : am_D y_M_add.2.2.1 46 (.aload_n 0) 1 47 := ⟨by decide +kernel, rfl⟩
theorem d_M_add_47 : am_D y_M_add.2.2.1 47 (.getfield 74) 3 50 := ⟨by decide +kernel, rfl⟩
theorem d_M_add_50 : am_D y_M_add.2.2.1 50 (.iload 7) 2 52 := ⟨by decide +kernel, rfl⟩
theorem d_M_add_52 : am_D y_M_add.2.2.1 52 (.iconst 2) 1 53 := ⟨by decide +kernel, rfl⟩
theorem d_M_add_53 : am_D y_M_add.2.2.1 53 (.iadd) 1 54 := ⟨by decide +kernel, rfl⟩
theorem d_M_add_54 : am_D y_M_add.2.2.1 54 (.iload 4) 2 56 := ⟨by decide +kernel, rfl⟩
theorem d_M_add_56 : am_D y_M_add.2.2.1 56 (.iastore) 1 57 := ⟨by decide +kernel, rfl⟩
theorem d_M_add_57 : am_D y_M_add.2.2.1 57 (.aload_n 0) 1 58 := ⟨by decide +kernel, rfl⟩
theorem d_M_add_58 : am_D y_M_add.2.2.1 58 (.getfield 74) 3 61 := ⟨by decide +kernel, rfl⟩
theorem d_M_add_61 : am_D y_M_add.2.2.1 61 (.iload 7) 2 63 := ⟨by decide +kernel, rfl⟩
theorem d_M_add_63 : am_D y_M_add.2.2.1 63 (.iconst 3) 1 64 := ⟨by decide +kernel, rfl⟩
theorem d_M_add_64 : am_D y_M_add.2.2.1 64 (.iadd) 1 65 := ⟨by decide +kernel, rfl⟩
theorem d_M_add_65 : am_D y_M_add.2.2.1 65 (.iload 5) 2 67 := ⟨by decide +kernel, rfl⟩
theorem d_M_add_67 : am_D y_M_add.2.2.1 67 (.iastore) 1 68 := ⟨by decide +kernel, rfl⟩
theorem d_M_add_68 : am_D y_M_add.2.2.1 68 (.aload_n 0) 1 69 := ⟨by decide +kernel, rfl⟩
theorem d_M_add_69 : am_D y_M_add.2.2.1 69 (.getfield 74) 3 72 := ⟨by decide +kernel, rfl⟩
theorem d_M_add_72 : am_D y_M_add.2.2.1 72 (.iload 7) 2 74 := ⟨by decide +kernel, rfl⟩
theorem d_M_add_74 : am_D y_M_add.2.2.1 74 (.iconst 4) 1 75 := ⟨by decide +kernel, rfl⟩
theorem d_M_add_75 : am_D y_M_add.2.2.1 75 (.iadd) 1 76 := ⟨by decide +kernel, rfl⟩
theorem d_M_add_76 : am_D y_M_add.2.2.1 76 (.iload 6) 2 78 := ⟨by decide +kernel, rfl⟩
theorem d_M_add_78 : am_D y_M_add.2.2.1 78 (.iastore) 1 79 := ⟨by decide +kernel, rfl⟩
theorem d_M_add_79 : am_D y_M_add.2.2.1 79 (.aload_n 0) 1 80 := ⟨by decide +kernel, rfl⟩
theorem d_M_add_80 : am_D y_M_add.2.2.1 80 (.getfield 71) 3 83 := ⟨by decide +kernel, rfl⟩
theorem d_M_add_83 : am_D y_M_add.2.2.1 83 (.iload_n 1) 1 84 := ⟨by decide +kernel, rfl⟩
theorem d_M_add_84 : am_D y_M_add.2.2.1 84 (.dup2) 1 85 := ⟨by decide +kernel, rfl⟩
theorem d_M_add_85 : am_D y_M_add.2.2.1 85 (.iaload) 1 86 := ⟨by decide +kernel, rfl⟩
theorem d_M_add_86 : am_D y_M_add.2.2.1 86 (.iconst 1) 1 87 := ⟨by decide +kernel, rfl⟩
theorem d_M_add_87 : am_D y_M_add.2.2.1 87 (.iadd) 1 88 := ⟨by decide +kernel, rfl⟩
theorem d_M_add_88 : am_D y_M_add.2.2.1 88 (.iastore) 1 89 := ⟨by decide +kernel, rfl⟩
theorem d_M_add_89 : am_D y_M_add.2.2.1 89 (.return_) 1 90 := ⟨by decide +kernel, rfl⟩
theorem d_M_guard_0 : am_D y_M_guard.2.2.1 0 (.aload_n 0) 1 1 := ⟨by decide +kernel, rfl⟩
theorem d_M_guard_1 : am_D y_M_guard.2.2.1 1 (.iload_n 1) 1 2 := ⟨by decide +kernel, rfl⟩
theorem d_M_guard_2 : am_D y_M_guard.2.2.1 2 (.invokevirtual 133) 3 5 := ⟨by decide +kernel, rfl⟩
theorem d_M_guard_5 : am_D y_M_guard.2.2.1 5 (.ifCond .eq 40) 3 8 := ⟨by decide +kernel, rfl⟩
theorem d_M_guard_8 : am_D y_M_guard.2.2.1 8 (.iload_n 2) 1 9 := ⟨by decide +kernel, rfl⟩
theorem d_M_guard_9 : am_D y_M_guard.2.2.1 9 (.ifCond .lt 36) 3 12 := ⟨by decide +kernel, rfl⟩
theorem d_M_guard_12 : am_D y_M_guard.2.2.1 12 (.iload_n 2) 1 13 := ⟨by decide +kernel, rfl⟩
theorem d_M_guard_13 : am_D y_M_guard.2.2.1 13 (.bipush 9) 2 15 := ⟨by decide +kernel, rfl⟩
theorem d_M_guard_15 : am_D y_M_guard.2.2.1 15 (.if_icmp .gt 30) 3 18 := ⟨by decide +kernel, rfl⟩
theorem d_M_guard_18 : am_D y_M_guard.2.2.1 18 (.iload 4) 2 20 := ⟨by decide +kernel, rfl⟩
theorem d_M_guard_20 : am_D y_M_guard.2.2.1 20 (.ifCond .lt 25) 3 23 := ⟨by decide +kernel, rfl⟩
theorem d_M_guard_23 : am_D y_M_guard.2.2.1 23 (.iload 4) 2 25 := ⟨by decide +kernel, rfl⟩
theorem d_M_guard_25 : am_D y_M_guard.2.2.1 25 (.bipush 6) 2 27 := ⟨by decide +kernel, rfl⟩
theorem d_M_guard_27 : am_D y_M_guard.2.2.1 27 (.if_icmp .gt 18) 3 30 := ⟨by decide +kernel, rfl⟩
theorem d_M_guard_30 : am_D y_M_guard.2.2.1 30 (.iload_n 3) 1 31 := ⟨by decide +kernel, rfl⟩
theorem d_M_guard_31 : am_D y_M_guard.2.2.1 31 (.ifCond .lt 14) 3 34 := ⟨by decide +kernel, rfl⟩
theorem d_M_guard_34 : am_D y_M_guard.2.2.1 34 (.iload_n 3) 1 35 := ⟨by decide +kernel, rfl⟩
theorem d_M_guard_35 : am_D y_M_guard.2.2.1 35 (.sipush 511) 3 38 := ⟨by decide +kernel, rfl⟩
theorem d_M_guard_38 : am_D y_M_guard.2.2.1 38 (.if_icmp .gt 7) 3 41 := ⟨by decide +kernel, rfl⟩
theorem d_M_guard_41 : am_D y_M_guard.2.2.1 41 (.iconst 1) 1 42 := ⟨by decide +kernel, rfl⟩
theorem d_M_guard_42 : am_D y_M_guard.2.2.1 42 (.goto 4) 3 45 := ⟨by decide +kernel, rfl⟩
theorem d_M_guard_45 : am_D y_M_guard.2.2.1 45 (.iconst 0) 1 46 := ⟨by decide +kernel, rfl⟩
theorem d_M_guard_46 : am_D y_M_guard.2.2.1 46 (.istore 5) 2 48 := ⟨by decide +kernel, rfl⟩
theorem d_M_guard_48 : am_D y_M_guard.2.2.1 48 (.iload 5) 2 50 := ⟨by decide +kernel, rfl⟩
theorem d_M_guard_50 : am_D y_M_guard.2.2.1 50 (.ifCond .eq 31) 3 53 := ⟨by decide +kernel, rfl⟩
theorem d_M_guard_53 : am_D y_M_guard.2.2.1 53 (.iload_n 3) 1 54 := ⟨by decide +kernel, rfl⟩
theorem d_M_guard_54 : am_D y_M_guard.2.2.1 54 (.bipush 7) 2 56 := ⟨by decide +kernel, rfl⟩
theorem d_M_guard_56 : am_D y_M_guard.2.2.1 56 (.iand) 1 57 := ⟨by decide +kernel, rfl⟩
theorem d_M_guard_57 : am_D y_M_guard.2.2.1 57 (.iconst 4) 1 58 := ⟨by decide +kernel, rfl⟩
theorem d_M_guard_58 : am_D y_M_guard.2.2.1 58 (.if_icmp .gt 23) 3 61 := ⟨by decide +kernel, rfl⟩
theorem d_M_guard_61 : am_D y_M_guard.2.2.1 61 (.iload_n 3) 1 62 := ⟨by decide +kernel, rfl⟩
theorem d_M_guard_62 : am_D y_M_guard.2.2.1 62 (.iconst 3) 1 63 := ⟨by decide +kernel, rfl⟩
theorem d_M_guard_63 : am_D y_M_guard.2.2.1 63 (.ishr) 1 64 := ⟨by decide +kernel, rfl⟩
theorem d_M_guard_64 : am_D y_M_guard.2.2.1 64 (.bipush 7) 2 66 := ⟨by decide +kernel, rfl⟩
theorem d_M_guard_66 : am_D y_M_guard.2.2.1 66 (.iand) 1 67 := ⟨by decide +kernel, rfl⟩
theorem d_M_guard_67 : am_D y_M_guard.2.2.1 67 (.bipush 6) 2 69 := ⟨by decide +kernel, rfl⟩
theorem d_M_guard_69 : am_D y_M_guard.2.2.1 69 (.if_icmp .gt 12) 3 72 := ⟨by decide +kernel, rfl⟩
theorem d_M_guard_72 : am_D y_M_guard.2.2.1 72 (.iload_n 3) 1 73 := ⟨by decide +kernel, rfl⟩
theorem d_M_guard_73 : am_D y_M_guard.2.2.1 73 (.bipush 6) 2 75 := ⟨by decide +kernel, rfl⟩
theorem d_M_guard_75 : am_D y_M_guard.2.2.1 75 (.ishr) 1 76 := ⟨by decide +kernel, rfl⟩
theorem d_M_guard_76 : am_D y_M_guard.2.2.1 76 (.bipush 6) 2 78 := ⟨by decide +kernel, rfl⟩
theorem d_M_guard_78 : am_D y_M_guard.2.2.1 78 (.if_icmp .le 5) 3 81 := ⟨by decide +kernel, rfl⟩
theorem d_M_guard_81 : am_D y_M_guard.2.2.1 81 (.iconst (-1)) 1 82 := ⟨by decide +kernel, rfl⟩
theorem d_M_guard_82 : am_D y_M_guard.2.2.1 82 (.ireturn) 1 83 := ⟨by decide +kernel, rfl⟩
theorem d_M_guard_83 : am_D y_M_guard.2.2.1 83 (.aload_n 0) 1 84 := ⟨by decide +kernel, rfl⟩
theorem d_M_guard_84 : am_D y_M_guard.2.2.1 84 (.getfield 38) 3 87 := ⟨by decide +kernel, rfl⟩
theorem d_M_guard_87 : am_D y_M_guard.2.2.1 87 (.iload_n 1) 1 88 := ⟨by decide +kernel, rfl⟩
theorem d_M_guard_88 : am_D y_M_guard.2.2.1 88 (.iaload) 1 89 := ⟨by decide +kernel, rfl⟩
theorem d_M_guard_89 : am_D y_M_guard.2.2.1 89 (.iconst 4) 1 90 := ⟨by decide +kernel, rfl⟩
theorem d_M_guard_90 : am_D y_M_guard.2.2.1 90 (.if_icmp .ne 6) 3 93 := ⟨by decide +kernel, rfl⟩
theorem d_M_guard_93 : am_D y_M_guard.2.2.1 93 (.bipush (-2)) 2 95 := ⟨by decide +kernel, rfl⟩
theorem d_M_guard_95 : am_D y_M_guard.2.2.1 95 (.ireturn) 1 96 := ⟨by decide +kernel, rfl⟩
theorem d_M_guard_96 : am_D y_M_guard.2.2.1 96 (.iconst 4) 1 97 := ⟨by decide +kernel, rfl⟩
theorem d_M_guard_97 : am_D y_M_guard.2.2.1 97 (.iload_n 1) 1 98 := ⟨by decide +kernel, rfl⟩
theorem d_M_guard_98 : am_D y_M_guard.2.2.1 98 (.imul) 1 99 := ⟨by decide +kernel, rfl⟩
theorem d_M_guard_99 : am_D y_M_guard.2.2.1 99 (.aload_n 0) 1 100 := ⟨by decide +kernel, rfl⟩
theorem d_M_guard_100 : am_D y_M_guard.2.2.1 100 (.getfield 38) 3 103 := ⟨by decide +kernel, rfl⟩
theorem d_M_guard_103 : am_D y_M_guard.2.2.1 103 (.iload_n 1) 1 104 := ⟨by decide +kernel, rfl⟩
theorem d_M_guard_104 : am_D y_M_guard.2.2.1 104 (.iaload) 1 105 := ⟨by decide +kernel, rfl⟩
theorem d_M_guard_105 : am_D y_M_guard.2.2.1 105 (.iadd) 1 106 := ⟨by decide +kernel, rfl⟩
theorem d_M_guard_106 : am_D y_M_guard.2.2.1 106 (.istore 6) 2 108 := ⟨by decide +kernel, rfl⟩
theorem d_M_guard_108 : am_D y_M_guard.2.2.1 108 (.aload_n 0) 1 109 := ⟨by decide +kernel, rfl⟩
theorem d_M_guard_109 : am_D y_M_guard.2.2.1 109 (.getfield 41) 3 112 := ⟨by decide +kernel, rfl⟩
theorem d_M_guard_112 : am_D y_M_guard.2.2.1 112 (.iload 6) 2 114 := ⟨by decide +kernel, rfl⟩
theorem d_M_guard_114 : am_D y_M_guard.2.2.1 114 (.iload_n 2) 1 115 := ⟨by decide +kernel, rfl⟩
theorem d_M_guard_115 : am_D y_M_guard.2.2.1 115 (.iastore) 1 116 := ⟨by decide +kernel, rfl⟩
theorem d_M_guard_116 : am_D y_M_guard.2.2.1 116 (.aload_n 0) 1 117 := ⟨by decide +kernel, rfl⟩
theorem d_M_guard_117 : am_D y_M_guard.2.2.1 117 (.getfield 44) 3 120 := ⟨by decide +kernel, rfl⟩
theorem d_M_guard_120 : am_D y_M_guard.2.2.1 120 (.iload 6) 2 122 := ⟨by decide +kernel, rfl⟩
theorem d_M_guard_122 : am_D y_M_guard.2.2.1 122 (.iload_n 3) 1 123 := ⟨by decide +kernel, rfl⟩
theorem d_M_guard_123 : am_D y_M_guard.2.2.1 123 (.iastore) 1 124 := ⟨by decide +kernel, rfl⟩
theorem d_M_guard_124 : am_D y_M_guard.2.2.1 124 (.aload_n 0) 1 125 := ⟨by decide +kernel, rfl⟩
theorem d_M_guard_125 : am_D y_M_guard.2.2.1 125 (.getfield 47) 3 128 := ⟨by decide +kernel, rfl⟩
theorem d_M_guard_128 : am_D y_M_guard.2.2.1 128 (.iload 6) 2 130 := ⟨by decide +kernel, rfl⟩
theorem d_M_guard_130 : am_D y_M_guard.2.2.1 130 (.iload 4) 2 132 := ⟨by decide +kernel, rfl⟩
theorem d_M_guard_132 : am_D y_M_guard.2.2.1 132 (.iastore) 1 133 := ⟨by decide +kernel, rfl⟩
theorem d_M_guard_133 : am_D y_M_guard.2.2.1 133 (.aload_n 0) 1 134 := ⟨by decide +kernel, rfl⟩
theorem d_M_guard_134 : am_D y_M_guard.2.2.1 134 (.getfield 50) 3 137 := ⟨by decide +kernel, rfl⟩
theorem d_M_guard_137 : am_D y_M_guard.2.2.1 137 (.iload 6) 2 139 := ⟨by decide +kernel, rfl⟩
theorem d_M_guard_139 : am_D y_M_guard.2.2.1 139 (.iconst 0) 1 140 := ⟨by decide +kernel, rfl⟩
theorem d_M_guard_140 : am_D y_M_guard.2.2.1 140 (.iastore) 1 141 := ⟨by decide +kernel, rfl⟩
theorem d_M_guard_141 : am_D y_M_guard.2.2.1 141 (.aload_n 0) 1 142 := ⟨by decide +kernel, rfl⟩
theorem d_M_guard_142 : am_D y_M_guard.2.2.1 142 (.getfield 38) 3 145 := ⟨by decide +kernel, rfl⟩
theorem d_M_guard_145 : am_D y_M_guard.2.2.1 145 (.iload_n 1) 1 146 := ⟨by decide +kernel, rfl⟩
theorem d_M_guard_146 : am_D y_M_guard.2.2.1 146 (.dup2) 1 147 := ⟨by decide +kernel, rfl⟩
theorem d_M_guard_147 : am_D y_M_guard.2.2.1 147 (.iaload) 1 148 := ⟨by decide +kernel, rfl⟩
theorem d_M_guard_148 : am_D y_M_guard.2.2.1 148 (.iconst 1) 1 149 := ⟨by decide +kernel, rfl⟩
theorem d_M_guard_149 : am_D y_M_guard.2.2.1 149 (.iadd) 1 150 := ⟨by decide +kernel, rfl⟩
theorem d_M_guard_150 : am_D y_M_guard.2.2.1 150 (.iastore) 1 151 := ⟨by decide +kernel, rfl⟩
theorem d_M_guard_151 : am_D y_M_guard.2.2.1 151 (.aload_n 0) 1 152 := ⟨by decide +kernel, rfl⟩
theorem d_M_guard_152 : am_D y_M_guard.2.2.1 152 (.getfield 38) 3 155 := ⟨by decide +kernel, rfl⟩
theorem d_M_guard_155 : am_D y_M_guard.2.2.1 155 (.iload_n 1) 1 156 := ⟨by decide +kernel, rfl⟩
theorem d_M_guard_156 : am_D y_M_guard.2.2.1 156 (.iaload) 1 157 := ⟨by decide +kernel, rfl⟩
theorem d_M_guard_157 : am_D y_M_guard.2.2.1 157 (.iconst 1) 1 158 := ⟨by decide +kernel, rfl⟩
theorem d_M_guard_158 : am_D y_M_guard.2.2.1 158 (.isub) 1 159 := ⟨by decide +kernel, rfl⟩
theorem d_M_guard_159 : am_D y_M_guard.2.2.1 159 (.ireturn) 1 160 := ⟨by decide +kernel, rfl⟩
theorem d_M_hits_0 : am_D y_M_hits.2.2.1 0 (.aload_n 0) 1 1 := ⟨by decide +kernel, rfl⟩
theorem d_M_hits_1 : am_D y_M_hits.2.2.1 1 (.iload_n 1) 1 2 := ⟨by decide +kernel, rfl⟩
theorem d_M_hits_2 : am_D y_M_hits.2.2.1 2 (.iload_n 2) 1 3 := ⟨by decide +kernel, rfl⟩
theorem d_M_hits_3 : am_D y_M_hits.2.2.1 3 (.invokevirtual 152) 3 6 := ⟨by decide +kernel, rfl⟩
theorem d_M_hits_6 : am_D y_M_hits.2.2.1 6 (.ifCond .eq 16) 3 9 := ⟨by decide +kernel, rfl⟩
theorem d_M_hits_9 : am_D y_M_hits.2.2.1 9 (.aload_n 0) 1 10 := ⟨by decide +kernel, rfl⟩
theorem d_M_hits_10 : am_D y_M_hits.2.2.1 10 (.getfield 50) 3 13 := ⟨by decide +kernel, rfl⟩
theorem d_M_hits_13 : am_D y_M_hits.2.2.1 13 (.iconst 4) 1 14 := ⟨by decide +kernel, rfl⟩
theorem d_M_hits_14 : am_D y_M_hits.2.2.1 14 (.iload_n 1) 1 15 := ⟨by decide +kernel, rfl⟩
theorem d_M_hits_15 : am_D y_M_hits.2.2.1 15 (.imul) 1 16 := ⟨by decide +kernel, rfl⟩
theorem d_M_hits_16 : am_D y_M_hits.2.2.1 16 (.iload_n 2) 1 17 := ⟨by decide +kernel, rfl⟩
theorem d_M_hits_17 : am_D y_M_hits.2.2.1 17 (.iadd) 1 18 := ⟨by decide +kernel, rfl⟩
theorem d_M_hits_18 : am_D y_M_hits.2.2.1 18 (.iaload) 1 19 := ⟨by decide +kernel, rfl⟩
theorem d_M_hits_19 : am_D y_M_hits.2.2.1 19 (.goto 4) 3 22 := ⟨by decide +kernel, rfl⟩
theorem d_M_hits_22 : am_D y_M_hits.2.2.1 22 (.iconst (-1)) 1 23 := ⟨by decide +kernel, rfl⟩
theorem d_M_hits_23 : am_D y_M_hits.2.2.1 23 (.ireturn) 1 24 := ⟨by decide +kernel, rfl⟩
theorem d_M_isGuard_0 : am_D y_M_isGuard.2.2.1 0 (.aload_n 0) 1 1 := ⟨by decide +kernel, rfl⟩
theorem d_M_isGuard_1 : am_D y_M_isGuard.2.2.1 1 (.iload_n 1) 1 2 := ⟨by decide +kernel, rfl⟩
theorem d_M_isGuard_2 : am_D y_M_isGuard.2.2.1 2 (.invokevirtual 133) 3 5 := ⟨by decide +kernel, rfl⟩
theorem d_M_isGuard_5 : am_D y_M_isGuard.2.2.1 5 (.ifCond .eq 21) 3 8 := ⟨by decide +kernel, rfl⟩
theorem d_M_isGuard_8 : am_D y_M_isGuard.2.2.1 8 (.iload_n 2) 1 9 := ⟨by decide +kernel, rfl⟩
theorem d_M_isGuard_9 : am_D y_M_isGuard.2.2.1 9 (.ifCond .lt 17) 3 12 := ⟨by decide +kernel, rfl⟩
theorem d_M_isGuard_12 : am_D y_M_isGuard.2.2.1 12 (.iload_n 2) 1 13 := ⟨by decide +kernel, rfl⟩
theorem d_M_isGuard_13 : am_D y_M_isGuard.2.2.1 13 (.aload_n 0) 1 14 := ⟨by decide +kernel, rfl⟩
theorem d_M_isGuard_14 : am_D y_M_isGuard.2.2.1 14 (.getfield 38) 3 17 := ⟨by decide +kernel, rfl⟩
theorem d_M_isGuard_17 : am_D y_M_isGuard.2.2.1 17 (.iload_n 1) 1 18 := ⟨by decide +kernel, rfl⟩
theorem d_M_isGuard_18 : am_D y_M_isGuard.2.2.1 18 (.iaload) 1 19 := ⟨by decide +kernel, rfl⟩
theorem d_M_isGuard_19 : am_D y_M_isGuard.2.2.1 19 (.if_icmp .ge 7) 3 22 := ⟨by decide +kernel, rfl⟩
theorem d_M_isGuard_22 : am_D y_M_isGuard.2.2.1 22 (.iconst 1) 1 23 := ⟨by decide +kernel, rfl⟩
theorem d_M_isGuard_23 : am_D y_M_isGuard.2.2.1 23 (.goto 4) 3 26 := ⟨by decide +kernel, rfl⟩
theorem d_M_isGuard_26 : am_D y_M_isGuard.2.2.1 26 (.iconst 0) 1 27 := ⟨by decide +kernel, rfl⟩
theorem d_M_isGuard_27 : am_D y_M_isGuard.2.2.1 27 (.ireturn) 1 28 := ⟨by decide +kernel, rfl⟩
theorem d_M_unguard_0 : am_D y_M_unguard.2.2.1 0 (.aload_n 0) 1 1 := ⟨by decide +kernel, rfl⟩
theorem d_M_unguard_1 : am_D y_M_unguard.2.2.1 1 (.iload_n 1) 1 2 := ⟨by decide +kernel, rfl⟩
theorem d_M_unguard_2 : am_D y_M_unguard.2.2.1 2 (.iload_n 2) 1 3 := ⟨by decide +kernel, rfl⟩
theorem d_M_unguard_3 : am_D y_M_unguard.2.2.1 3 (.invokevirtual 152) 3 6 := ⟨by decide +kernel, rfl⟩
theorem d_M_unguard_6 : am_D y_M_unguard.2.2.1 6 (.ifCond .ne 5) 3 9 := ⟨by decide +kernel, rfl⟩
theorem d_M_unguard_9 : am_D y_M_unguard.2.2.1 9 (.iconst (-1)) 1 10 := ⟨by decide +kernel, rfl⟩
theorem d_M_unguard_10 : am_D y_M_unguard.2.2.1 10 (.ireturn) 1 11 := ⟨by decide +kernel, rfl⟩
theorem d_M_unguard_11 : am_D y_M_unguard.2.2.1 11 (.aload_n 0) 1 12 := ⟨by decide +kernel, rfl⟩
theorem d_M_unguard_12 : am_D y_M_unguard.2.2.1 12 (.getfield 50) 3 15 := ⟨by decide +kernel, rfl⟩
theorem d_M_unguard_15 : am_D y_M_unguard.2.2.1 15 (.iconst 4) 1 16 := ⟨by decide +kernel, rfl⟩
theorem d_M_unguard_16 : am_D y_M_unguard.2.2.1 16 (.iload_n 1) 1 17 := ⟨by decide +kernel, rfl⟩
theorem d_M_unguard_17 : am_D y_M_unguard.2.2.1 17 (.imul) 1 18 := ⟨by decide +kernel, rfl⟩
theorem d_M_unguard_18 : am_D y_M_unguard.2.2.1 18 (.iload_n 2) 1 19 := ⟨by decide +kernel, rfl⟩
theorem d_M_unguard_19 : am_D y_M_unguard.2.2.1 19 (.iadd) 1 20 := ⟨by decide +kernel, rfl⟩
theorem d_M_unguard_20 : am_D y_M_unguard.2.2.1 20 (.iaload) 1 21 := ⟨by decide +kernel, rfl⟩
theorem d_M_unguard_21 : am_D y_M_unguard.2.2.1 21 (.istore_n 3) 1 22 := ⟨by decide +kernel, rfl⟩
theorem d_M_unguard_22 : am_D y_M_unguard.2.2.1 22 (.aload_n 0) 1 23 := ⟨by decide +kernel, rfl⟩
theorem d_M_unguard_23 : am_D y_M_unguard.2.2.1 23 (.getfield 38) 3 26 := ⟨by decide +kernel, rfl⟩
theorem d_M_unguard_26 : am_D y_M_unguard.2.2.1 26 (.iload_n 1) 1 27 := ⟨by decide +kernel, rfl⟩
theorem d_M_unguard_27 : am_D y_M_unguard.2.2.1 27 (.dup2) 1 28 := ⟨by decide +kernel, rfl⟩
theorem d_M_unguard_28 : am_D y_M_unguard.2.2.1 28 (.iaload) 1 29 := ⟨by decide +kernel, rfl⟩
theorem d_M_unguard_29 : am_D y_M_unguard.2.2.1 29 (.iconst 1) 1 30 := ⟨by decide +kernel, rfl⟩
theorem d_M_unguard_30 : am_D y_M_unguard.2.2.1 30 (.isub) 1 31 := ⟨by decide +kernel, rfl⟩
theorem d_M_unguard_31 : am_D y_M_unguard.2.2.1 31 (.iastore) 1 32 := ⟨by decide +kernel, rfl⟩
theorem d_M_unguard_32 : am_D y_M_unguard.2.2.1 32 (.iconst 4) 1 33 := ⟨by decide +kernel, rfl⟩
theorem d_M_unguard_33 : am_D y_M_unguard.2.2.1 33 (.iload_n 1) 1 34 := ⟨by decide +kernel, rfl⟩
theorem d_M_unguard_34 : am_D y_M_unguard.2.2.1 34 (.imul) 1 35 := ⟨by decide +kernel, rfl⟩
theorem d_M_unguard_35 : am_D y_M_unguard.2.2.1 35 (.iload_n 2) 1 36 := ⟨by decide +kernel, rfl⟩
theorem d_M_unguard_36 : am_D y_M_unguard.2.2.1 36 (.iadd) 1 37 := ⟨by decide +kernel, rfl⟩
theorem d_M_unguard_37 : am_D y_M_unguard.2.2.1 37 (.istore 4) 2 39 := ⟨by decide +kernel, rfl⟩
theorem d_M_unguard_39 : am_D y_M_unguard.2.2.1 39 (.iload 4) 2 41 := ⟨by decide +kernel, rfl⟩
theorem d_M_unguard_41 : am_D y_M_unguard.2.2.1 41 (.iconst 4) 1 42 := ⟨by decide +kernel, rfl⟩
theorem d_M_unguard_42 : am_D y_M_unguard.2.2.1 42 (.iload_n 1) 1 43 := ⟨by decide +kernel, rfl⟩
theorem d_M_unguard_43 : am_D y_M_unguard.2.2.1 43 (.imul) 1 44 := ⟨by decide +kernel, rfl⟩
theorem d_M_unguard_44 : am_D y_M_unguard.2.2.1 44 (.aload_n 0) 1 45 := ⟨by decide +kernel, rfl⟩
theorem d_M_unguard_45 : am_D y_M_unguard.2.2.1 45 (.getfield 38) 3 48 := ⟨by decide +kernel, rfl⟩
theorem d_M_unguard_48 : am_D y_M_unguard.2.2.1 48 (.iload_n 1) 1 49 := ⟨by decide +kernel, rfl⟩
theorem d_M_unguard_49 : am_D y_M_unguard.2.2.1 49 (.iaload) 1 50 := ⟨by decide +kernel, rfl⟩
theorem d_M_unguard_50 : am_D y_M_unguard.2.2.1 50 (.iadd) 1 51 := ⟨by decide +kernel, rfl⟩
theorem d_M_unguard_51 : am_D y_M_unguard.2.2.1 51 (.if_icmp .ge 73) 3 54 := ⟨by decide +kernel, rfl⟩
theorem d_M_unguard_54 : am_D y_M_unguard.2.2.1 54 (.aload_n 0) 1 55 := ⟨by decide +kernel, rfl⟩
theorem d_M_unguard_55 : am_D y_M_unguard.2.2.1 55 (.getfield 41) 3 58 := ⟨by decide +kernel, rfl⟩
theorem d_M_unguard_58 : am_D y_M_unguard.2.2.1 58 (.iload 4) 2 60 := ⟨by decide +kernel, rfl⟩
theorem d_M_unguard_60 : am_D y_M_unguard.2.2.1 60 (.aload_n 0) 1 61 := ⟨by decide +kernel, rfl⟩
theorem d_M_unguard_61 : am_D y_M_unguard.2.2.1 61 (.getfield 41) 3 64 := ⟨by decide +kernel, rfl⟩
theorem d_M_unguard_64 : am_D y_M_unguard.2.2.1 64 (.iload 4) 2 66 := ⟨by decide +kernel, rfl⟩
theorem d_M_unguard_66 : am_D y_M_unguard.2.2.1 66 (.iconst 1) 1 67 := ⟨by decide +kernel, rfl⟩
theorem d_M_unguard_67 : am_D y_M_unguard.2.2.1 67 (.iadd) 1 68 := ⟨by decide +kernel, rfl⟩
theorem d_M_unguard_68 : am_D y_M_unguard.2.2.1 68 (.iaload) 1 69 := ⟨by decide +kernel, rfl⟩
theorem d_M_unguard_69 : am_D y_M_unguard.2.2.1 69 (.iastore) 1 70 := ⟨by decide +kernel, rfl⟩
theorem d_M_unguard_70 : am_D y_M_unguard.2.2.1 70 (.aload_n 0) 1 71 := ⟨by decide +kernel, rfl⟩
theorem d_M_unguard_71 : am_D y_M_unguard.2.2.1 71 (.getfield 44) 3 74 := ⟨by decide +kernel, rfl⟩
theorem d_M_unguard_74 : am_D y_M_unguard.2.2.1 74 (.iload 4) 2 76 := ⟨by decide +kernel, rfl⟩
theorem d_M_unguard_76 : am_D y_M_unguard.2.2.1 76 (.aload_n 0) 1 77 := ⟨by decide +kernel, rfl⟩
theorem d_M_unguard_77 : am_D y_M_unguard.2.2.1 77 (.getfield 44) 3 80 := ⟨by decide +kernel, rfl⟩
theorem d_M_unguard_80 : am_D y_M_unguard.2.2.1 80 (.iload 4) 2 82 := ⟨by decide +kernel, rfl⟩
theorem d_M_unguard_82 : am_D y_M_unguard.2.2.1 82 (.iconst 1) 1 83 := ⟨by decide +kernel, rfl⟩
theorem d_M_unguard_83 : am_D y_M_unguard.2.2.1 83 (.iadd) 1 84 := ⟨by decide +kernel, rfl⟩
theorem d_M_unguard_84 : am_D y_M_unguard.2.2.1 84 (.iaload) 1 85 := ⟨by decide +kernel, rfl⟩
theorem d_M_unguard_85 : am_D y_M_unguard.2.2.1 85 (.iastore) 1 86 := ⟨by decide +kernel, rfl⟩
theorem d_M_unguard_86 : am_D y_M_unguard.2.2.1 86 (.aload_n 0) 1 87 := ⟨by decide +kernel, rfl⟩
theorem d_M_unguard_87 : am_D y_M_unguard.2.2.1 87 (.getfield 47) 3 90 := ⟨by decide +kernel, rfl⟩
theorem d_M_unguard_90 : am_D y_M_unguard.2.2.1 90 (.iload 4) 2 92 := ⟨by decide +kernel, rfl⟩
theorem d_M_unguard_92 : am_D y_M_unguard.2.2.1 92 (.aload_n 0) 1 93 := ⟨by decide +kernel, rfl⟩
theorem d_M_unguard_93 : am_D y_M_unguard.2.2.1 93 (.getfield 47) 3 96 := ⟨by decide +kernel, rfl⟩
theorem d_M_unguard_96 : am_D y_M_unguard.2.2.1 96 (.iload 4) 2 98 := ⟨by decide +kernel, rfl⟩
theorem d_M_unguard_98 : am_D y_M_unguard.2.2.1 98 (.iconst 1) 1 99 := ⟨by decide +kernel, rfl⟩
theorem d_M_unguard_99 : am_D y_M_unguard.2.2.1 99 (.iadd) 1 100 := ⟨by decide +kernel, rfl⟩
theorem d_M_unguard_100 : am_D y_M_unguard.2.2.1 100 (.iaload) 1 101 := ⟨by decide +kernel, rfl⟩
theorem d_M_unguard_101 : am_D y_M_unguard.2.2.1 101 (.iastore) 1 102 := ⟨by decide +kernel, rfl⟩
theorem d_M_unguard_102 : am_D y_M_unguard.2.2.1 102 (.aload_n 0) 1 103 := ⟨by decide +kernel, rfl⟩
theorem d_M_unguard_103 : am_D y_M_unguard.2.2.1 103 (.getfield 50) 3 106 := ⟨by decide +kernel, rfl⟩
theorem d_M_unguard_106 : am_D y_M_unguard.2.2.1 106 (.iload 4) 2 108 := ⟨by decide +kernel, rfl⟩
theorem d_M_unguard_108 : am_D y_M_unguard.2.2.1 108 (.aload_n 0) 1 109 := ⟨by decide +kernel, rfl⟩
theorem d_M_unguard_109 : am_D y_M_unguard.2.2.1 109 (.getfield 50) 3 112 := ⟨by decide +kernel, rfl⟩
theorem d_M_unguard_112 : am_D y_M_unguard.2.2.1 112 (.iload 4) 2 114 := ⟨by decide +kernel, rfl⟩
theorem d_M_unguard_114 : am_D y_M_unguard.2.2.1 114 (.iconst 1) 1 115 := ⟨by decide +kernel, rfl⟩
theorem d_M_unguard_115 : am_D y_M_unguard.2.2.1 115 (.iadd) 1 116 := ⟨by decide +kernel, rfl⟩
theorem d_M_unguard_116 : am_D y_M_unguard.2.2.1 116 (.iaload) 1 117 := ⟨by decide +kernel, rfl⟩
theorem d_M_unguard_117 : am_D y_M_unguard.2.2.1 117 (.iastore) 1 118 := ⟨by decide +kernel, rfl⟩
theorem d_M_unguard_118 : am_D y_M_unguard.2.2.1 118 (.iinc 4 1) 3 121 := ⟨by decide +kernel, rfl⟩
theorem d_M_unguard_121 : am_D y_M_unguard.2.2.1 121 (.goto (-82)) 3 124 := ⟨by decide +kernel, rfl⟩
theorem d_M_unguard_124 : am_D y_M_unguard.2.2.1 124 (.iload_n 3) 1 125 := ⟨by decide +kernel, rfl⟩
theorem d_M_unguard_125 : am_D y_M_unguard.2.2.1 125 (.ireturn) 1 126 := ⟨by decide +kernel, rfl⟩
theorem d_M_send_0 : am_D y_M_send.2.2.1 0 (.aload_n 0) 1 1 := ⟨by decide +kernel, rfl⟩
theorem d_M_send_1 : am_D y_M_send.2.2.1 1 (.iload_n 1) 1 2 := ⟨by decide +kernel, rfl⟩
theorem d_M_send_2 : am_D y_M_send.2.2.1 2 (.invokevirtual 177) 3 5 := ⟨by decide +kernel, rfl⟩
theorem d_M_send_5 : am_D y_M_send.2.2.1 5 (.ifCond .eq 16) 3 8 := ⟨by decide +kernel, rfl⟩
theorem d_M_send_8 : am_D y_M_send.2.2.1 8 (.aload_n 0) 1 9 := ⟨by decide +kernel, rfl⟩
theorem d_M_send_9 : am_D y_M_send.2.2.1 9 (.iload_n 2) 1 10 := ⟨by decide +kernel, rfl⟩
theorem d_M_send_10 : am_D y_M_send.2.2.1 10 (.invokevirtual 177) 3 13 := ⟨by decide +kernel, rfl⟩
theorem d_M_send_13 : am_D y_M_send.2.2.1 13 (.ifCond .eq 8) 3 16 := ⟨by decide +kernel, rfl⟩
theorem d_M_send_16 : am_D y_M_send.2.2.1 16 (.iload_n 1) 1 17 := ⟨by decide +kernel, rfl⟩
theorem d_M_send_17 : am_D y_M_send.2.2.1 17 (.iload_n 2) 1 18 := ⟨by decide +kernel, rfl⟩
theorem d_M_send_18 : am_D y_M_send.2.2.1 18 (.if_icmp .ne 5) 3 21 := ⟨by decide +kernel, rfl⟩
theorem d_M_send_21 : am_D y_M_send.2.2.1 21 (.iconst 0) 1 22 := ⟨by decide +kernel, rfl⟩
theorem d_M_send_22 : am_D y_M_send.2.2.1 22 (.ireturn) 1 23 := ⟨by decide +kernel, rfl⟩
theorem d_M_send_23 : am_D y_M_send.2.2.1 23 (.aload_n 0) 1 24 := ⟨by decide +kernel, rfl⟩
theorem d_M_send_24 : am_D y_M_send.2.2.1 24 (.aload_n 0) 1 25 := ⟨by decide +kernel, rfl⟩
theorem d_M_send_25 : am_D y_M_send.2.2.1 25 (.getfield 20) 3 28 := ⟨by decide +kernel, rfl⟩
theorem d_M_send_28 : am_D y_M_send.2.2.1 28 (.iload_n 1) 1 29 := ⟨by decide +kernel, rfl⟩
theorem d_M_send_29 : am_D y_M_send.2.2.1 29 (.iaload) 1 30 := ⟨by decide +kernel, rfl⟩
theorem d_M_send_30 : am_D y_M_send.2.2.1 30 (.iconst 4) 1 31 := ⟨by decide +kernel, rfl⟩
theorem d_M_send_31 : am_D y_M_send.2.2.1 31 (.idiv) 1 32 := ⟨by decide +kernel, rfl⟩
theorem d_M_send_32 : am_D y_M_send.2.2.1 32 (.aload_n 0) 1 33 := ⟨by decide +kernel, rfl⟩
theorem d_M_send_33 : am_D y_M_send.2.2.1 33 (.getfield 20) 3 36 := ⟨by decide +kernel, rfl⟩
theorem d_M_send_36 : am_D y_M_send.2.2.1 36 (.iload_n 1) 1 37 := ⟨by decide +kernel, rfl⟩
theorem d_M_send_37 : am_D y_M_send.2.2.1 37 (.iaload) 1 38 := ⟨by decide +kernel, rfl⟩
theorem d_M_send_38 : am_D y_M_send.2.2.1 38 (.iconst 4) 1 39 := ⟨by decide +kernel, rfl⟩
theorem d_M_send_39 : am_D y_M_send.2.2.1 39 (.irem) 1 40 := ⟨by decide +kernel, rfl⟩
theorem d_M_send_40 : am_D y_M_send.2.2.1 40 (.iload_n 1) 1 41 := ⟨by decide +kernel, rfl⟩
theorem d_M_send_41 : am_D y_M_send.2.2.1 41 (.iload_n 2) 1 42 := ⟨by decide +kernel, rfl⟩
theorem d_M_send_42 : am_D y_M_send.2.2.1 42 (.iload_n 3) 1 43 := ⟨by decide +kernel, rfl⟩
theorem d_M_send_43 : am_D y_M_send.2.2.1 43 (.invokevirtual 180) 3 46 := ⟨by decide +kernel, rfl⟩
theorem d_M_send_46 : am_D y_M_send.2.2.1 46 (.iconst 1) 1 47 := ⟨by decide +kernel, rfl⟩
theorem d_M_send_47 : am_D y_M_send.2.2.1 47 (.ireturn) 1 48 := ⟨by decide +kernel, rfl⟩
theorem d_M_isHost_0 : am_D y_M_isHost.2.2.1 0 (.iload_n 1) 1 1 := ⟨by decide +kernel, rfl⟩
theorem d_M_isHost_1 : am_D y_M_isHost.2.2.1 1 (.ifCond .lt 15) 3 4 := ⟨by decide +kernel, rfl⟩
theorem d_M_isHost_4 : am_D y_M_isHost.2.2.1 4 (.iload_n 1) 1 5 := ⟨by decide +kernel, rfl⟩
theorem d_M_isHost_5 : am_D y_M_isHost.2.2.1 5 (.aload_n 0) 1 6 := ⟨by decide +kernel, rfl⟩
theorem d_M_isHost_6 : am_D y_M_isHost.2.2.1 6 (.getfield 137) 3 9 := ⟨by decide +kernel, rfl⟩
theorem d_M_isHost_9 : am_D y_M_isHost.2.2.1 9 (.if_icmp .ge 7) 3 12 := ⟨by decide +kernel, rfl⟩
theorem d_M_isHost_12 : am_D y_M_isHost.2.2.1 12 (.iconst 1) 1 13 := ⟨by decide +kernel, rfl⟩
theorem d_M_isHost_13 : am_D y_M_isHost.2.2.1 13 (.goto 4) 3 16 := ⟨by decide +kernel, rfl⟩
theorem d_M_isHost_16 : am_D y_M_isHost.2.2.1 16 (.iconst 0) 1 17 := ⟨by decide +kernel, rfl⟩
theorem d_M_isHost_17 : am_D y_M_isHost.2.2.1 17 (.ireturn) 1 18 := ⟨by decide +kernel, rfl⟩
theorem d_M_comesIn_0 : am_D y_M_comesIn.2.2.1 0 (.iconst (-1)) 1 1 := ⟨by decide +kernel, rfl⟩
theorem d_M_comesIn_1 : am_D y_M_comesIn.2.2.1 1 (.istore 6) 2 3 := ⟨by decide +kernel, rfl⟩
theorem d_M_comesIn_3 : am_D y_M_comesIn.2.2.1 3 (.iconst 4) 1 4 := ⟨by decide +kernel, rfl⟩
theorem d_M_comesIn_4 : am_D y_M_comesIn.2.2.1 4 (.iload_n 1) 1 5 := ⟨by decide +kernel, rfl⟩
theorem d_M_comesIn_5 : am_D y_M_comesIn.2.2.1 5 (.imul) 1 6 := ⟨by decide +kernel, rfl⟩
theorem d_M_comesIn_6 : am_D y_M_comesIn.2.2.1 6 (.istore 7) 2 8 := ⟨by decide +kernel, rfl⟩
theorem d_M_comesIn_8 : am_D y_M_comesIn.2.2.1 8 (.iload 7) 2 10 := ⟨by decide +kernel, rfl⟩
theorem d_M_comesIn_10 : am_D y_M_comesIn.2.2.1 10 (.iconst 4) 1 11 := ⟨by decide +kernel, rfl⟩
theorem d_M_comesIn_11 : am_D y_M_comesIn.2.2.1 11 (.iload_n 1) 1 12 := ⟨by decide +kernel, rfl⟩
theorem d_M_comesIn_12 : am_D y_M_comesIn.2.2.1 12 (.imul) 1 13 := ⟨by decide +kernel, rfl⟩
theorem d_M_comesIn_13 : am_D y_M_comesIn.2.2.1 13 (.aload_n 0) 1 14 := ⟨by decide +kernel, rfl⟩
theorem d_M_comesIn_14 : am_D y_M_comesIn.2.2.1 14 (.getfield 38) 3 17 := ⟨by decide +kernel, rfl⟩
theorem d_M_comesIn_17 : am_D y_M_comesIn.2.2.1 17 (.iload_n 1) 1 18 := ⟨by decide +kernel, rfl⟩
theorem d_M_comesIn_18 : am_D y_M_comesIn.2.2.1 18 (.iaload) 1 19 := ⟨by decide +kernel, rfl⟩
theorem d_M_comesIn_19 : am_D y_M_comesIn.2.2.1 19 (.iadd) 1 20 := ⟨by decide +kernel, rfl⟩
theorem d_M_comesIn_20 : am_D y_M_comesIn.2.2.1 20 (.if_icmp .ge 69) 3 23 := ⟨by decide +kernel, rfl⟩
theorem d_M_comesIn_23 : am_D y_M_comesIn.2.2.1 23 (.aload_n 0) 1 24 := ⟨by decide +kernel, rfl⟩
theorem d_M_comesIn_24 : am_D y_M_comesIn.2.2.1 24 (.getfield 44) 3 27 := ⟨by decide +kernel, rfl⟩
theorem d_M_comesIn_27 : am_D y_M_comesIn.2.2.1 27 (.iload 7) 2 29 := ⟨by decide +kernel, rfl⟩
theorem d_M_comesIn_29 : am_D y_M_comesIn.2.2.1 29 (.iaload) 1 30 := ⟨by decide +kernel, rfl⟩
theorem d_M_comesIn_30 : am_D y_M_comesIn.2.2.1 30 (.iload_n 2) 1 31 := ⟨by decide +kernel, rfl⟩
theorem d_M_comesIn_31 : am_D y_M_comesIn.2.2.1 31 (.iload_n 3) 1 32 := ⟨by decide +kernel, rfl⟩
theorem d_M_comesIn_32 : am_D y_M_comesIn.2.2.1 32 (.iload 4) 2 34 := ⟨by decide +kernel, rfl⟩
theorem d_M_comesIn_34 : am_D y_M_comesIn.2.2.1 34 (.invokestatic 158) 3 37 := ⟨by decide +kernel, rfl⟩
theorem d_M_comesIn_37 : am_D y_M_comesIn.2.2.1 37 (.ifCond .eq 29) 3 40 := ⟨by decide +kernel, rfl⟩
theorem d_M_comesIn_40 : am_D y_M_comesIn.2.2.1 40 (.iload 6) 2 42 := ⟨by decide +kernel, rfl⟩
theorem d_M_comesIn_42 : am_D y_M_comesIn.2.2.1 42 (.ifCond .lt 20) 3 45 := ⟨by decide +kernel, rfl⟩
theorem d_M_comesIn_45 : am_D y_M_comesIn.2.2.1 45 (.aload_n 0) 1 46 := ⟨by decide +kernel, rfl⟩
theorem d_M_comesIn_46 : am_D y_M_comesIn.2.2.1 46 (.getfield 41) 3 49 := ⟨by decide +kernel, rfl⟩
theorem d_M_comesIn_49 : am_D y_M_comesIn.2.2.1 49 (.iload 7) 2 51 := ⟨by decide +kernel, rfl⟩
theorem d_M_comesIn_51 : am_D y_M_comesIn.2.2.1 51 (.iaload) 1 52 := ⟨by decide +kernel, rfl⟩
theorem d_M_comesIn_52 : am_D y_M_comesIn.2.2.1 52 (.aload_n 0) 1 53 := ⟨by decide +kernel, rfl⟩
theorem d_M_comesIn_53 : am_D y_M_comesIn.2.2.1 53 (.getfield 41) 3 56 := ⟨by decide +kernel, rfl⟩
theorem d_M_comesIn_56 : am_D y_M_comesIn.2.2.1 56 (.iload 6) 2 58 := ⟨by decide +kernel, rfl⟩
theorem d_M_comesIn_58 : am_D y_M_comesIn.2.2.1 58 (.iaload) 1 59 := ⟨by decide +kernel, rfl⟩
theorem d_M_comesIn_59 : am_D y_M_comesIn.2.2.1 59 (.if_icmp .le 7) 3 62 := ⟨by decide +kernel, rfl⟩
theorem d_M_comesIn_62 : am_D y_M_comesIn.2.2.1 62 (.iconst 1) 1 63 := ⟨by decide +kernel, rfl⟩
theorem d_M_comesIn_63 : am_D y_M_comesIn.2.2.1 63 (.goto 4) 3 66 := ⟨by decide +kernel, rfl⟩
theorem d_M_comesIn_66 : am_D y_M_comesIn.2.2.1 66 (.iconst 0) 1 67 := ⟨by decide +kernel, rfl⟩
theorem d_M_comesIn_67 : am_D y_M_comesIn.2.2.1 67 (.istore 8) 2 69 := ⟨by decide +kernel, rfl⟩
theorem d_M_comesIn_69 : am_D y_M_comesIn.2.2.1 69 (.iload 8) 2 71 := ⟨by decide +kernel, rfl⟩
theorem d_M_comesIn_71 : am_D y_M_comesIn.2.2.1 71 (.ifCond .eq 8) 3 74 := ⟨by decide +kernel, rfl⟩
theorem d_M_comesIn_74 : am_D y_M_comesIn.2.2.1 74 (.iload 7) 2 76 := ⟨by decide +kernel, rfl⟩
theorem d_M_comesIn_76 : am_D y_M_comesIn.2.2.1 76 (.goto 5) 3 79 := ⟨by decide +kernel, rfl⟩
theorem d_M_comesIn_79 : am_D y_M_comesIn.2.2.1 79 (.iload 6) 2 81 := ⟨by decide +kernel, rfl⟩
theorem d_M_comesIn_81 : am_D y_M_comesIn.2.2.1 81 (.istore 6) 2 83 := ⟨by decide +kernel, rfl⟩
theorem d_M_comesIn_83 : am_D y_M_comesIn.2.2.1 83 (.iinc 7 1) 3 86 := ⟨by decide +kernel, rfl⟩
theorem d_M_comesIn_86 : am_D y_M_comesIn.2.2.1 86 (.goto (-78)) 3 89 := ⟨by decide +kernel, rfl⟩
theorem d_M_comesIn_89 : am_D y_M_comesIn.2.2.1 89 (.iconst 5) 1 90 := ⟨by decide +kernel, rfl⟩
theorem d_M_comesIn_90 : am_D y_M_comesIn.2.2.1 90 (.istore 7) 2 92 := ⟨by decide +kernel, rfl⟩
theorem d_M_comesIn_92 : am_D y_M_comesIn.2.2.1 92 (.iload 6) 2 94 := ⟨by decide +kernel, rfl⟩
theorem d_M_comesIn_94 : am_D y_M_comesIn.2.2.1 94 (.ifCond .lt 23) 3 97 := ⟨by decide +kernel, rfl⟩
theorem d_M_comesIn_97 : am_D y_M_comesIn.2.2.1 97 (.aload_n 0) 1 98 := ⟨by decide +kernel, rfl⟩
theorem d_M_comesIn_98 : am_D y_M_comesIn.2.2.1 98 (.getfield 50) 3 101 := ⟨by decide +kernel, rfl⟩
theorem d_M_comesIn_101 : am_D y_M_comesIn.2.2.1 101 (.iload 6) 2 103 := ⟨by decide +kernel, rfl⟩
theorem d_M_comesIn_103 : am_D y_M_comesIn.2.2.1 103 (.dup2) 1 104 := ⟨by decide +kernel, rfl⟩
theorem d_M_comesIn_104 : am_D y_M_comesIn.2.2.1 104 (.iaload) 1 105 := ⟨by decide +kernel, rfl⟩
theorem d_M_comesIn_105 : am_D y_M_comesIn.2.2.1 105 (.iconst 1) 1 106 := ⟨by decide +kernel, rfl⟩
theorem d_M_comesIn_106 : am_D y_M_comesIn.2.2.1 106 (.iadd) 1 107 := ⟨by decide +kernel, rfl⟩
theorem d_M_comesIn_107 : am_D y_M_comesIn.2.2.1 107 (.iastore) 1 108 := ⟨by decide +kernel, rfl⟩
theorem d_M_comesIn_108 : am_D y_M_comesIn.2.2.1 108 (.aload_n 0) 1 109 := ⟨by decide +kernel, rfl⟩
theorem d_M_comesIn_109 : am_D y_M_comesIn.2.2.1 109 (.getfield 47) 3 112 := ⟨by decide +kernel, rfl⟩
theorem d_M_comesIn_112 : am_D y_M_comesIn.2.2.1 112 (.iload 6) 2 114 := ⟨by decide +kernel, rfl⟩
theorem d_M_comesIn_114 : am_D y_M_comesIn.2.2.1 114 (.iaload) 1 115 := ⟨by decide +kernel, rfl⟩
theorem d_M_comesIn_115 : am_D y_M_comesIn.2.2.1 115 (.istore 7) 2 117 := ⟨by decide +kernel, rfl⟩
theorem d_M_comesIn_117 : am_D y_M_comesIn.2.2.1 117 (.iload 7) 2 119 := ⟨by decide +kernel, rfl⟩
theorem d_M_comesIn_119 : am_D y_M_comesIn.2.2.1 119 (.iconst 4) 1 120 := ⟨by decide +kernel, rfl⟩
theorem d_M_comesIn_120 : am_D y_M_comesIn.2.2.1 120 (.if_icmp .ge 21) 3 123 := ⟨by decide +kernel, rfl⟩
theorem d_M_comesIn_123 : am_D y_M_comesIn.2.2.1 123 (.aload_n 0) 1 124 := ⟨by decide +kernel, rfl⟩
theorem d_M_comesIn_124 : am_D y_M_comesIn.2.2.1 124 (.iconst 4) 1 125 := ⟨by decide +kernel, rfl⟩
theorem d_M_comesIn_125 : am_D y_M_comesIn.2.2.1 125 (.iload_n 1) 1 126 := ⟨by decide +kernel, rfl⟩
theorem d_M_comesIn_126 : am_D y_M_comesIn.2.2.1 126 (.imul) 1 127 := ⟨by decide +kernel, rfl⟩
theorem d_M_comesIn_127 : am_D y_M_comesIn.2.2.1 127 (.iload 7) 2 129 := ⟨by decide +kernel, rfl⟩
theorem d_M_comesIn_129 : am_D y_M_comesIn.2.2.1 129 (.iadd) 1 130 := ⟨by decide +kernel, rfl⟩
theorem d_M_comesIn_130 : am_D y_M_comesIn.2.2.1 130 (.iload_n 3) 1 131 := ⟨by decide +kernel, rfl⟩
theorem d_M_comesIn_131 : am_D y_M_comesIn.2.2.1 131 (.iload 4) 2 133 := ⟨by decide +kernel, rfl⟩
theorem d_M_comesIn_133 : am_D y_M_comesIn.2.2.1 133 (.iload 5) 2 135 := ⟨by decide +kernel, rfl⟩
theorem d_M_comesIn_135 : am_D y_M_comesIn.2.2.1 135 (.invokevirtual 162) 3 138 := ⟨by decide +kernel, rfl⟩
theorem d_M_comesIn_138 : am_D y_M_comesIn.2.2.1 138 (.goto 42) 3 141 := ⟨by decide +kernel, rfl⟩
theorem d_M_comesIn_141 : am_D y_M_comesIn.2.2.1 141 (.iload 7) 2 143 := ⟨by decide +kernel, rfl⟩
theorem d_M_comesIn_143 : am_D y_M_comesIn.2.2.1 143 (.iconst 5) 1 144 := ⟨by decide +kernel, rfl⟩
theorem d_M_comesIn_144 : am_D y_M_comesIn.2.2.1 144 (.if_icmp .ne 17) 3 147 := ⟨by decide +kernel, rfl⟩
theorem d_M_comesIn_147 : am_D y_M_comesIn.2.2.1 147 (.aload_n 0) 1 148 := ⟨by decide +kernel, rfl⟩
theorem d_M_comesIn_148 : am_D y_M_comesIn.2.2.1 148 (.iload_n 1) 1 149 := ⟨by decide +kernel, rfl⟩
theorem d_M_comesIn_149 : am_D y_M_comesIn.2.2.1 149 (.iload_n 2) 1 150 := ⟨by decide +kernel, rfl⟩
theorem d_M_comesIn_150 : am_D y_M_comesIn.2.2.1 150 (.iload_n 3) 1 151 := ⟨by decide +kernel, rfl⟩
theorem d_M_comesIn_151 : am_D y_M_comesIn.2.2.1 151 (.iload 4) 2 153 := ⟨by decide +kernel, rfl⟩
theorem d_M_comesIn_153 : am_D y_M_comesIn.2.2.1 153 (.iload 5) 2 155 := ⟨by decide +kernel, rfl⟩
theorem d_M_comesIn_155 : am_D y_M_comesIn.2.2.1 155 (.invokevirtual 166) 3 158 := ⟨by decide +kernel, rfl⟩
theorem d_M_comesIn_158 : am_D y_M_comesIn.2.2.1 158 (.goto 22) 3 161 := ⟨by decide +kernel, rfl⟩
theorem d_M_comesIn_161 : am_D y_M_comesIn.2.2.1 161 (.iload 7) 2 163 := ⟨by decide +kernel, rfl⟩
theorem d_M_comesIn_163 : am_D y_M_comesIn.2.2.1 163 (.bipush 6) 2 165 := ⟨by decide +kernel, rfl⟩
theorem d_M_comesIn_165 : am_D y_M_comesIn.2.2.1 165 (.if_icmp .ne 15) 3 168 := ⟨by decide +kernel, rfl⟩
theorem d_M_comesIn_168 : am_D y_M_comesIn.2.2.1 168 (.aload_n 0) 1 169 := ⟨by decide +kernel, rfl⟩
theorem d_M_comesIn_169 : am_D y_M_comesIn.2.2.1 169 (.iload_n 1) 1 170 := ⟨by decide +kernel, rfl⟩
theorem d_M_comesIn_170 : am_D y_M_comesIn.2.2.1 170 (.iconst 0) 1 171 := ⟨by decide +kernel, rfl⟩
theorem d_M_comesIn_171 : am_D y_M_comesIn.2.2.1 171 (.iload_n 2) 1 172 := ⟨by decide +kernel, rfl⟩
theorem d_M_comesIn_172 : am_D y_M_comesIn.2.2.1 172 (.iload_n 3) 1 173 := ⟨by decide +kernel, rfl⟩
theorem d_M_comesIn_173 : am_D y_M_comesIn.2.2.1 173 (.iload 4) 2 175 := ⟨by decide +kernel, rfl⟩
theorem d_M_comesIn_175 : am_D y_M_comesIn.2.2.1 175 (.iload 5) 2 177 := ⟨by decide +kernel, rfl⟩
theorem d_M_comesIn_177 : am_D y_M_comesIn.2.2.1 177 (.invokevirtual 148) 3 180 := ⟨by decide +kernel, rfl⟩
theorem d_M_comesIn_180 : am_D y_M_comesIn.2.2.1 180 (.return_) 1 181 := ⟨by decide +kernel, rfl⟩
theorem d_M_matches_0 : am_D y_M_matches.2.2.1 0 (.iload_n 0) 1 1 := ⟨by decide +kernel, rfl⟩
theorem d_M_matches_1 : am_D y_M_matches.2.2.1 1 (.bipush 7) 2 3 := ⟨by decide +kernel, rfl⟩
theorem d_M_matches_3 : am_D y_M_matches.2.2.1 3 (.iand) 1 4 := ⟨by decide +kernel, rfl⟩
theorem d_M_matches_4 : am_D y_M_matches.2.2.1 4 (.ifCond .eq 13) 3 7 := ⟨by decide +kernel, rfl⟩
theorem d_M_matches_7 : am_D y_M_matches.2.2.1 7 (.iload_n 0) 1 8 := ⟨by decide +kernel, rfl⟩
theorem d_M_matches_8 : am_D y_M_matches.2.2.1 8 (.bipush 7) 2 10 := ⟨by decide +kernel, rfl⟩
theorem d_M_matches_10 : am_D y_M_matches.2.2.1 10 (.iand) 1 11 := ⟨by decide +kernel, rfl⟩
theorem d_M_matches_11 : am_D y_M_matches.2.2.1 11 (.iload_n 1) 1 12 := ⟨by decide +kernel, rfl⟩
theorem d_M_matches_12 : am_D y_M_matches.2.2.1 12 (.iconst 1) 1 13 := ⟨by decide +kernel, rfl⟩
theorem d_M_matches_13 : am_D y_M_matches.2.2.1 13 (.iadd) 1 14 := ⟨by decide +kernel, rfl⟩
theorem d_M_matches_14 : am_D y_M_matches.2.2.1 14 (.if_icmp .ne 45) 3 17 := ⟨by decide +kernel, rfl⟩
theorem d_M_matches_17 : am_D y_M_matches.2.2.1 17 (.iload_n 0) 1 18 := ⟨by decide +kernel, rfl⟩
theorem d_M_matches_18 : am_D y_M_matches.2.2.1 18 (.iconst 3) 1 19 := ⟨by decide +kernel, rfl⟩
theorem d_M_matches_19 : am_D y_M_matches.2.2.1 19 (.ishr) 1 20 := ⟨by decide +kernel, rfl⟩
theorem d_M_matches_20 : am_D y_M_matches.2.2.1 20 (.bipush 7) 2 22 := ⟨by decide +kernel, rfl⟩
theorem d_M_matches_22 : am_D y_M_matches.2.2.1 22 (.iand) 1 23 := ⟨by decide +kernel, rfl⟩
theorem d_M_matches_23 : am_D y_M_matches.2.2.1 23 (.ifCond .eq 15) 3 26 := ⟨by decide +kernel, rfl⟩
theorem d_M_matches_26 : am_D y_M_matches.2.2.1 26 (.iload_n 0) 1 27 := ⟨by decide +kernel, rfl⟩
theorem d_M_matches_27 : am_D y_M_matches.2.2.1 27 (.iconst 3) 1 28 := ⟨by decide +kernel, rfl⟩
theorem d_M_matches_28 : am_D y_M_matches.2.2.1 28 (.ishr) 1 29 := ⟨by decide +kernel, rfl⟩
theorem d_M_matches_29 : am_D y_M_matches.2.2.1 29 (.bipush 7) 2 31 := ⟨by decide +kernel, rfl⟩
theorem d_M_matches_31 : am_D y_M_matches.2.2.1 31 (.iand) 1 32 := ⟨by decide +kernel, rfl⟩
theorem d_M_matches_32 : am_D y_M_matches.2.2.1 32 (.iload_n 2) 1 33 := ⟨by decide +kernel, rfl⟩
theorem d_M_matches_33 : am_D y_M_matches.2.2.1 33 (.iconst 1) 1 34 := ⟨by decide +kernel, rfl⟩
theorem d_M_matches_34 : am_D y_M_matches.2.2.1 34 (.iadd) 1 35 := ⟨by decide +kernel, rfl⟩
theorem d_M_matches_35 : am_D y_M_matches.2.2.1 35 (.if_icmp .ne 24) 3 38 := ⟨by decide +kernel, rfl⟩
theorem d_M_matches_38 : am_D y_M_matches.2.2.1 38 (.iload_n 0) 1 39 := ⟨by decide +kernel, rfl⟩
theorem d_M_matches_39 : am_D y_M_matches.2.2.1 39 (.bipush 6) 2 41 := ⟨by decide +kernel, rfl⟩
theorem d_M_matches_41 : am_D y_M_matches.2.2.1 41 (.ishr) 1 42 := ⟨by decide +kernel, rfl⟩
theorem d_M_matches_42 : am_D y_M_matches.2.2.1 42 (.ifCond .eq 13) 3 45 := ⟨by decide +kernel, rfl⟩
theorem d_M_matches_45 : am_D y_M_matches.2.2.1 45 (.iload_n 0) 1 46 := ⟨by decide +kernel, rfl⟩
theorem d_M_matches_46 : am_D y_M_matches.2.2.1 46 (.bipush 6) 2 48 := ⟨by decide +kernel, rfl⟩
theorem d_M_matches_48 : am_D y_M_matches.2.2.1 48 (.ishr) 1 49 := ⟨by decide +kernel, rfl⟩
theorem d_M_matches_49 : am_D y_M_matches.2.2.1 49 (.iload_n 3) 1 50 := ⟨by decide +kernel, rfl⟩
theorem d_M_matches_50 : am_D y_M_matches.2.2.1 50 (.iconst 1) 1 51 := ⟨by decide +kernel, rfl⟩
theorem d_M_matches_51 : am_D y_M_matches.2.2.1 51 (.iadd) 1 52 := ⟨by decide +kernel, rfl⟩
theorem d_M_matches_52 : am_D y_M_matches.2.2.1 52 (.if_icmp .ne 7) 3 55 := ⟨by decide +kernel, rfl⟩
theorem d_M_matches_55 : am_D y_M_matches.2.2.1 55 (.iconst 1) 1 56 := ⟨by decide +kernel, rfl⟩
theorem d_M_matches_56 : am_D y_M_matches.2.2.1 56 (.goto 4) 3 59 := ⟨by decide +kernel, rfl⟩
theorem d_M_matches_59 : am_D y_M_matches.2.2.1 59 (.iconst 0) 1 60 := ⟨by decide +kernel, rfl⟩
theorem d_M_matches_60 : am_D y_M_matches.2.2.1 60 (.ireturn) 1 61 := ⟨by decide +kernel, rfl⟩
theorem d_M_out_0 : am_D y_M_out.2.2.1 0 (.aload_n 0) 1 1 := ⟨by decide +kernel, rfl⟩
theorem d_M_out_1 : am_D y_M_out.2.2.1 1 (.getfield 7) 3 4 := ⟨by decide +kernel, rfl⟩
theorem d_M_out_4 : am_D y_M_out.2.2.1 4 (.iload_n 1) 1 5 := ⟨by decide +kernel, rfl⟩
theorem d_M_out_5 : am_D y_M_out.2.2.1 5 (.iaload) 1 6 := ⟨by decide +kernel, rfl⟩
theorem d_M_out_6 : am_D y_M_out.2.2.1 6 (.iconst 1) 1 7 := ⟨by decide +kernel, rfl⟩
theorem d_M_out_7 : am_D y_M_out.2.2.1 7 (.if_icmp .ne 42) 3 10 := ⟨by decide +kernel, rfl⟩
theorem d_M_out_10 : am_D y_M_out.2.2.1 10 (.iload_n 2) 1 11 := ⟨by decide +kernel, rfl⟩
theorem d_M_out_11 : am_D y_M_out.2.2.1 11 (.ifCond .lt 38) 3 14 := ⟨by decide +kernel, rfl⟩
theorem d_M_out_14 : am_D y_M_out.2.2.1 14 (.aload_n 0) 1 15 := ⟨by decide +kernel, rfl⟩
theorem d_M_out_15 : am_D y_M_out.2.2.1 15 (.getfield 13) 3 18 := ⟨by decide +kernel, rfl⟩
theorem d_M_out_18 : am_D y_M_out.2.2.1 18 (.iload_n 1) 1 19 := ⟨by decide +kernel, rfl⟩
theorem d_M_out_19 : am_D y_M_out.2.2.1 19 (.iaload) 1 20 := ⟨by decide +kernel, rfl⟩
theorem d_M_out_20 : am_D y_M_out.2.2.1 20 (.iload_n 3) 1 21 := ⟨by decide +kernel, rfl⟩
theorem d_M_out_21 : am_D y_M_out.2.2.1 21 (.if_icmp .ne 28) 3 24 := ⟨by decide +kernel, rfl⟩
theorem d_M_out_24 : am_D y_M_out.2.2.1 24 (.aload_n 0) 1 25 := ⟨by decide +kernel, rfl⟩
theorem d_M_out_25 : am_D y_M_out.2.2.1 25 (.getfield 23) 3 28 := ⟨by decide +kernel, rfl⟩
theorem d_M_out_28 : am_D y_M_out.2.2.1 28 (.iload_n 3) 1 29 := ⟨by decide +kernel, rfl⟩
theorem d_M_out_29 : am_D y_M_out.2.2.1 29 (.dup2) 1 30 := ⟨by decide +kernel, rfl⟩
theorem d_M_out_30 : am_D y_M_out.2.2.1 30 (.iaload) 1 31 := ⟨by decide +kernel, rfl⟩
theorem d_M_out_31 : am_D y_M_out.2.2.1 31 (.iconst 1) 1 32 := ⟨by decide +kernel, rfl⟩
theorem d_M_out_32 : am_D y_M_out.2.2.1 32 (.iadd) 1 33 := ⟨by decide +kernel, rfl⟩
theorem d_M_out_33 : am_D y_M_out.2.2.1 33 (.iastore) 1 34 := ⟨by decide +kernel, rfl⟩
theorem d_M_out_34 : am_D y_M_out.2.2.1 34 (.aload_n 0) 1 35 := ⟨by decide +kernel, rfl⟩
theorem d_M_out_35 : am_D y_M_out.2.2.1 35 (.getfield 26) 3 38 := ⟨by decide +kernel, rfl⟩
theorem d_M_out_38 : am_D y_M_out.2.2.1 38 (.iload_n 3) 1 39 := ⟨by decide +kernel, rfl⟩
theorem d_M_out_39 : am_D y_M_out.2.2.1 39 (.iload 4) 2 41 := ⟨by decide +kernel, rfl⟩
theorem d_M_out_41 : am_D y_M_out.2.2.1 41 (.iastore) 1 42 := ⟨by decide +kernel, rfl⟩
theorem d_M_out_42 : am_D y_M_out.2.2.1 42 (.aload_n 0) 1 43 := ⟨by decide +kernel, rfl⟩
theorem d_M_out_43 : am_D y_M_out.2.2.1 43 (.getfield 29) 3 46 := ⟨by decide +kernel, rfl⟩
theorem d_M_out_46 : am_D y_M_out.2.2.1 46 (.iload_n 3) 1 47 := ⟨by decide +kernel, rfl⟩
theorem d_M_out_47 : am_D y_M_out.2.2.1 47 (.iload_n 2) 1 48 := ⟨by decide +kernel, rfl⟩
theorem d_M_out_48 : am_D y_M_out.2.2.1 48 (.iastore) 1 49 := ⟨by decide +kernel, rfl⟩
theorem d_M_out_49 : am_D y_M_out.2.2.1 49 (.aload_n 0) 1 50 := ⟨by decide +kernel, rfl⟩
theorem d_M_out_50 : am_D y_M_out.2.2.1 50 (.getfield 7) 3 53 := ⟨by decide +kernel, rfl⟩
theorem d_M_out_53 : am_D y_M_out.2.2.1 53 (.iload_n 1) 1 54 := ⟨by decide +kernel, rfl⟩
theorem d_M_out_54 : am_D y_M_out.2.2.1 54 (.iaload) 1 55 := ⟨by decide +kernel, rfl⟩
theorem d_M_out_55 : am_D y_M_out.2.2.1 55 (.iconst 2) 1 56 := ⟨by decide +kernel, rfl⟩
theorem d_M_out_56 : am_D y_M_out.2.2.1 56 (.if_icmp .ne 77) 3 59 := ⟨by decide +kernel, rfl⟩
theorem d_M_out_59 : am_D y_M_out.2.2.1 59 (.aload_n 0) 1 60 := ⟨by decide +kernel, rfl⟩
theorem d_M_out_60 : am_D y_M_out.2.2.1 60 (.getfield 16) 3 63 := ⟨by decide +kernel, rfl⟩
theorem d_M_out_63 : am_D y_M_out.2.2.1 63 (.iload_n 1) 1 64 := ⟨by decide +kernel, rfl⟩
theorem d_M_out_64 : am_D y_M_out.2.2.1 64 (.baload) 1 65 := ⟨by decide +kernel, rfl⟩
theorem d_M_out_65 : am_D y_M_out.2.2.1 65 (.ifCond .eq 68) 3 68 := ⟨by decide +kernel, rfl⟩
theorem d_M_out_68 : am_D y_M_out.2.2.1 68 (.aload_n 0) 1 69 := ⟨by decide +kernel, rfl⟩
theorem d_M_out_69 : am_D y_M_out.2.2.1 69 (.getfield 32) 3 72 := ⟨by decide +kernel, rfl⟩
theorem d_M_out_72 : am_D y_M_out.2.2.1 72 (.iload_n 1) 1 73 := ⟨by decide +kernel, rfl⟩
theorem d_M_out_73 : am_D y_M_out.2.2.1 73 (.iaload) 1 74 := ⟨by decide +kernel, rfl⟩
theorem d_M_out_74 : am_D y_M_out.2.2.1 74 (.bipush 6) 2 76 := ⟨by decide +kernel, rfl⟩
theorem d_M_out_76 : am_D y_M_out.2.2.1 76 (.if_icmp .ge 57) 3 79 := ⟨by decide +kernel, rfl⟩
theorem d_M_out_79 : am_D y_M_out.2.2.1 79 (.bipush 18) 2 81 := ⟨by decide +kernel, rfl⟩
theorem d_M_out_81 : am_D y_M_out.2.2.1 81 (.iload_n 1) 1 82 := ⟨by decide +kernel, rfl⟩
theorem d_M_out_82 : am_D y_M_out.2.2.1 82 (.imul) 1 83 := ⟨by decide +kernel, rfl⟩
theorem d_M_out_83 : am_D y_M_out.2.2.1 83 (.iconst 3) 1 84 := ⟨by decide +kernel, rfl⟩
theorem d_M_out_84 : am_D y_M_out.2.2.1 84 (.aload_n 0) 1 85 := ⟨by decide +kernel, rfl⟩
theorem d_M_out_85 : am_D y_M_out.2.2.1 85 (.getfield 32) 3 88 := ⟨by decide +kernel, rfl⟩
theorem d_M_out_88 : am_D y_M_out.2.2.1 88 (.iload_n 1) 1 89 := ⟨by decide +kernel, rfl⟩
theorem d_M_out_89 : am_D y_M_out.2.2.1 89 (.iaload) 1 90 := ⟨by decide +kernel, rfl⟩
theorem d_M_out_90 : am_D y_M_out.2.2.1 90 (.imul) 1 91 := ⟨by decide +kernel, rfl⟩
theorem d_M_out_91 : am_D y_M_out.2.2.1 91 (.iadd) 1 92 := ⟨by decide +kernel, rfl⟩
theorem d_M_out_92 : am_D y_M_out.2.2.1 92 (.istore 5) 2 94 := ⟨by decide +kernel, rfl⟩
theorem d_M_out_94 : am_D y_M_out.2.2.1 94 (.aload_n 0) 1 95 := ⟨by decide +kernel, rfl⟩
theorem d_M_out_95 : am_D y_M_out.2.2.1 95 (.getfield 35) 3 98 := ⟨by decide +kernel, rfl⟩
theorem d_M_out_98 : am_D y_M_out.2.2.1 98 (.iload 5) 2 100 := ⟨by decide +kernel, rfl⟩
theorem d_M_out_100 : am_D y_M_out.2.2.1 100 (.iload_n 2) 1 101 := ⟨by decide +kernel, rfl⟩
theorem d_M_out_101 : am_D y_M_out.2.2.1 101 (.iastore) 1 102 := ⟨by decide +kernel, rfl⟩
theorem d_M_out_102 : am_D y_M_out.2.2.1 102 (.aload_n 0) 1 103 := ⟨by decide +kernel, rfl⟩
theorem d_M_out_103 : am_D y_M_out.2.2.1 103 (.getfield 35) 3 106 := ⟨by decide +kernel, rfl⟩
theorem d_M_out_106 : am_D y_M_out.2.2.1 106 (.iload 5) 2 108 := ⟨by decide +kernel, rfl⟩
theorem d_M_out_108 : am_D y_M_out.2.2.1 108 (.iconst 1) 1 109 := ⟨by decide +kernel, rfl⟩
theorem d_M_out_109 : am_D y_M_out.2.2.1 109 (.iadd) 1 110 := ⟨by decide +kernel, rfl⟩
theorem d_M_out_110 : am_D y_M_out.2.2.1 110 (.iload_n 3) 1 111 := ⟨by decide +kernel, rfl⟩
theorem d_M_out_111 : am_D y_M_out.2.2.1 111 (.iastore) 1 112 := ⟨by decide +kernel, rfl⟩
theorem d_M_out_112 : am_D y_M_out.2.2.1 112 (.aload_n 0) 1 113 := ⟨by decide +kernel, rfl⟩
theorem d_M_out_113 : am_D y_M_out.2.2.1 113 (.getfield 35) 3 116 := ⟨by decide +kernel, rfl⟩
theorem d_M_out_116 : am_D y_M_out.2.2.1 116 (.iload 5) 2 118 := ⟨by decide +kernel, rfl⟩
theorem d_M_out_118 : am_D y_M_out.2.2.1 118 (.iconst 2) 1 119 := ⟨by decide +kernel, rfl⟩
theorem d_M_out_119 : am_D y_M_out.2.2.1 119 (.iadd) 1 120 := ⟨by decide +kernel, rfl⟩
theorem d_M_out_120 : am_D y_M_out.2.2.1 120 (.iload 4) 2 122 := ⟨by decide +kernel, rfl⟩
theorem d_M_out_122 : am_D y_M_out.2.2.1 122 (.iastore) 1 123 := ⟨by decide +kernel, rfl⟩
theorem d_M_out_123 : am_D y_M_out.2.2.1 123 (.aload_n 0) 1 124 := ⟨by decide +kernel, rfl⟩
theorem d_M_out_124 : am_D y_M_out.2.2.1 124 (.getfield 32) 3 127 := ⟨by decide +kernel, rfl⟩
theorem d_M_out_127 : am_D y_M_out.2.2.1 127 (.iload_n 1) 1 128 := ⟨by decide +kernel, rfl⟩
theorem d_M_out_128 : am_D y_M_out.2.2.1 128 (.dup2) 1 129 := ⟨by decide +kernel, rfl⟩
theorem d_M_out_129 : am_D y_M_out.2.2.1 129 (.iaload) 1 130 := ⟨by decide +kernel, rfl⟩
theorem d_M_out_130 : am_D y_M_out.2.2.1 130 (.iconst 1) 1 131 := ⟨by decide +kernel, rfl⟩
theorem d_M_out_131 : am_D y_M_out.2.2.1 131 (.iadd) 1 132 := ⟨by decide +kernel, rfl⟩
theorem d_M_out_132 : am_D y_M_out.2.2.1 132 (.iastore) 1 133 := ⟨by decide +kernel, rfl⟩
theorem d_M_out_133 : am_D y_M_out.2.2.1 133 (.return_) 1 134 := ⟨by decide +kernel, rfl⟩
theorem d_M_toRules_0 : am_D y_M_toRules.2.2.1 0 (.aload_n 0) 1 1 := ⟨by decide +kernel, rfl⟩
theorem d_M_toRules_1 : am_D y_M_toRules.2.2.1 1 (.iload_n 1) 1 2 := ⟨by decide +kernel, rfl⟩
theorem d_M_toRules_2 : am_D y_M_toRules.2.2.1 2 (.bipush 6) 2 4 := ⟨by decide +kernel, rfl⟩
theorem d_M_toRules_4 : am_D y_M_toRules.2.2.1 4 (.iload_n 3) 1 5 := ⟨by decide +kernel, rfl⟩
theorem d_M_toRules_5 : am_D y_M_toRules.2.2.1 5 (.imul) 1 6 := ⟨by decide +kernel, rfl⟩
theorem d_M_toRules_6 : am_D y_M_toRules.2.2.1 6 (.iload 4) 2 8 := ⟨by decide +kernel, rfl⟩
theorem d_M_toRules_8 : am_D y_M_toRules.2.2.1 8 (.iadd) 1 9 := ⟨by decide +kernel, rfl⟩
theorem d_M_toRules_9 : am_D y_M_toRules.2.2.1 9 (.invokevirtual 170) 3 12 := ⟨by decide +kernel, rfl⟩
theorem d_M_toRules_12 : am_D y_M_toRules.2.2.1 12 (.istore 6) 2 14 := ⟨by decide +kernel, rfl⟩
theorem d_M_toRules_14 : am_D y_M_toRules.2.2.1 14 (.iload 6) 2 16 := ⟨by decide +kernel, rfl⟩
theorem d_M_toRules_16 : am_D y_M_toRules.2.2.1 16 (.ifCond .ge 16) 3 19 := ⟨by decide +kernel, rfl⟩
theorem d_M_toRules_19 : am_D y_M_toRules.2.2.1 19 (.aload_n 0) 1 20 := ⟨by decide +kernel, rfl⟩
theorem d_M_toRules_20 : am_D y_M_toRules.2.2.1 20 (.iload_n 1) 1 21 := ⟨by decide +kernel, rfl⟩
theorem d_M_toRules_21 : am_D y_M_toRules.2.2.1 21 (.iconst 0) 1 22 := ⟨by decide +kernel, rfl⟩
theorem d_M_toRules_22 : am_D y_M_toRules.2.2.1 22 (.iload_n 2) 1 23 := ⟨by decide +kernel, rfl⟩
theorem d_M_toRules_23 : am_D y_M_toRules.2.2.1 23 (.iload_n 3) 1 24 := ⟨by decide +kernel, rfl⟩
theorem d_M_toRules_24 : am_D y_M_toRules.2.2.1 24 (.iload 4) 2 26 := ⟨by decide +kernel, rfl⟩
theorem d_M_toRules_26 : am_D y_M_toRules.2.2.1 26 (.iload 5) 2 28 := ⟨by decide +kernel, rfl⟩
theorem d_M_toRules_28 : am_D y_M_toRules.2.2.1 28 (.invokevirtual 148) 3 31 := ⟨by decide +kernel, rfl⟩
theorem d_M_toRules_31 : am_D y_M_toRules.2.2.1 31 (.return_) 1 32 := ⟨by decide +kernel, rfl⟩
theorem d_M_toRules_32 : am_D y_M_toRules.2.2.1 32 (.aload_n 0) 1 33 := ⟨by decide +kernel, rfl⟩
theorem d_M_toRules_33 : am_D y_M_toRules.2.2.1 33 (.getfield 62) 3 36 := ⟨by decide +kernel, rfl⟩
theorem d_M_toRules_36 : am_D y_M_toRules.2.2.1 36 (.iload 6) 2 38 := ⟨by decide +kernel, rfl⟩
theorem d_M_toRules_38 : am_D y_M_toRules.2.2.1 38 (.dup2) 1 39 := ⟨by decide +kernel, rfl⟩
theorem d_M_toRules_39 : am_D y_M_toRules.2.2.1 39 (.iaload) 1 40 := ⟨by decide +kernel, rfl⟩
theorem d_M_toRules_40 : am_D y_M_toRules.2.2.1 40 (.iconst 1) 1 41 := ⟨by decide +kernel, rfl⟩
theorem d_M_toRules_41 : am_D y_M_toRules.2.2.1 41 (.iadd) 1 42 := ⟨by decide +kernel, rfl⟩
theorem d_M_toRules_42 : am_D y_M_toRules.2.2.1 42 (.iastore) 1 43 := ⟨by decide +kernel, rfl⟩
theorem d_M_toRules_43 : am_D y_M_toRules.2.2.1 43 (.aload_n 0) 1 44 := ⟨by decide +kernel, rfl⟩
theorem d_M_toRules_44 : am_D y_M_toRules.2.2.1 44 (.getfield 68) 3 47 := ⟨by decide +kernel, rfl⟩
theorem d_M_toRules_47 : am_D y_M_toRules.2.2.1 47 (.iload 6) 2 49 := ⟨by decide +kernel, rfl⟩
theorem d_M_toRules_49 : am_D y_M_toRules.2.2.1 49 (.aload_n 0) 1 50 := ⟨by decide +kernel, rfl⟩
theorem d_M_toRules_50 : am_D y_M_toRules.2.2.1 50 (.getfield 174) 3 53 := ⟨by decide +kernel, rfl⟩
theorem d_M_toRules_53 : am_D y_M_toRules.2.2.1 53 (.iastore) 1 54 := ⟨by decide +kernel, rfl⟩
theorem d_M_toRules_54 : am_D y_M_toRules.2.2.1 54 (.aload_n 0) 1 55 := ⟨by decide +kernel, rfl⟩
theorem d_M_toRules_55 : am_D y_M_toRules.2.2.1 55 (.iconst 4) 1 56 := ⟨by decide +kernel, rfl⟩
theorem d_M_toRules_56 : am_D y_M_toRules.2.2.1 56 (.iload_n 1) 1 57 := ⟨by decide +kernel, rfl⟩
theorem d_M_toRules_57 : am_D y_M_toRules.2.2.1 57 (.imul) 1 58 := ⟨by decide +kernel, rfl⟩
theorem d_M_toRules_58 : am_D y_M_toRules.2.2.1 58 (.aload_n 0) 1 59 := ⟨by decide +kernel, rfl⟩
theorem d_M_toRules_59 : am_D y_M_toRules.2.2.1 59 (.getfield 59) 3 62 := ⟨by decide +kernel, rfl⟩
theorem d_M_toRules_62 : am_D y_M_toRules.2.2.1 62 (.iload 6) 2 64 := ⟨by decide +kernel, rfl⟩
theorem d_M_toRules_64 : am_D y_M_toRules.2.2.1 64 (.iaload) 1 65 := ⟨by decide +kernel, rfl⟩
theorem d_M_toRules_65 : am_D y_M_toRules.2.2.1 65 (.iadd) 1 66 := ⟨by decide +kernel, rfl⟩
theorem d_M_toRules_66 : am_D y_M_toRules.2.2.1 66 (.iload_n 3) 1 67 := ⟨by decide +kernel, rfl⟩
theorem d_M_toRules_67 : am_D y_M_toRules.2.2.1 67 (.iload 4) 2 69 := ⟨by decide +kernel, rfl⟩
theorem d_M_toRules_69 : am_D y_M_toRules.2.2.1 69 (.iload 5) 2 71 := ⟨by decide +kernel, rfl⟩
theorem d_M_toRules_71 : am_D y_M_toRules.2.2.1 71 (.invokevirtual 162) 3 74 := ⟨by decide +kernel, rfl⟩
theorem d_M_toRules_74 : am_D y_M_toRules.2.2.1 74 (.return_) 1 75 := ⟨by decide +kernel, rfl⟩
theorem d_M_ruleAt_0 : am_D y_M_ruleAt.2.2.1 0 (.bipush 8) 2 2 := ⟨by decide +kernel, rfl⟩
theorem d_M_ruleAt_2 : am_D y_M_ruleAt.2.2.1 2 (.iload_n 1) 1 3 := ⟨by decide +kernel, rfl⟩
theorem d_M_ruleAt_3 : am_D y_M_ruleAt.2.2.1 3 (.imul) 1 4 := ⟨by decide +kernel, rfl⟩
theorem d_M_ruleAt_4 : am_D y_M_ruleAt.2.2.1 4 (.istore_n 3) 1 5 := ⟨by decide +kernel, rfl⟩
theorem d_M_ruleAt_5 : am_D y_M_ruleAt.2.2.1 5 (.iload_n 3) 1 6 := ⟨by decide +kernel, rfl⟩
theorem d_M_ruleAt_6 : am_D y_M_ruleAt.2.2.1 6 (.bipush 8) 2 8 := ⟨by decide +kernel, rfl⟩
theorem d_M_ruleAt_8 : am_D y_M_ruleAt.2.2.1 8 (.iload_n 1) 1 9 := ⟨by decide +kernel, rfl⟩
theorem d_M_ruleAt_9 : am_D y_M_ruleAt.2.2.1 9 (.imul) 1 10 := ⟨by decide +kernel, rfl⟩
theorem d_M_ruleAt_10 : am_D y_M_ruleAt.2.2.1 10 (.aload_n 0) 1 11 := ⟨by decide +kernel, rfl⟩
theorem d_M_ruleAt_11 : am_D y_M_ruleAt.2.2.1 11 (.getfield 53) 3 14 := ⟨by decide +kernel, rfl⟩
theorem d_M_ruleAt_14 : am_D y_M_ruleAt.2.2.1 14 (.iload_n 1) 1 15 := ⟨by decide +kernel, rfl⟩
theorem d_M_ruleAt_15 : am_D y_M_ruleAt.2.2.1 15 (.iaload) 1 16 := ⟨by decide +kernel, rfl⟩
theorem d_M_ruleAt_16 : am_D y_M_ruleAt.2.2.1 16 (.iadd) 1 17 := ⟨by decide +kernel, rfl⟩
theorem d_M_ruleAt_17 : am_D y_M_ruleAt.2.2.1 17 (.if_icmp .ge 21) 3 20 := ⟨by decide +kernel, rfl⟩
theorem d_M_ruleAt_20 : am_D y_M_ruleAt.2.2.1 20 (.aload_n 0) 1 21 := ⟨by decide +kernel, rfl⟩
theorem d_M_ruleAt_21 : am_D y_M_ruleAt.2.2.1 21 (.getfield 56) 3 24 := ⟨by decide +kernel, rfl⟩
theorem d_M_ruleAt_24 : am_D y_M_ruleAt.2.2.1 24 (.iload_n 3) 1 25 := ⟨by decide +kernel, rfl⟩
theorem d_M_ruleAt_25 : am_D y_M_ruleAt.2.2.1 25 (.iaload) 1 26 := ⟨by decide +kernel, rfl⟩
theorem d_M_ruleAt_26 : am_D y_M_ruleAt.2.2.1 26 (.iload_n 2) 1 27 := ⟨by decide +kernel, rfl⟩
theorem d_M_ruleAt_27 : am_D y_M_ruleAt.2.2.1 27 (.if_icmp .ne 5) 3 30 := ⟨by decide +kernel, rfl⟩
theorem d_M_ruleAt_30 : am_D y_M_ruleAt.2.2.1 30 (.iload_n 3) 1 31 := ⟨by decide +kernel, rfl⟩
theorem d_M_ruleAt_31 : am_D y_M_ruleAt.2.2.1 31 (.ireturn) 1 32 := ⟨by decide +kernel, rfl⟩
theorem d_M_ruleAt_32 : am_D y_M_ruleAt.2.2.1 32 (.iinc 3 1) 3 35 := ⟨by decide +kernel, rfl⟩
theorem d_M_ruleAt_35 : am_D y_M_ruleAt.2.2.1 35 (.goto (-30)) 3 38 := ⟨by decide +kernel, rfl⟩
theorem d_M_ruleAt_38 : am_D y_M_ruleAt.2.2.1 38 (.iconst (-1)) 1 39 := ⟨by decide +kernel, rfl⟩
theorem d_M_ruleAt_39 : am_D y_M_ruleAt.2.2.1 39 (.ireturn) 1 40 := ⟨by decide +kernel, rfl⟩
theorem d_M_carry_0 : am_D y_M_carry.2.2.1 0 (.aload_n 0) 1 1 := ⟨by decide +kernel, rfl⟩
theorem d_M_carry_1 : am_D y_M_carry.2.2.1 1 (.iload_n 1) 1 2 := ⟨by decide +kernel, rfl⟩
theorem d_M_carry_2 : am_D y_M_carry.2.2.1 2 (.iload_n 2) 1 3 := ⟨by decide +kernel, rfl⟩
theorem d_M_carry_3 : am_D y_M_carry.2.2.1 3 (.invokevirtual 140) 3 6 := ⟨by decide +kernel, rfl⟩
theorem d_M_carry_6 : am_D y_M_carry.2.2.1 6 (.ifCond .eq 11) 3 9 := ⟨by decide +kernel, rfl⟩
theorem d_M_carry_9 : am_D y_M_carry.2.2.1 9 (.iconst 4) 1 10 := ⟨by decide +kernel, rfl⟩
theorem d_M_carry_10 : am_D y_M_carry.2.2.1 10 (.iload_n 1) 1 11 := ⟨by decide +kernel, rfl⟩
theorem d_M_carry_11 : am_D y_M_carry.2.2.1 11 (.imul) 1 12 := ⟨by decide +kernel, rfl⟩
theorem d_M_carry_12 : am_D y_M_carry.2.2.1 12 (.iload_n 2) 1 13 := ⟨by decide +kernel, rfl⟩
theorem d_M_carry_13 : am_D y_M_carry.2.2.1 13 (.iadd) 1 14 := ⟨by decide +kernel, rfl⟩
theorem d_M_carry_14 : am_D y_M_carry.2.2.1 14 (.goto 4) 3 17 := ⟨by decide +kernel, rfl⟩
theorem d_M_carry_17 : am_D y_M_carry.2.2.1 17 (.iconst (-1)) 1 18 := ⟨by decide +kernel, rfl⟩
theorem d_M_carry_18 : am_D y_M_carry.2.2.1 18 (.istore_n 3) 1 19 := ⟨by decide +kernel, rfl⟩
theorem d_M_carry_19 : am_D y_M_carry.2.2.1 19 (.iload_n 3) 1 20 := ⟨by decide +kernel, rfl⟩
theorem d_M_carry_20 : am_D y_M_carry.2.2.1 20 (.ifCond .lt 22) 3 23 := ⟨by decide +kernel, rfl⟩
theorem d_M_carry_23 : am_D y_M_carry.2.2.1 23 (.aload_n 0) 1 24 := ⟨by decide +kernel, rfl⟩
theorem d_M_carry_24 : am_D y_M_carry.2.2.1 24 (.getfield 7) 3 27 := ⟨by decide +kernel, rfl⟩
theorem d_M_carry_27 : am_D y_M_carry.2.2.1 27 (.iload_n 3) 1 28 := ⟨by decide +kernel, rfl⟩
theorem d_M_carry_28 : am_D y_M_carry.2.2.1 28 (.iaload) 1 29 := ⟨by decide +kernel, rfl⟩
theorem d_M_carry_29 : am_D y_M_carry.2.2.1 29 (.iconst 2) 1 30 := ⟨by decide +kernel, rfl⟩
theorem d_M_carry_30 : am_D y_M_carry.2.2.1 30 (.if_icmp .ne 12) 3 33 := ⟨by decide +kernel, rfl⟩
theorem d_M_carry_33 : am_D y_M_carry.2.2.1 33 (.aload_n 0) 1 34 := ⟨by decide +kernel, rfl⟩
theorem d_M_carry_34 : am_D y_M_carry.2.2.1 34 (.getfield 32) 3 37 := ⟨by decide +kernel, rfl⟩
theorem d_M_carry_37 : am_D y_M_carry.2.2.1 37 (.iload_n 3) 1 38 := ⟨by decide +kernel, rfl⟩
theorem d_M_carry_38 : am_D y_M_carry.2.2.1 38 (.iaload) 1 39 := ⟨by decide +kernel, rfl⟩
theorem d_M_carry_39 : am_D y_M_carry.2.2.1 39 (.ifCond .ne 5) 3 42 := ⟨by decide +kernel, rfl⟩
theorem d_M_carry_42 : am_D y_M_carry.2.2.1 42 (.iconst 0) 1 43 := ⟨by decide +kernel, rfl⟩
theorem d_M_carry_43 : am_D y_M_carry.2.2.1 43 (.ireturn) 1 44 := ⟨by decide +kernel, rfl⟩
theorem d_M_carry_44 : am_D y_M_carry.2.2.1 44 (.aload_n 0) 1 45 := ⟨by decide +kernel, rfl⟩
theorem d_M_carry_45 : am_D y_M_carry.2.2.1 45 (.getfield 35) 3 48 := ⟨by decide +kernel, rfl⟩
theorem d_M_carry_48 : am_D y_M_carry.2.2.1 48 (.bipush 18) 2 50 := ⟨by decide +kernel, rfl⟩
theorem d_M_carry_50 : am_D y_M_carry.2.2.1 50 (.iload_n 3) 1 51 := ⟨by decide +kernel, rfl⟩
theorem d_M_carry_51 : am_D y_M_carry.2.2.1 51 (.imul) 1 52 := ⟨by decide +kernel, rfl⟩
theorem d_M_carry_52 : am_D y_M_carry.2.2.1 52 (.iaload) 1 53 := ⟨by decide +kernel, rfl⟩
theorem d_M_carry_53 : am_D y_M_carry.2.2.1 53 (.istore 4) 2 55 := ⟨by decide +kernel, rfl⟩
theorem d_M_carry_55 : am_D y_M_carry.2.2.1 55 (.aload_n 0) 1 56 := ⟨by decide +kernel, rfl⟩
theorem d_M_carry_56 : am_D y_M_carry.2.2.1 56 (.getfield 35) 3 59 := ⟨by decide +kernel, rfl⟩
theorem d_M_carry_59 : am_D y_M_carry.2.2.1 59 (.bipush 18) 2 61 := ⟨by decide +kernel, rfl⟩
theorem d_M_carry_61 : am_D y_M_carry.2.2.1 61 (.iload_n 3) 1 62 := ⟨by decide +kernel, rfl⟩
theorem d_M_carry_62 : am_D y_M_carry.2.2.1 62 (.imul) 1 63 := ⟨by decide +kernel, rfl⟩
theorem d_M_carry_63 : am_D y_M_carry.2.2.1 63 (.iconst 1) 1 64 := ⟨by decide +kernel, rfl⟩
theorem d_M_carry_64 : am_D y_M_carry.2.2.1 64 (.iadd) 1 65 := ⟨by decide +kernel, rfl⟩
theorem d_M_carry_65 : am_D y_M_carry.2.2.1 65 (.iaload) 1 66 := ⟨by decide +kernel, rfl⟩
theorem d_M_carry_66 : am_D y_M_carry.2.2.1 66 (.istore 5) 2 68 := ⟨by decide +kernel, rfl⟩
theorem d_M_carry_68 : am_D y_M_carry.2.2.1 68 (.aload_n 0) 1 69 := ⟨by decide +kernel, rfl⟩
theorem d_M_carry_69 : am_D y_M_carry.2.2.1 69 (.getfield 35) 3 72 := ⟨by decide +kernel, rfl⟩
theorem d_M_carry_72 : am_D y_M_carry.2.2.1 72 (.bipush 18) 2 74 := ⟨by decide +kernel, rfl⟩
theorem d_M_carry_74 : am_D y_M_carry.2.2.1 74 (.iload_n 3) 1 75 := ⟨by decide +kernel, rfl⟩
theorem d_M_carry_75 : am_D y_M_carry.2.2.1 75 (.imul) 1 76 := ⟨by decide +kernel, rfl⟩
theorem d_M_carry_76 : am_D y_M_carry.2.2.1 76 (.iconst 2) 1 77 := ⟨by decide +kernel, rfl⟩
theorem d_M_carry_77 : am_D y_M_carry.2.2.1 77 (.iadd) 1 78 := ⟨by decide +kernel, rfl⟩
theorem d_M_carry_78 : am_D y_M_carry.2.2.1 78 (.iaload) 1 79 := ⟨by decide +kernel, rfl⟩
theorem d_M_carry_79 : am_D y_M_carry.2.2.1 79 (.istore 6) 2 81 := ⟨by decide +kernel, rfl⟩
theorem d_M_carry_81 : am_D y_M_carry.2.2.1 81 (.aload_n 0) 1 82 := ⟨by decide +kernel, rfl⟩
theorem d_M_carry_82 : am_D y_M_carry.2.2.1 82 (.getfield 32) 3 85 := ⟨by decide +kernel, rfl⟩
theorem d_M_carry_85 : am_D y_M_carry.2.2.1 85 (.iload_n 3) 1 86 := ⟨by decide +kernel, rfl⟩
theorem d_M_carry_86 : am_D y_M_carry.2.2.1 86 (.dup2) 1 87 := ⟨by decide +kernel, rfl⟩
theorem d_M_carry_87 : am_D y_M_carry.2.2.1 87 (.iaload) 1 88 := ⟨by decide +kernel, rfl⟩
theorem d_M_carry_88 : am_D y_M_carry.2.2.1 88 (.iconst 1) 1 89 := ⟨by decide +kernel, rfl⟩
theorem d_M_carry_89 : am_D y_M_carry.2.2.1 89 (.isub) 1 90 := ⟨by decide +kernel, rfl⟩
theorem d_M_carry_90 : am_D y_M_carry.2.2.1 90 (.iastore) 1 91 := ⟨by decide +kernel, rfl⟩
theorem d_M_carry_91 : am_D y_M_carry.2.2.1 91 (.bipush 18) 2 93 := ⟨by decide +kernel, rfl⟩
theorem d_M_carry_93 : am_D y_M_carry.2.2.1 93 (.iload_n 3) 1 94 := ⟨by decide +kernel, rfl⟩
theorem d_M_carry_94 : am_D y_M_carry.2.2.1 94 (.imul) 1 95 := ⟨by decide +kernel, rfl⟩
theorem d_M_carry_95 : am_D y_M_carry.2.2.1 95 (.istore 7) 2 97 := ⟨by decide +kernel, rfl⟩
theorem d_M_carry_97 : am_D y_M_carry.2.2.1 97 (.iload 7) 2 99 := ⟨by decide +kernel, rfl⟩
theorem d_M_carry_99 : am_D y_M_carry.2.2.1 99 (.bipush 18) 2 101 := ⟨by decide +kernel, rfl⟩
theorem d_M_carry_101 : am_D y_M_carry.2.2.1 101 (.iload_n 3) 1 102 := ⟨by decide +kernel, rfl⟩
theorem d_M_carry_102 : am_D y_M_carry.2.2.1 102 (.imul) 1 103 := ⟨by decide +kernel, rfl⟩
theorem d_M_carry_103 : am_D y_M_carry.2.2.1 103 (.iconst 3) 1 104 := ⟨by decide +kernel, rfl⟩
theorem d_M_carry_104 : am_D y_M_carry.2.2.1 104 (.aload_n 0) 1 105 := ⟨by decide +kernel, rfl⟩
theorem d_M_carry_105 : am_D y_M_carry.2.2.1 105 (.getfield 32) 3 108 := ⟨by decide +kernel, rfl⟩
theorem d_M_carry_108 : am_D y_M_carry.2.2.1 108 (.iload_n 3) 1 109 := ⟨by decide +kernel, rfl⟩
theorem d_M_carry_109 : am_D y_M_carry.2.2.1 109 (.iaload) 1 110 := ⟨by decide +kernel, rfl⟩
theorem d_M_carry_110 : am_D y_M_carry.2.2.1 110 (.imul) 1 111 := ⟨by decide +kernel, rfl⟩
theorem d_M_carry_111 : am_D y_M_carry.2.2.1 111 (.iadd) 1 112 := ⟨by decide +kernel, rfl⟩
theorem d_M_carry_112 : am_D y_M_carry.2.2.1 112 (.if_icmp .ge 25) 3 115 := ⟨by decide +kernel, rfl⟩
theorem d_M_carry_115 : am_D y_M_carry.2.2.1 115 (.aload_n 0) 1 116 := ⟨by decide +kernel, rfl⟩
theorem d_M_carry_116 : am_D y_M_carry.2.2.1 116 (.getfield 35) 3 119 := ⟨by decide +kernel, rfl⟩
theorem d_M_carry_119 : am_D y_M_carry.2.2.1 119 (.iload 7) 2 121 := ⟨by decide +kernel, rfl⟩
theorem d_M_carry_121 : am_D y_M_carry.2.2.1 121 (.aload_n 0) 1 122 := ⟨by decide +kernel, rfl⟩
theorem d_M_carry_122 : am_D y_M_carry.2.2.1 122 (.getfield 35) 3 125 := ⟨by decide +kernel, rfl⟩
theorem d_M_carry_125 : am_D y_M_carry.2.2.1 125 (.iload 7) 2 127 := ⟨by decide +kernel, rfl⟩
theorem d_M_carry_127 : am_D y_M_carry.2.2.1 127 (.iconst 3) 1 128 := ⟨by decide +kernel, rfl⟩
theorem d_M_carry_128 : am_D y_M_carry.2.2.1 128 (.iadd) 1 129 := ⟨by decide +kernel, rfl⟩
theorem d_M_carry_129 : am_D y_M_carry.2.2.1 129 (.iaload) 1 130 := ⟨by decide +kernel, rfl⟩
theorem d_M_carry_130 : am_D y_M_carry.2.2.1 130 (.iastore) 1 131 := ⟨by decide +kernel, rfl⟩
theorem d_M_carry_131 : am_D y_M_carry.2.2.1 131 (.iinc 7 1) 3 134 := ⟨by decide +kernel, rfl⟩
theorem d_M_carry_134 : am_D y_M_carry.2.2.1 134 (.goto (-37)) 3 137 := ⟨by decide +kernel, rfl⟩
theorem d_M_carry_137 : am_D y_M_carry.2.2.1 137 (.aload_n 0) 1 138 := ⟨by decide +kernel, rfl⟩
theorem d_M_carry_138 : am_D y_M_carry.2.2.1 138 (.getfield 13) 3 141 := ⟨by decide +kernel, rfl⟩
theorem d_M_carry_141 : am_D y_M_carry.2.2.1 141 (.iload_n 3) 1 142 := ⟨by decide +kernel, rfl⟩
theorem d_M_carry_142 : am_D y_M_carry.2.2.1 142 (.iaload) 1 143 := ⟨by decide +kernel, rfl⟩
theorem d_M_carry_143 : am_D y_M_carry.2.2.1 143 (.iconst 4) 1 144 := ⟨by decide +kernel, rfl⟩
theorem d_M_carry_144 : am_D y_M_carry.2.2.1 144 (.idiv) 1 145 := ⟨by decide +kernel, rfl⟩
theorem d_M_carry_145 : am_D y_M_carry.2.2.1 145 (.istore 7) 2 147 := ⟨by decide +kernel, rfl⟩
theorem d_M_carry_147 : am_D y_M_carry.2.2.1 147 (.aload_n 0) 1 148 := ⟨by decide +kernel, rfl⟩
theorem d_M_carry_148 : am_D y_M_carry.2.2.1 148 (.getfield 13) 3 151 := ⟨by decide +kernel, rfl⟩
theorem d_M_carry_151 : am_D y_M_carry.2.2.1 151 (.iload_n 3) 1 152 := ⟨by decide +kernel, rfl⟩
theorem d_M_carry_152 : am_D y_M_carry.2.2.1 152 (.iaload) 1 153 := ⟨by decide +kernel, rfl⟩
theorem d_M_carry_153 : am_D y_M_carry.2.2.1 153 (.iconst 4) 1 154 := ⟨by decide +kernel, rfl⟩
theorem d_M_carry_154 : am_D y_M_carry.2.2.1 154 (.irem) 1 155 := ⟨by decide +kernel, rfl⟩
theorem d_M_carry_155 : am_D y_M_carry.2.2.1 155 (.istore 8) 2 157 := ⟨by decide +kernel, rfl⟩
theorem d_M_carry_157 : am_D y_M_carry.2.2.1 157 (.iload 4) 2 159 := ⟨by decide +kernel, rfl⟩
theorem d_M_carry_159 : am_D y_M_carry.2.2.1 159 (.ifCond .ge 19) 3 162 := ⟨by decide +kernel, rfl⟩
theorem d_M_carry_162 : am_D y_M_carry.2.2.1 162 (.aload_n 0) 1 163 := ⟨by decide +kernel, rfl⟩
theorem d_M_carry_163 : am_D y_M_carry.2.2.1 163 (.iload 7) 2 165 := ⟨by decide +kernel, rfl⟩
theorem d_M_carry_165 : am_D y_M_carry.2.2.1 165 (.iconst 1) 1 166 := ⟨by decide +kernel, rfl⟩
theorem d_M_carry_166 : am_D y_M_carry.2.2.1 166 (.iload 8) 2 168 := ⟨by decide +kernel, rfl⟩
theorem d_M_carry_168 : am_D y_M_carry.2.2.1 168 (.iload 5) 2 170 := ⟨by decide +kernel, rfl⟩
theorem d_M_carry_170 : am_D y_M_carry.2.2.1 170 (.iconst 0) 1 171 := ⟨by decide +kernel, rfl⟩
theorem d_M_carry_171 : am_D y_M_carry.2.2.1 171 (.iconst 0) 1 172 := ⟨by decide +kernel, rfl⟩
theorem d_M_carry_172 : am_D y_M_carry.2.2.1 172 (.invokevirtual 148) 3 175 := ⟨by decide +kernel, rfl⟩
theorem d_M_carry_175 : am_D y_M_carry.2.2.1 175 (.goto 17) 3 178 := ⟨by decide +kernel, rfl⟩
theorem d_M_carry_178 : am_D y_M_carry.2.2.1 178 (.aload_n 0) 1 179 := ⟨by decide +kernel, rfl⟩
theorem d_M_carry_179 : am_D y_M_carry.2.2.1 179 (.iload 7) 2 181 := ⟨by decide +kernel, rfl⟩
theorem d_M_carry_181 : am_D y_M_carry.2.2.1 181 (.iload 8) 2 183 := ⟨by decide +kernel, rfl⟩
theorem d_M_carry_183 : am_D y_M_carry.2.2.1 183 (.iload 4) 2 185 := ⟨by decide +kernel, rfl⟩
theorem d_M_carry_185 : am_D y_M_carry.2.2.1 185 (.iload 5) 2 187 := ⟨by decide +kernel, rfl⟩
theorem d_M_carry_187 : am_D y_M_carry.2.2.1 187 (.iload 6) 2 189 := ⟨by decide +kernel, rfl⟩
theorem d_M_carry_189 : am_D y_M_carry.2.2.1 189 (.invokevirtual 180) 3 192 := ⟨by decide +kernel, rfl⟩
theorem d_M_carry_192 : am_D y_M_carry.2.2.1 192 (.iconst 1) 1 193 := ⟨by decide +kernel, rfl⟩
theorem d_M_carry_193 : am_D y_M_carry.2.2.1 193 (.ireturn) 1 194 := ⟨by decide +kernel, rfl⟩
theorem d_M_obey_0 : am_D y_M_obey.2.2.1 0 (.aload_n 0) 1 1 := ⟨by decide +kernel, rfl⟩
theorem d_M_obey_1 : am_D y_M_obey.2.2.1 1 (.iload_n 1) 1 2 := ⟨by decide +kernel, rfl⟩
theorem d_M_obey_2 : am_D y_M_obey.2.2.1 2 (.invokevirtual 133) 3 5 := ⟨by decide +kernel, rfl⟩
theorem d_M_obey_5 : am_D y_M_obey.2.2.1 5 (.ifCond .eq 14) 3 8 := ⟨by decide +kernel, rfl⟩
theorem d_M_obey_8 : am_D y_M_obey.2.2.1 8 (.aload_n 0) 1 9 := ⟨by decide +kernel, rfl⟩
theorem d_M_obey_9 : am_D y_M_obey.2.2.1 9 (.getfield 71) 3 12 := ⟨by decide +kernel, rfl⟩
theorem d_M_obey_12 : am_D y_M_obey.2.2.1 12 (.iconst 2) 1 13 := ⟨by decide +kernel, rfl⟩
theorem d_M_obey_13 : am_D y_M_obey.2.2.1 13 (.iload_n 1) 1 14 := ⟨by decide +kernel, rfl⟩
theorem d_M_obey_14 : am_D y_M_obey.2.2.1 14 (.imul) 1 15 := ⟨by decide +kernel, rfl⟩
theorem d_M_obey_15 : am_D y_M_obey.2.2.1 15 (.iaload) 1 16 := ⟨by decide +kernel, rfl⟩
theorem d_M_obey_16 : am_D y_M_obey.2.2.1 16 (.ifCond .ne 5) 3 19 := ⟨by decide +kernel, rfl⟩
theorem d_M_obey_19 : am_D y_M_obey.2.2.1 19 (.iconst (-1)) 1 20 := ⟨by decide +kernel, rfl⟩
theorem d_M_obey_20 : am_D y_M_obey.2.2.1 20 (.ireturn) 1 21 := ⟨by decide +kernel, rfl⟩
theorem d_M_obey_21 : am_D y_M_obey.2.2.1 21 (.aload_n 0) 1 22 := ⟨by decide +kernel, rfl⟩
theorem d_M_obey_22 : am_D y_M_obey.2.2.1 22 (.iconst 2) 1 23 := ⟨by decide +kernel, rfl⟩
theorem d_M_obey_23 : am_D y_M_obey.2.2.1 23 (.iload_n 1) 1 24 := ⟨by decide +kernel, rfl⟩
theorem d_M_obey_24 : am_D y_M_obey.2.2.1 24 (.imul) 1 25 := ⟨by decide +kernel, rfl⟩
theorem d_M_obey_25 : am_D y_M_obey.2.2.1 25 (.invokevirtual 186) 3 28 := ⟨by decide +kernel, rfl⟩
theorem d_M_obey_28 : am_D y_M_obey.2.2.1 28 (.aload_n 0) 1 29 := ⟨by decide +kernel, rfl⟩
theorem d_M_obey_29 : am_D y_M_obey.2.2.1 29 (.getfield 77) 3 32 := ⟨by decide +kernel, rfl⟩
theorem d_M_obey_32 : am_D y_M_obey.2.2.1 32 (.iconst 0) 1 33 := ⟨by decide +kernel, rfl⟩
theorem d_M_obey_33 : am_D y_M_obey.2.2.1 33 (.iaload) 1 34 := ⟨by decide +kernel, rfl⟩
theorem d_M_obey_34 : am_D y_M_obey.2.2.1 34 (.istore_n 2) 1 35 := ⟨by decide +kernel, rfl⟩
theorem d_M_obey_35 : am_D y_M_obey.2.2.1 35 (.aload_n 0) 1 36 := ⟨by decide +kernel, rfl⟩
theorem d_M_obey_36 : am_D y_M_obey.2.2.1 36 (.getfield 77) 3 39 := ⟨by decide +kernel, rfl⟩
theorem d_M_obey_39 : am_D y_M_obey.2.2.1 39 (.iconst 1) 1 40 := ⟨by decide +kernel, rfl⟩
theorem d_M_obey_40 : am_D y_M_obey.2.2.1 40 (.iaload) 1 41 := ⟨by decide +kernel, rfl⟩
theorem d_M_obey_41 : am_D y_M_obey.2.2.1 41 (.istore_n 3) 1 42 := ⟨by decide +kernel, rfl⟩
theorem d_M_obey_42 : am_D y_M_obey.2.2.1 42 (.iload_n 2) 1 43 := ⟨by decide +kernel, rfl⟩
theorem d_M_obey_43 : am_D y_M_obey.2.2.1 43 (.ifCond .ne 18) 3 46 := ⟨by decide +kernel, rfl⟩
theorem d_M_obey_46 : am_D y_M_obey.2.2.1 46 (.aload_n 0) 1 47 := ⟨by decide +kernel, rfl⟩
theorem d_M_obey_47 : am_D y_M_obey.2.2.1 47 (.iload_n 1) 1 48 := ⟨by decide +kernel, rfl⟩
theorem d_M_obey_48 : am_D y_M_obey.2.2.1 48 (.iload_n 3) 1 49 := ⟨by decide +kernel, rfl⟩
theorem d_M_obey_49 : am_D y_M_obey.2.2.1 49 (.aload_n 0) 1 50 := ⟨by decide +kernel, rfl⟩
theorem d_M_obey_50 : am_D y_M_obey.2.2.1 50 (.getfield 77) 3 53 := ⟨by decide +kernel, rfl⟩
theorem d_M_obey_53 : am_D y_M_obey.2.2.1 53 (.iconst 2) 1 54 := ⟨by decide +kernel, rfl⟩
theorem d_M_obey_54 : am_D y_M_obey.2.2.1 54 (.iaload) 1 55 := ⟨by decide +kernel, rfl⟩
theorem d_M_obey_55 : am_D y_M_obey.2.2.1 55 (.invokevirtual 190) 3 58 := ⟨by decide +kernel, rfl⟩
theorem d_M_obey_58 : am_D y_M_obey.2.2.1 58 (.goto 164) 3 61 := ⟨by decide +kernel, rfl⟩
theorem d_M_obey_61 : am_D y_M_obey.2.2.1 61 (.iload_n 2) 1 62 := ⟨by decide +kernel, rfl⟩
theorem d_M_obey_62 : am_D y_M_obey.2.2.1 62 (.iconst 1) 1 63 := ⟨by decide +kernel, rfl⟩
theorem d_M_obey_63 : am_D y_M_obey.2.2.1 63 (.if_icmp .ne 26) 3 66 := ⟨by decide +kernel, rfl⟩
theorem d_M_obey_66 : am_D y_M_obey.2.2.1 66 (.aload_n 0) 1 67 := ⟨by decide +kernel, rfl⟩
theorem d_M_obey_67 : am_D y_M_obey.2.2.1 67 (.iload_n 1) 1 68 := ⟨by decide +kernel, rfl⟩
theorem d_M_obey_68 : am_D y_M_obey.2.2.1 68 (.iload_n 3) 1 69 := ⟨by decide +kernel, rfl⟩
theorem d_M_obey_69 : am_D y_M_obey.2.2.1 69 (.invokevirtual 170) 3 72 := ⟨by decide +kernel, rfl⟩
theorem d_M_obey_72 : am_D y_M_obey.2.2.1 72 (.istore 4) 2 74 := ⟨by decide +kernel, rfl⟩
theorem d_M_obey_74 : am_D y_M_obey.2.2.1 74 (.iload 4) 2 76 := ⟨by decide +kernel, rfl⟩
theorem d_M_obey_76 : am_D y_M_obey.2.2.1 76 (.ifCond .lt 10) 3 79 := ⟨by decide +kernel, rfl⟩
theorem d_M_obey_79 : am_D y_M_obey.2.2.1 79 (.aload_n 0) 1 80 := ⟨by decide +kernel, rfl⟩
theorem d_M_obey_80 : am_D y_M_obey.2.2.1 80 (.iload_n 1) 1 81 := ⟨by decide +kernel, rfl⟩
theorem d_M_obey_81 : am_D y_M_obey.2.2.1 81 (.iload 4) 2 83 := ⟨by decide +kernel, rfl⟩
theorem d_M_obey_83 : am_D y_M_obey.2.2.1 83 (.invokevirtual 183) 3 86 := ⟨by decide +kernel, rfl⟩
theorem d_M_obey_86 : am_D y_M_obey.2.2.1 86 (.goto 136) 3 89 := ⟨by decide +kernel, rfl⟩
theorem d_M_obey_89 : am_D y_M_obey.2.2.1 89 (.iload_n 2) 1 90 := ⟨by decide +kernel, rfl⟩
theorem d_M_obey_90 : am_D y_M_obey.2.2.1 90 (.iconst 2) 1 91 := ⟨by decide +kernel, rfl⟩
theorem d_M_obey_91 : am_D y_M_obey.2.2.1 91 (.if_icmp .ne 16) 3 94 := ⟨by decide +kernel, rfl⟩
theorem d_M_obey_94 : am_D y_M_obey.2.2.1 94 (.aload_n 0) 1 95 := ⟨by decide +kernel, rfl⟩
theorem d_M_obey_95 : am_D y_M_obey.2.2.1 95 (.iload_n 1) 1 96 := ⟨by decide +kernel, rfl⟩
theorem d_M_obey_96 : am_D y_M_obey.2.2.1 96 (.iconst 2) 1 97 := ⟨by decide +kernel, rfl⟩
theorem d_M_obey_97 : am_D y_M_obey.2.2.1 97 (.iload_n 3) 1 98 := ⟨by decide +kernel, rfl⟩
theorem d_M_obey_98 : am_D y_M_obey.2.2.1 98 (.iconst 0) 1 99 := ⟨by decide +kernel, rfl⟩
theorem d_M_obey_99 : am_D y_M_obey.2.2.1 99 (.iconst 0) 1 100 := ⟨by decide +kernel, rfl⟩
theorem d_M_obey_100 : am_D y_M_obey.2.2.1 100 (.iconst 0) 1 101 := ⟨by decide +kernel, rfl⟩
theorem d_M_obey_101 : am_D y_M_obey.2.2.1 101 (.invokevirtual 148) 3 104 := ⟨by decide +kernel, rfl⟩
theorem d_M_obey_104 : am_D y_M_obey.2.2.1 104 (.goto 118) 3 107 := ⟨by decide +kernel, rfl⟩
theorem d_M_obey_107 : am_D y_M_obey.2.2.1 107 (.iload_n 2) 1 108 := ⟨by decide +kernel, rfl⟩
theorem d_M_obey_108 : am_D y_M_obey.2.2.1 108 (.iconst 4) 1 109 := ⟨by decide +kernel, rfl⟩
theorem d_M_obey_109 : am_D y_M_obey.2.2.1 109 (.if_icmp .ne 25) 3 112 := ⟨by decide +kernel, rfl⟩
theorem d_M_obey_112 : am_D y_M_obey.2.2.1 112 (.aload_n 0) 1 113 := ⟨by decide +kernel, rfl⟩
theorem d_M_obey_113 : am_D y_M_obey.2.2.1 113 (.iload_n 1) 1 114 := ⟨by decide +kernel, rfl⟩
theorem d_M_obey_114 : am_D y_M_obey.2.2.1 114 (.iconst 4) 1 115 := ⟨by decide +kernel, rfl⟩
theorem d_M_obey_115 : am_D y_M_obey.2.2.1 115 (.iload_n 3) 1 116 := ⟨by decide +kernel, rfl⟩
theorem d_M_obey_116 : am_D y_M_obey.2.2.1 116 (.aload_n 0) 1 117 := ⟨by decide +kernel, rfl⟩
theorem d_M_obey_117 : am_D y_M_obey.2.2.1 117 (.getfield 77) 3 120 := ⟨by decide +kernel, rfl⟩
theorem d_M_obey_120 : am_D y_M_obey.2.2.1 120 (.iconst 2) 1 121 := ⟨by decide +kernel, rfl⟩
theorem d_M_obey_121 : am_D y_M_obey.2.2.1 121 (.iaload) 1 122 := ⟨by decide +kernel, rfl⟩
theorem d_M_obey_122 : am_D y_M_obey.2.2.1 122 (.aload_n 0) 1 123 := ⟨by decide +kernel, rfl⟩
theorem d_M_obey_123 : am_D y_M_obey.2.2.1 123 (.getfield 77) 3 126 := ⟨by decide +kernel, rfl⟩
theorem d_M_obey_126 : am_D y_M_obey.2.2.1 126 (.iconst 3) 1 127 := ⟨by decide +kernel, rfl⟩
theorem d_M_obey_127 : am_D y_M_obey.2.2.1 127 (.iaload) 1 128 := ⟨by decide +kernel, rfl⟩
theorem d_M_obey_128 : am_D y_M_obey.2.2.1 128 (.invokevirtual 166) 3 131 := ⟨by decide +kernel, rfl⟩
theorem d_M_obey_131 : am_D y_M_obey.2.2.1 131 (.goto 91) 3 134 := ⟨by decide +kernel, rfl⟩
theorem d_M_obey_134 : am_D y_M_obey.2.2.1 134 (.iconst 0) 1 135 := ⟨by decide +kernel, rfl⟩
theorem d_M_obey_135 : am_D y_M_obey.2.2.1 135 (.istore 4) 2 137 := ⟨by decide +kernel, rfl⟩
theorem d_M_obey_137 : am_D y_M_obey.2.2.1 137 (.iload 4) 2 139 := ⟨by decide +kernel, rfl⟩
theorem d_M_obey_139 : am_D y_M_obey.2.2.1 139 (.iconst 4) 1 140 := ⟨by decide +kernel, rfl⟩
theorem d_M_obey_140 : am_D y_M_obey.2.2.1 140 (.if_icmp .ge 82) 3 143 := ⟨by decide +kernel, rfl⟩
theorem d_M_obey_143 : am_D y_M_obey.2.2.1 143 (.iconst 4) 1 144 := ⟨by decide +kernel, rfl⟩
theorem d_M_obey_144 : am_D y_M_obey.2.2.1 144 (.iload_n 1) 1 145 := ⟨by decide +kernel, rfl⟩
theorem d_M_obey_145 : am_D y_M_obey.2.2.1 145 (.imul) 1 146 := ⟨by decide +kernel, rfl⟩
theorem d_M_obey_146 : am_D y_M_obey.2.2.1 146 (.iload 4) 2 148 := ⟨by decide +kernel, rfl⟩
theorem d_M_obey_148 : am_D y_M_obey.2.2.1 148 (.iadd) 1 149 := ⟨by decide +kernel, rfl⟩
theorem d_M_obey_149 : am_D y_M_obey.2.2.1 149 (.istore 5) 2 151 := ⟨by decide +kernel, rfl⟩
theorem d_M_obey_151 : am_D y_M_obey.2.2.1 151 (.iload_n 2) 1 152 := ⟨by decide +kernel, rfl⟩
theorem d_M_obey_152 : am_D y_M_obey.2.2.1 152 (.iconst 3) 1 153 := ⟨by decide +kernel, rfl⟩
theorem d_M_obey_153 : am_D y_M_obey.2.2.1 153 (.if_icmp .ne 37) 3 156 := ⟨by decide +kernel, rfl⟩
theorem d_M_obey_156 : am_D y_M_obey.2.2.1 156 (.iload_n 3) 1 157 := ⟨by decide +kernel, rfl⟩
theorem d_M_obey_157 : am_D y_M_obey.2.2.1 157 (.iload 4) 2 159 := ⟨by decide +kernel, rfl⟩
theorem d_M_obey_159 : am_D y_M_obey.2.2.1 159 (.ishr) 1 160 := ⟨by decide +kernel, rfl⟩
theorem d_M_obey_160 : am_D y_M_obey.2.2.1 160 (.iconst 1) 1 161 := ⟨by decide +kernel, rfl⟩
theorem d_M_obey_161 : am_D y_M_obey.2.2.1 161 (.iand) 1 162 := ⟨by decide +kernel, rfl⟩
theorem d_M_obey_162 : am_D y_M_obey.2.2.1 162 (.iconst 1) 1 163 := ⟨by decide +kernel, rfl⟩
theorem d_M_obey_163 : am_D y_M_obey.2.2.1 163 (.if_icmp .ne 27) 3 166 := ⟨by decide +kernel, rfl⟩
theorem d_M_obey_166 : am_D y_M_obey.2.2.1 166 (.aload_n 0) 1 167 := ⟨by decide +kernel, rfl⟩
theorem d_M_obey_167 : am_D y_M_obey.2.2.1 167 (.iload 5) 2 169 := ⟨by decide +kernel, rfl⟩
theorem d_M_obey_169 : am_D y_M_obey.2.2.1 169 (.aload_n 0) 1 170 := ⟨by decide +kernel, rfl⟩
theorem d_M_obey_170 : am_D y_M_obey.2.2.1 170 (.getfield 77) 3 173 := ⟨by decide +kernel, rfl⟩
theorem d_M_obey_173 : am_D y_M_obey.2.2.1 173 (.iconst 2) 1 174 := ⟨by decide +kernel, rfl⟩
theorem d_M_obey_174 : am_D y_M_obey.2.2.1 174 (.iaload) 1 175 := ⟨by decide +kernel, rfl⟩
theorem d_M_obey_175 : am_D y_M_obey.2.2.1 175 (.aload_n 0) 1 176 := ⟨by decide +kernel, rfl⟩
theorem d_M_obey_176 : am_D y_M_obey.2.2.1 176 (.getfield 77) 3 179 := ⟨by decide +kernel, rfl⟩
theorem d_M_obey_179 : am_D y_M_obey.2.2.1 179 (.iconst 3) 1 180 := ⟨by decide +kernel, rfl⟩
theorem d_M_obey_180 : am_D y_M_obey.2.2.1 180 (.iaload) 1 181 := ⟨by decide +kernel, rfl⟩
theorem d_M_obey_181 : am_D y_M_obey.2.2.1 181 (.aload_n 0) 1 182 := ⟨by decide +kernel, rfl⟩
theorem d_M_obey_182 : am_D y_M_obey.2.2.1 182 (.getfield 77) 3 185 := ⟨by decide +kernel, rfl⟩
theorem d_M_obey_185 : am_D y_M_obey.2.2.1 185 (.iconst 4) 1 186 := ⟨by decide +kernel, rfl⟩
theorem d_M_obey_186 : am_D y_M_obey.2.2.1 186 (.iaload) 1 187 := ⟨by decide +kernel, rfl⟩
theorem d_M_obey_187 : am_D y_M_obey.2.2.1 187 (.invokevirtual 162) 3 190 := ⟨by decide +kernel, rfl⟩
theorem d_M_obey_190 : am_D y_M_obey.2.2.1 190 (.iload_n 2) 1 191 := ⟨by decide +kernel, rfl⟩
theorem d_M_obey_191 : am_D y_M_obey.2.2.1 191 (.iconst 5) 1 192 := ⟨by decide +kernel, rfl⟩
theorem d_M_obey_192 : am_D y_M_obey.2.2.1 192 (.if_icmp .ne 24) 3 195 := ⟨by decide +kernel, rfl⟩
theorem d_M_obey_195 : am_D y_M_obey.2.2.1 195 (.aload_n 0) 1 196 := ⟨by decide +kernel, rfl⟩
theorem d_M_obey_196 : am_D y_M_obey.2.2.1 196 (.getfield 7) 3 199 := ⟨by decide +kernel, rfl⟩
theorem d_M_obey_199 : am_D y_M_obey.2.2.1 199 (.iload 5) 2 201 := ⟨by decide +kernel, rfl⟩
theorem d_M_obey_201 : am_D y_M_obey.2.2.1 201 (.iaload) 1 202 := ⟨by decide +kernel, rfl⟩
theorem d_M_obey_202 : am_D y_M_obey.2.2.1 202 (.iconst 2) 1 203 := ⟨by decide +kernel, rfl⟩
theorem d_M_obey_203 : am_D y_M_obey.2.2.1 203 (.if_icmp .ne 13) 3 206 := ⟨by decide +kernel, rfl⟩
theorem d_M_obey_206 : am_D y_M_obey.2.2.1 206 (.aload_n 0) 1 207 := ⟨by decide +kernel, rfl⟩
theorem d_M_obey_207 : am_D y_M_obey.2.2.1 207 (.iload 5) 2 209 := ⟨by decide +kernel, rfl⟩
theorem d_M_obey_209 : am_D y_M_obey.2.2.1 209 (.iconst (-1)) 1 210 := ⟨by decide +kernel, rfl⟩
theorem d_M_obey_210 : am_D y_M_obey.2.2.1 210 (.iload 5) 2 212 := ⟨by decide +kernel, rfl⟩
theorem d_M_obey_212 : am_D y_M_obey.2.2.1 212 (.iconst 0) 1 213 := ⟨by decide +kernel, rfl⟩
theorem d_M_obey_213 : am_D y_M_obey.2.2.1 213 (.invokevirtual 162) 3 216 := ⟨by decide +kernel, rfl⟩
theorem d_M_obey_216 : am_D y_M_obey.2.2.1 216 (.iinc 4 1) 3 219 := ⟨by decide +kernel, rfl⟩
theorem d_M_obey_219 : am_D y_M_obey.2.2.1 219 (.goto (-82)) 3 222 := ⟨by decide +kernel, rfl⟩
theorem d_M_obey_222 : am_D y_M_obey.2.2.1 222 (.iload_n 2) 1 223 := ⟨by decide +kernel, rfl⟩
theorem d_M_obey_223 : am_D y_M_obey.2.2.1 223 (.ireturn) 1 224 := ⟨by decide +kernel, rfl⟩
theorem d_M_take_0 : am_D y_M_take.2.2.1 0 (.iconst 0) 1 1 := ⟨by decide +kernel, rfl⟩
theorem d_M_take_1 : am_D y_M_take.2.2.1 1 (.istore_n 2) 1 2 := ⟨by decide +kernel, rfl⟩
theorem d_M_take_2 : am_D y_M_take.2.2.1 2 (.iload_n 2) 1 3 := ⟨by decide +kernel, rfl⟩
theorem d_M_take_3 : am_D y_M_take.2.2.1 3 (.iconst 5) 1 4 := ⟨by decide +kernel, rfl⟩
theorem d_M_take_4 : am_D y_M_take.2.2.1 4 (.if_icmp .ge 27) 3 7 := ⟨by decide +kernel, rfl⟩
theorem d_M_take_7 : am_D y_M_take.2.2.1 7 (.aload_n 0) 1 8 := ⟨by decide +kernel, rfl⟩
theorem d_M_take_8 : am_D y_M_take.2.2.1 8 (.getfield 77) 3 11 := ⟨by decide +kernel, rfl⟩
theorem d_M_take_11 : am_D y_M_take.2.2.1 11 (.iload_n 2) 1 12 := ⟨by decide +kernel, rfl⟩
theorem d_M_take_12 : am_D y_M_take.2.2.1 12 (.aload_n 0) 1 13 := ⟨by decide +kernel, rfl⟩
theorem d_M_take_13 : am_D y_M_take.2.2.1 13 (.getfield 74) 3 16 := ⟨by decide +kernel, rfl⟩
theorem d_M_take_16 : am_D y_M_take.2.2.1 16 (.sipush 300) 3 19 := ⟨by decide +kernel, rfl⟩
theorem d_M_take_19 : am_D y_M_take.2.2.1 19 (.iload_n 1) 1 20 := ⟨by decide +kernel, rfl⟩
theorem d_M_take_20 : am_D y_M_take.2.2.1 20 (.imul) 1 21 := ⟨by decide +kernel, rfl⟩
theorem d_M_take_21 : am_D y_M_take.2.2.1 21 (.iload_n 2) 1 22 := ⟨by decide +kernel, rfl⟩
theorem d_M_take_22 : am_D y_M_take.2.2.1 22 (.iadd) 1 23 := ⟨by decide +kernel, rfl⟩
theorem d_M_take_23 : am_D y_M_take.2.2.1 23 (.iaload) 1 24 := ⟨by decide +kernel, rfl⟩
theorem d_M_take_24 : am_D y_M_take.2.2.1 24 (.iastore) 1 25 := ⟨by decide +kernel, rfl⟩
theorem d_M_take_25 : am_D y_M_take.2.2.1 25 (.iinc 2 1) 3 28 := ⟨by decide +kernel, rfl⟩
theorem d_M_take_28 : am_D y_M_take.2.2.1 28 (.goto (-26)) 3 31 := ⟨by decide +kernel, rfl⟩
theorem d_M_take_31 : am_D y_M_take.2.2.1 31 (.aload_n 0) 1 32 := ⟨by decide +kernel, rfl⟩
theorem d_M_take_32 : am_D y_M_take.2.2.1 32 (.getfield 71) 3 35 := ⟨by decide +kernel, rfl⟩
theorem d_M_take_35 : am_D y_M_take.2.2.1 35 (.iload_n 1) 1 36 := ⟨by decide +kernel, rfl⟩
theorem d_M_take_36 : am_D y_M_take.2.2.1 36 (.dup2) 1 37 := ⟨by decide +kernel, rfl⟩
theorem d_M_take_37 : am_D y_M_take.2.2.1 37 (.iaload) 1 38 := ⟨by decide +kernel, rfl⟩
theorem d_M_take_38 : am_D y_M_take.2.2.1 38 (.iconst 1) 1 39 := ⟨by decide +kernel, rfl⟩
theorem d_M_take_39 : am_D y_M_take.2.2.1 39 (.isub) 1 40 := ⟨by decide +kernel, rfl⟩
theorem d_M_take_40 : am_D y_M_take.2.2.1 40 (.iastore) 1 41 := ⟨by decide +kernel, rfl⟩
theorem d_M_take_41 : am_D y_M_take.2.2.1 41 (.sipush 300) 3 44 := ⟨by decide +kernel, rfl⟩
theorem d_M_take_44 : am_D y_M_take.2.2.1 44 (.iload_n 1) 1 45 := ⟨by decide +kernel, rfl⟩
theorem d_M_take_45 : am_D y_M_take.2.2.1 45 (.imul) 1 46 := ⟨by decide +kernel, rfl⟩
theorem d_M_take_46 : am_D y_M_take.2.2.1 46 (.istore_n 2) 1 47 := ⟨by decide +kernel, rfl⟩
theorem d_M_take_47 : am_D y_M_take.2.2.1 47 (.iload_n 2) 1 48 := ⟨by decide +kernel, rfl⟩
theorem d_M_take_48 : am_D y_M_take.2.2.1 48 (.sipush 300) 3 51 := ⟨by decide +kernel, rfl⟩
theorem d_M_take_51 : am_D y_M_take.2.2.1 51 (.iload_n 1) 1 52 := ⟨by decide +kernel, rfl⟩
theorem d_M_take_52 : am_D y_M_take.2.2.1 52 (.imul) 1 53 := ⟨by decide +kernel, rfl⟩
theorem d_M_take_53 : am_D y_M_take.2.2.1 53 (.iconst 5) 1 54 := ⟨by decide +kernel, rfl⟩
theorem d_M_take_54 : am_D y_M_take.2.2.1 54 (.aload_n 0) 1 55 := ⟨by decide +kernel, rfl⟩
theorem d_M_take_55 : am_D y_M_take.2.2.1 55 (.getfield 71) 3 58 := ⟨by decide +kernel, rfl⟩
theorem d_M_take_58 : am_D y_M_take.2.2.1 58 (.iload_n 1) 1 59 := ⟨by decide +kernel, rfl⟩
theorem d_M_take_59 : am_D y_M_take.2.2.1 59 (.iaload) 1 60 := ⟨by decide +kernel, rfl⟩
theorem d_M_take_60 : am_D y_M_take.2.2.1 60 (.imul) 1 61 := ⟨by decide +kernel, rfl⟩
theorem d_M_take_61 : am_D y_M_take.2.2.1 61 (.iadd) 1 62 := ⟨by decide +kernel, rfl⟩
theorem d_M_take_62 : am_D y_M_take.2.2.1 62 (.if_icmp .ge 23) 3 65 := ⟨by decide +kernel, rfl⟩
theorem d_M_take_65 : am_D y_M_take.2.2.1 65 (.aload_n 0) 1 66 := ⟨by decide +kernel, rfl⟩
theorem d_M_take_66 : am_D y_M_take.2.2.1 66 (.getfield 74) 3 69 := ⟨by decide +kernel, rfl⟩
theorem d_M_take_69 : am_D y_M_take.2.2.1 69 (.iload_n 2) 1 70 := ⟨by decide +kernel, rfl⟩
theorem d_M_take_70 : am_D y_M_take.2.2.1 70 (.aload_n 0) 1 71 := ⟨by decide +kernel, rfl⟩
theorem d_M_take_71 : am_D y_M_take.2.2.1 71 (.getfield 74) 3 74 := ⟨by decide +kernel, rfl⟩
theorem d_M_take_74 : am_D y_M_take.2.2.1 74 (.iload_n 2) 1 75 := ⟨by decide +kernel, rfl⟩
theorem d_M_take_75 : am_D y_M_take.2.2.1 75 (.iconst 5) 1 76 := ⟨by decide +kernel, rfl⟩
theorem d_M_take_76 : am_D y_M_take.2.2.1 76 (.iadd) 1 77 := ⟨by decide +kernel, rfl⟩
theorem d_M_take_77 : am_D y_M_take.2.2.1 77 (.iaload) 1 78 := ⟨by decide +kernel, rfl⟩
theorem d_M_take_78 : am_D y_M_take.2.2.1 78 (.iastore) 1 79 := ⟨by decide +kernel, rfl⟩
theorem d_M_take_79 : am_D y_M_take.2.2.1 79 (.iinc 2 1) 3 82 := ⟨by decide +kernel, rfl⟩
theorem d_M_take_82 : am_D y_M_take.2.2.1 82 (.goto (-35)) 3 85 := ⟨by decide +kernel, rfl⟩
theorem d_M_take_85 : am_D y_M_take.2.2.1 85 (.return_) 1 86 := ⟨by decide +kernel, rfl⟩
theorem d_M_put_0 : am_D y_M_put.2.2.1 0 (.aload_n 0) 1 1 := ⟨by decide +kernel, rfl⟩
theorem d_M_put_1 : am_D y_M_put.2.2.1 1 (.iload_n 1) 1 2 := ⟨by decide +kernel, rfl⟩
theorem d_M_put_2 : am_D y_M_put.2.2.1 2 (.iload_n 2) 1 3 := ⟨by decide +kernel, rfl⟩
theorem d_M_put_3 : am_D y_M_put.2.2.1 3 (.invokevirtual 170) 3 6 := ⟨by decide +kernel, rfl⟩
theorem d_M_put_6 : am_D y_M_put.2.2.1 6 (.istore 4) 2 8 := ⟨by decide +kernel, rfl⟩
theorem d_M_put_8 : am_D y_M_put.2.2.1 8 (.iload 4) 2 10 := ⟨by decide +kernel, rfl⟩
theorem d_M_put_10 : am_D y_M_put.2.2.1 10 (.ifCond .ge 27) 3 13 := ⟨by decide +kernel, rfl⟩
theorem d_M_put_13 : am_D y_M_put.2.2.1 13 (.aload_n 0) 1 14 := ⟨by decide +kernel, rfl⟩
theorem d_M_put_14 : am_D y_M_put.2.2.1 14 (.getfield 53) 3 17 := ⟨by decide +kernel, rfl⟩
theorem d_M_put_17 : am_D y_M_put.2.2.1 17 (.iload_n 1) 1 18 := ⟨by decide +kernel, rfl⟩
theorem d_M_put_18 : am_D y_M_put.2.2.1 18 (.iaload) 1 19 := ⟨by decide +kernel, rfl⟩
theorem d_M_put_19 : am_D y_M_put.2.2.1 19 (.aload_n 0) 1 20 := ⟨by decide +kernel, rfl⟩
theorem d_M_put_20 : am_D y_M_put.2.2.1 20 (.getfield 127) 3 23 := ⟨by decide +kernel, rfl⟩
theorem d_M_put_23 : am_D y_M_put.2.2.1 23 (.if_icmp .ne 14) 3 26 := ⟨by decide +kernel, rfl⟩
theorem d_M_put_26 : am_D y_M_put.2.2.1 26 (.aload_n 0) 1 27 := ⟨by decide +kernel, rfl⟩
theorem d_M_put_27 : am_D y_M_put.2.2.1 27 (.iload_n 1) 1 28 := ⟨by decide +kernel, rfl⟩
theorem d_M_put_28 : am_D y_M_put.2.2.1 28 (.iconst 3) 1 29 := ⟨by decide +kernel, rfl⟩
theorem d_M_put_29 : am_D y_M_put.2.2.1 29 (.iload_n 2) 1 30 := ⟨by decide +kernel, rfl⟩
theorem d_M_put_30 : am_D y_M_put.2.2.1 30 (.iconst 0) 1 31 := ⟨by decide +kernel, rfl⟩
theorem d_M_put_31 : am_D y_M_put.2.2.1 31 (.iconst 0) 1 32 := ⟨by decide +kernel, rfl⟩
theorem d_M_put_32 : am_D y_M_put.2.2.1 32 (.iconst 0) 1 33 := ⟨by decide +kernel, rfl⟩
theorem d_M_put_33 : am_D y_M_put.2.2.1 33 (.invokevirtual 148) 3 36 := ⟨by decide +kernel, rfl⟩
theorem d_M_put_36 : am_D y_M_put.2.2.1 36 (.return_) 1 37 := ⟨by decide +kernel, rfl⟩
theorem d_M_put_37 : am_D y_M_put.2.2.1 37 (.iload 4) 2 39 := ⟨by decide +kernel, rfl⟩
theorem d_M_put_39 : am_D y_M_put.2.2.1 39 (.ifCond .lt 10) 3 42 := ⟨by decide +kernel, rfl⟩
theorem d_M_put_42 : am_D y_M_put.2.2.1 42 (.aload_n 0) 1 43 := ⟨by decide +kernel, rfl⟩
theorem d_M_put_43 : am_D y_M_put.2.2.1 43 (.iload_n 1) 1 44 := ⟨by decide +kernel, rfl⟩
theorem d_M_put_44 : am_D y_M_put.2.2.1 44 (.iload 4) 2 46 := ⟨by decide +kernel, rfl⟩
theorem d_M_put_46 : am_D y_M_put.2.2.1 46 (.invokevirtual 183) 3 49 := ⟨by decide +kernel, rfl⟩
theorem d_M_put_49 : am_D y_M_put.2.2.1 49 (.bipush 8) 2 51 := ⟨by decide +kernel, rfl⟩
theorem d_M_put_51 : am_D y_M_put.2.2.1 51 (.iload_n 1) 1 52 := ⟨by decide +kernel, rfl⟩
theorem d_M_put_52 : am_D y_M_put.2.2.1 52 (.imul) 1 53 := ⟨by decide +kernel, rfl⟩
theorem d_M_put_53 : am_D y_M_put.2.2.1 53 (.aload_n 0) 1 54 := ⟨by decide +kernel, rfl⟩
theorem d_M_put_54 : am_D y_M_put.2.2.1 54 (.getfield 53) 3 57 := ⟨by decide +kernel, rfl⟩
theorem d_M_put_57 : am_D y_M_put.2.2.1 57 (.iload_n 1) 1 58 := ⟨by decide +kernel, rfl⟩
theorem d_M_put_58 : am_D y_M_put.2.2.1 58 (.iaload) 1 59 := ⟨by decide +kernel, rfl⟩
theorem d_M_put_59 : am_D y_M_put.2.2.1 59 (.iadd) 1 60 := ⟨by decide +kernel, rfl⟩
theorem d_M_put_60 : am_D y_M_put.2.2.1 60 (.istore 5) 2 62 := ⟨by decide +kernel, rfl⟩
theorem d_M_put_62 : am_D y_M_put.2.2.1 62 (.aload_n 0) 1 63 := ⟨by decide +kernel, rfl⟩
theorem d_M_put_63 : am_D y_M_put.2.2.1 63 (.getfield 56) 3 66 := ⟨by decide +kernel, rfl⟩
theorem d_M_put_66 : am_D y_M_put.2.2.1 66 (.iload 5) 2 68 := ⟨by decide +kernel, rfl⟩
theorem d_M_put_68 : am_D y_M_put.2.2.1 68 (.iload_n 2) 1 69 := ⟨by decide +kernel, rfl⟩
theorem d_M_put_69 : am_D y_M_put.2.2.1 69 (.iastore) 1 70 := ⟨by decide +kernel, rfl⟩
theorem d_M_put_70 : am_D y_M_put.2.2.1 70 (.aload_n 0) 1 71 := ⟨by decide +kernel, rfl⟩
theorem d_M_put_71 : am_D y_M_put.2.2.1 71 (.getfield 59) 3 74 := ⟨by decide +kernel, rfl⟩
theorem d_M_put_74 : am_D y_M_put.2.2.1 74 (.iload 5) 2 76 := ⟨by decide +kernel, rfl⟩
theorem d_M_put_76 : am_D y_M_put.2.2.1 76 (.iload_n 3) 1 77 := ⟨by decide +kernel, rfl⟩
theorem d_M_put_77 : am_D y_M_put.2.2.1 77 (.iastore) 1 78 := ⟨by decide +kernel, rfl⟩
theorem d_M_put_78 : am_D y_M_put.2.2.1 78 (.aload_n 0) 1 79 := ⟨by decide +kernel, rfl⟩
theorem d_M_put_79 : am_D y_M_put.2.2.1 79 (.getfield 62) 3 82 := ⟨by decide +kernel, rfl⟩
theorem d_M_put_82 : am_D y_M_put.2.2.1 82 (.iload 5) 2 84 := ⟨by decide +kernel, rfl⟩
theorem d_M_put_84 : am_D y_M_put.2.2.1 84 (.iconst 0) 1 85 := ⟨by decide +kernel, rfl⟩
theorem d_M_put_85 : am_D y_M_put.2.2.1 85 (.iastore) 1 86 := ⟨by decide +kernel, rfl⟩
theorem d_M_put_86 : am_D y_M_put.2.2.1 86 (.aload_n 0) 1 87 := ⟨by decide +kernel, rfl⟩
theorem d_M_put_87 : am_D y_M_put.2.2.1 87 (.getfield 65) 3 90 := ⟨by decide +kernel, rfl⟩
theorem d_M_put_90 : am_D y_M_put.2.2.1 90 (.iload 5) 2 92 := ⟨by decide +kernel, rfl⟩
theorem d_M_put_92 : am_D y_M_put.2.2.1 92 (.aload_n 0) 1 93 := ⟨by decide +kernel, rfl⟩
theorem d_M_put_93 : am_D y_M_put.2.2.1 93 (.getfield 174) 3 96 := ⟨by decide +kernel, rfl⟩
theorem d_M_put_96 : am_D y_M_put.2.2.1 96 (.iastore) 1 97 := ⟨by decide +kernel, rfl⟩
theorem d_M_put_97 : am_D y_M_put.2.2.1 97 (.aload_n 0) 1 98 := ⟨by decide +kernel, rfl⟩
theorem d_M_put_98 : am_D y_M_put.2.2.1 98 (.getfield 68) 3 101 := ⟨by decide +kernel, rfl⟩
theorem d_M_put_101 : am_D y_M_put.2.2.1 101 (.iload 5) 2 103 := ⟨by decide +kernel, rfl⟩
theorem d_M_put_103 : am_D y_M_put.2.2.1 103 (.aload_n 0) 1 104 := ⟨by decide +kernel, rfl⟩
theorem d_M_put_104 : am_D y_M_put.2.2.1 104 (.getfield 174) 3 107 := ⟨by decide +kernel, rfl⟩
theorem d_M_put_107 : am_D y_M_put.2.2.1 107 (.iastore) 1 108 := ⟨by decide +kernel, rfl⟩
theorem d_M_put_108 : am_D y_M_put.2.2.1 108 (.aload_n 0) 1 109 := ⟨by decide +kernel, rfl⟩
theorem d_M_put_109 : am_D y_M_put.2.2.1 109 (.getfield 53) 3 112 := ⟨by decide +kernel, rfl⟩
theorem d_M_put_112 : am_D y_M_put.2.2.1 112 (.iload_n 1) 1 113 := ⟨by decide +kernel, rfl⟩
theorem d_M_put_113 : am_D y_M_put.2.2.1 113 (.dup2) 1 114 := ⟨by decide +kernel, rfl⟩
theorem d_M_put_114 : am_D y_M_put.2.2.1 114 (.iaload) 1 115 := ⟨by decide +kernel, rfl⟩
theorem d_M_put_115 : am_D y_M_put.2.2.1 115 (.iconst 1) 1 116 := ⟨by decide +kernel, rfl⟩
theorem d_M_put_116 : am_D y_M_put.2.2.1 116 (.iadd) 1 117 := ⟨by decide +kernel, rfl⟩
theorem d_M_put_117 : am_D y_M_put.2.2.1 117 (.iastore) 1 118 := ⟨by decide +kernel, rfl⟩
theorem d_M_put_118 : am_D y_M_put.2.2.1 118 (.return_) 1 119 := ⟨by decide +kernel, rfl⟩
theorem d_M_removeRule_0 : am_D y_M_removeRule.2.2.1 0 (.aload_n 0) 1 1 := ⟨by decide +kernel, rfl⟩
theorem d_M_removeRule_1 : am_D y_M_removeRule.2.2.1 1 (.getfield 53) 3 4 := ⟨by decide +kernel, rfl⟩
theorem d_M_removeRule_4 : am_D y_M_removeRule.2.2.1 4 (.iload_n 1) 1 5 := ⟨by decide +kernel, rfl⟩
theorem d_M_removeRule_5 : am_D y_M_removeRule.2.2.1 5 (.dup2) 1 6 := ⟨by decide +kernel, rfl⟩
theorem d_M_removeRule_6 : am_D y_M_removeRule.2.2.1 6 (.iaload) 1 7 := ⟨by decide +kernel, rfl⟩
theorem d_M_removeRule_7 : am_D y_M_removeRule.2.2.1 7 (.iconst 1) 1 8 := ⟨by decide +kernel, rfl⟩
theorem d_M_removeRule_8 : am_D y_M_removeRule.2.2.1 8 (.isub) 1 9 := ⟨by decide +kernel, rfl⟩
theorem d_M_removeRule_9 : am_D y_M_removeRule.2.2.1 9 (.iastore) 1 10 := ⟨by decide +kernel, rfl⟩
theorem d_M_removeRule_10 : am_D y_M_removeRule.2.2.1 10 (.iload_n 2) 1 11 := ⟨by decide +kernel, rfl⟩
theorem d_M_removeRule_11 : am_D y_M_removeRule.2.2.1 11 (.istore_n 3) 1 12 := ⟨by decide +kernel, rfl⟩
theorem d_M_removeRule_12 : am_D y_M_removeRule.2.2.1 12 (.iload_n 3) 1 13 := ⟨by decide +kernel, rfl⟩
theorem d_M_removeRule_13 : am_D y_M_removeRule.2.2.1 13 (.bipush 8) 2 15 := ⟨by decide +kernel, rfl⟩
theorem d_M_removeRule_15 : am_D y_M_removeRule.2.2.1 15 (.iload_n 1) 1 16 := ⟨by decide +kernel, rfl⟩
theorem d_M_removeRule_16 : am_D y_M_removeRule.2.2.1 16 (.imul) 1 17 := ⟨by decide +kernel, rfl⟩
theorem d_M_removeRule_17 : am_D y_M_removeRule.2.2.1 17 (.aload_n 0) 1 18 := ⟨by decide +kernel, rfl⟩
theorem d_M_removeRule_18 : am_D y_M_removeRule.2.2.1 18 (.getfield 53) 3 21 := ⟨by decide +kernel, rfl⟩
theorem d_M_removeRule_21 : am_D y_M_removeRule.2.2.1 21 (.iload_n 1) 1 22 := ⟨by decide +kernel, rfl⟩
theorem d_M_removeRule_22 : am_D y_M_removeRule.2.2.1 22 (.iaload) 1 23 := ⟨by decide +kernel, rfl⟩
theorem d_M_removeRule_23 : am_D y_M_removeRule.2.2.1 23 (.iadd) 1 24 := ⟨by decide +kernel, rfl⟩
theorem d_M_removeRule_24 : am_D y_M_removeRule.2.2.1 24 (.if_icmp .ge 79) 3 27 := ⟨by decide +kernel, rfl⟩
theorem d_M_removeRule_27 : am_D y_M_removeRule.2.2.1 27 (.aload_n 0) 1 28 := ⟨by decide +kernel, rfl⟩
theorem d_M_removeRule_28 : am_D y_M_removeRule.2.2.1 28 (.getfield 56) 3 31 := ⟨by decide +kernel, rfl⟩
theorem d_M_removeRule_31 : am_D y_M_removeRule.2.2.1 31 (.iload_n 3) 1 32 := ⟨by decide +kernel, rfl⟩
theorem d_M_removeRule_32 : am_D y_M_removeRule.2.2.1 32 (.aload_n 0) 1 33 := ⟨by decide +kernel, rfl⟩
theorem d_M_removeRule_33 : am_D y_M_removeRule.2.2.1 33 (.getfield 56) 3 36 := ⟨by decide +kernel, rfl⟩
theorem d_M_removeRule_36 : am_D y_M_removeRule.2.2.1 36 (.iload_n 3) 1 37 := ⟨by decide +kernel, rfl⟩
theorem d_M_removeRule_37 : am_D y_M_removeRule.2.2.1 37 (.iconst 1) 1 38 := ⟨by decide +kernel, rfl⟩
theorem d_M_removeRule_38 : am_D y_M_removeRule.2.2.1 38 (.iadd) 1 39 := ⟨by decide +kernel, rfl⟩
theorem d_M_removeRule_39 : am_D y_M_removeRule.2.2.1 39 (.iaload) 1 40 := ⟨by decide +kernel, rfl⟩
theorem d_M_removeRule_40 : am_D y_M_removeRule.2.2.1 40 (.iastore) 1 41 := ⟨by decide +kernel, rfl⟩
theorem d_M_removeRule_41 : am_D y_M_removeRule.2.2.1 41 (.aload_n 0) 1 42 := ⟨by decide +kernel, rfl⟩
theorem d_M_removeRule_42 : am_D y_M_removeRule.2.2.1 42 (.getfield 59) 3 45 := ⟨by decide +kernel, rfl⟩
theorem d_M_removeRule_45 : am_D y_M_removeRule.2.2.1 45 (.iload_n 3) 1 46 := ⟨by decide +kernel, rfl⟩
theorem d_M_removeRule_46 : am_D y_M_removeRule.2.2.1 46 (.aload_n 0) 1 47 := ⟨by decide +kernel, rfl⟩
theorem d_M_removeRule_47 : am_D y_M_removeRule.2.2.1 47 (.getfield 59) 3 50 := ⟨by decide +kernel, rfl⟩
theorem d_M_removeRule_50 : am_D y_M_removeRule.2.2.1 50 (.iload_n 3) 1 51 := ⟨by decide +kernel, rfl⟩
theorem d_M_removeRule_51 : am_D y_M_removeRule.2.2.1 51 (.iconst 1) 1 52 := ⟨by decide +kernel, rfl⟩
theorem d_M_removeRule_52 : am_D y_M_removeRule.2.2.1 52 (.iadd) 1 53 := ⟨by decide +kernel, rfl⟩
theorem d_M_removeRule_53 : am_D y_M_removeRule.2.2.1 53 (.iaload) 1 54 := ⟨by decide +kernel, rfl⟩
theorem d_M_removeRule_54 : am_D y_M_removeRule.2.2.1 54 (.iastore) 1 55 := ⟨by decide +kernel, rfl⟩
theorem d_M_removeRule_55 : am_D y_M_removeRule.2.2.1 55 (.aload_n 0) 1 56 := ⟨by decide +kernel, rfl⟩
theorem d_M_removeRule_56 : am_D y_M_removeRule.2.2.1 56 (.getfield 62) 3 59 := ⟨by decide +kernel, rfl⟩
theorem d_M_removeRule_59 : am_D y_M_removeRule.2.2.1 59 (.iload_n 3) 1 60 := ⟨by decide +kernel, rfl⟩
theorem d_M_removeRule_60 : am_D y_M_removeRule.2.2.1 60 (.aload_n 0) 1 61 := ⟨by decide +kernel, rfl⟩
theorem d_M_removeRule_61 : am_D y_M_removeRule.2.2.1 61 (.getfield 62) 3 64 := ⟨by decide +kernel, rfl⟩
theorem d_M_removeRule_64 : am_D y_M_removeRule.2.2.1 64 (.iload_n 3) 1 65 := ⟨by decide +kernel, rfl⟩
theorem d_M_removeRule_65 : am_D y_M_removeRule.2.2.1 65 (.iconst 1) 1 66 := ⟨by decide +kernel, rfl⟩
theorem d_M_removeRule_66 : am_D y_M_removeRule.2.2.1 66 (.iadd) 1 67 := ⟨by decide +kernel, rfl⟩
theorem d_M_removeRule_67 : am_D y_M_removeRule.2.2.1 67 (.iaload) 1 68 := ⟨by decide +kernel, rfl⟩
theorem d_M_removeRule_68 : am_D y_M_removeRule.2.2.1 68 (.iastore) 1 69 := ⟨by decide +kernel, rfl⟩
theorem d_M_removeRule_69 : am_D y_M_removeRule.2.2.1 69 (.aload_n 0) 1 70 := ⟨by decide +kernel, rfl⟩
theorem d_M_removeRule_70 : am_D y_M_removeRule.2.2.1 70 (.getfield 65) 3 73 := ⟨by decide +kernel, rfl⟩
theorem d_M_removeRule_73 : am_D y_M_removeRule.2.2.1 73 (.iload_n 3) 1 74 := ⟨by decide +kernel, rfl⟩
theorem d_M_removeRule_74 : am_D y_M_removeRule.2.2.1 74 (.aload_n 0) 1 75 := ⟨by decide +kernel, rfl⟩
theorem d_M_removeRule_75 : am_D y_M_removeRule.2.2.1 75 (.getfield 65) 3 78 := ⟨by decide +kernel, rfl⟩
theorem d_M_removeRule_78 : am_D y_M_removeRule.2.2.1 78 (.iload_n 3) 1 79 := ⟨by decide +kernel, rfl⟩
theorem d_M_removeRule_79 : am_D y_M_removeRule.2.2.1 79 (.iconst 1) 1 80 := ⟨by decide +kernel, rfl⟩
theorem d_M_removeRule_80 : am_D y_M_removeRule.2.2.1 80 (.iadd) 1 81 := ⟨by decide +kernel, rfl⟩
theorem d_M_removeRule_81 : am_D y_M_removeRule.2.2.1 81 (.iaload) 1 82 := ⟨by decide +kernel, rfl⟩
theorem d_M_removeRule_82 : am_D y_M_removeRule.2.2.1 82 (.iastore) 1 83 := ⟨by decide +kernel, rfl⟩
theorem d_M_removeRule_83 : am_D y_M_removeRule.2.2.1 83 (.aload_n 0) 1 84 := ⟨by decide +kernel, rfl⟩
theorem d_M_removeRule_84 : am_D y_M_removeRule.2.2.1 84 (.getfield 68) 3 87 := ⟨by decide +kernel, rfl⟩
theorem d_M_removeRule_87 : am_D y_M_removeRule.2.2.1 87 (.iload_n 3) 1 88 := ⟨by decide +kernel, rfl⟩
theorem d_M_removeRule_88 : am_D y_M_removeRule.2.2.1 88 (.aload_n 0) 1 89 := ⟨by decide +kernel, rfl⟩
theorem d_M_removeRule_89 : am_D y_M_removeRule.2.2.1 89 (.getfield 68) 3 92 := ⟨by decide +kernel, rfl⟩
theorem d_M_removeRule_92 : am_D y_M_removeRule.2.2.1 92 (.iload_n 3) 1 93 := ⟨by decide +kernel, rfl⟩
theorem d_M_removeRule_93 : am_D y_M_removeRule.2.2.1 93 (.iconst 1) 1 94 := ⟨by decide +kernel, rfl⟩
theorem d_M_removeRule_94 : am_D y_M_removeRule.2.2.1 94 (.iadd) 1 95 := ⟨by decide +kernel, rfl⟩
theorem d_M_removeRule_95 : am_D y_M_removeRule.2.2.1 95 (.iaload) 1 96 := ⟨by decide +kernel, rfl⟩
theorem d_M_removeRule_96 : am_D y_M_removeRule.2.2.1 96 (.iastore) 1 97 := ⟨by decide +kernel, rfl⟩
theorem d_M_removeRule_97 : am_D y_M_removeRule.2.2.1 97 (.iinc 3 1) 3 100 := ⟨by decide +kernel, rfl⟩
theorem d_M_removeRule_100 : am_D y_M_removeRule.2.2.1 100 (.goto (-88)) 3 103 := ⟨by decide +kernel, rfl⟩
theorem d_M_removeRule_103 : am_D y_M_removeRule.2.2.1 103 (.return_) 1 104 := ⟨by decide +kernel, rfl⟩
theorem d_M_probe_0 : am_D y_M_probe.2.2.1 0 (.iconst 0) 1 1 := ⟨by decide +kernel, rfl⟩
theorem d_M_probe_1 : am_D y_M_probe.2.2.1 1 (.istore_n 1) 1 2 := ⟨by decide +kernel, rfl⟩
theorem d_M_probe_2 : am_D y_M_probe.2.2.1 2 (.iload_n 1) 1 3 := ⟨by decide +kernel, rfl⟩
theorem d_M_probe_3 : am_D y_M_probe.2.2.1 3 (.aload_n 0) 1 4 := ⟨by decide +kernel, rfl⟩
theorem d_M_probe_4 : am_D y_M_probe.2.2.1 4 (.getfield 123) 3 7 := ⟨by decide +kernel, rfl⟩
theorem d_M_probe_7 : am_D y_M_probe.2.2.1 7 (.if_icmp .ge 24) 3 10 := ⟨by decide +kernel, rfl⟩
theorem d_M_probe_10 : am_D y_M_probe.2.2.1 10 (.aload_n 0) 1 11 := ⟨by decide +kernel, rfl⟩
theorem d_M_probe_11 : am_D y_M_probe.2.2.1 11 (.getfield 71) 3 14 := ⟨by decide +kernel, rfl⟩
theorem d_M_probe_14 : am_D y_M_probe.2.2.1 14 (.iconst 2) 1 15 := ⟨by decide +kernel, rfl⟩
theorem d_M_probe_15 : am_D y_M_probe.2.2.1 15 (.iload_n 1) 1 16 := ⟨by decide +kernel, rfl⟩
theorem d_M_probe_16 : am_D y_M_probe.2.2.1 16 (.imul) 1 17 := ⟨by decide +kernel, rfl⟩
theorem d_M_probe_17 : am_D y_M_probe.2.2.1 17 (.iaload) 1 18 := ⟨by decide +kernel, rfl⟩
theorem d_M_probe_18 : am_D y_M_probe.2.2.1 18 (.bipush 16) 2 20 := ⟨by decide +kernel, rfl⟩
theorem d_M_probe_20 : am_D y_M_probe.2.2.1 20 (.if_icmp .lt 5) 3 23 := ⟨by decide +kernel, rfl⟩
theorem d_M_probe_23 : am_D y_M_probe.2.2.1 23 (.iconst 0) 1 24 := ⟨by decide +kernel, rfl⟩
theorem d_M_probe_24 : am_D y_M_probe.2.2.1 24 (.ireturn) 1 25 := ⟨by decide +kernel, rfl⟩
theorem d_M_probe_25 : am_D y_M_probe.2.2.1 25 (.iinc 1 1) 3 28 := ⟨by decide +kernel, rfl⟩
theorem d_M_probe_28 : am_D y_M_probe.2.2.1 28 (.goto (-26)) 3 31 := ⟨by decide +kernel, rfl⟩
theorem d_M_probe_31 : am_D y_M_probe.2.2.1 31 (.iconst 0) 1 32 := ⟨by decide +kernel, rfl⟩
theorem d_M_probe_32 : am_D y_M_probe.2.2.1 32 (.istore_n 1) 1 33 := ⟨by decide +kernel, rfl⟩
theorem d_M_probe_33 : am_D y_M_probe.2.2.1 33 (.iload_n 1) 1 34 := ⟨by decide +kernel, rfl⟩
theorem d_M_probe_34 : am_D y_M_probe.2.2.1 34 (.aload_n 0) 1 35 := ⟨by decide +kernel, rfl⟩
theorem d_M_probe_35 : am_D y_M_probe.2.2.1 35 (.getfield 123) 3 38 := ⟨by decide +kernel, rfl⟩
theorem d_M_probe_38 : am_D y_M_probe.2.2.1 38 (.if_icmp .ge 19) 3 41 := ⟨by decide +kernel, rfl⟩
theorem d_M_probe_41 : am_D y_M_probe.2.2.1 41 (.aload_n 0) 1 42 := ⟨by decide +kernel, rfl⟩
theorem d_M_probe_42 : am_D y_M_probe.2.2.1 42 (.iload_n 1) 1 43 := ⟨by decide +kernel, rfl⟩
theorem d_M_probe_43 : am_D y_M_probe.2.2.1 43 (.iconst 5) 1 44 := ⟨by decide +kernel, rfl⟩
theorem d_M_probe_44 : am_D y_M_probe.2.2.1 44 (.iconst 0) 1 45 := ⟨by decide +kernel, rfl⟩
theorem d_M_probe_45 : am_D y_M_probe.2.2.1 45 (.iconst 0) 1 46 := ⟨by decide +kernel, rfl⟩
theorem d_M_probe_46 : am_D y_M_probe.2.2.1 46 (.iconst 0) 1 47 := ⟨by decide +kernel, rfl⟩
theorem d_M_probe_47 : am_D y_M_probe.2.2.1 47 (.iconst 0) 1 48 := ⟨by decide +kernel, rfl⟩
theorem d_M_probe_48 : am_D y_M_probe.2.2.1 48 (.invokevirtual 194) 3 51 := ⟨by decide +kernel, rfl⟩
theorem d_M_probe_51 : am_D y_M_probe.2.2.1 51 (.iinc 1 1) 3 54 := ⟨by decide +kernel, rfl⟩
theorem d_M_probe_54 : am_D y_M_probe.2.2.1 54 (.goto (-21)) 3 57 := ⟨by decide +kernel, rfl⟩
theorem d_M_probe_57 : am_D y_M_probe.2.2.1 57 (.iconst 1) 1 58 := ⟨by decide +kernel, rfl⟩
theorem d_M_probe_58 : am_D y_M_probe.2.2.1 58 (.ireturn) 1 59 := ⟨by decide +kernel, rfl⟩
end
section
theorem d_M_order_0 : am_D y_M_order.2.2.1 0 (.iload_n 2) 1 1 := ⟨by decide +kernel, rfl⟩
theorem d_M_order_1 : am_D y_M_order.2.2.1 1 (.iconst 3) 1 2 := ⟨by decide +kernel, rfl⟩
theorem d_M_order_2 : am_D y_M_order.2.2.1 2 (.if_icmp .ne 16) 3 5 := ⟨by decide +kernel, rfl⟩
theorem d_M_order_5 : am_D y_M_order.2.2.1 5 (.aload_n 0) 1 6 := ⟨by decide +kernel, rfl⟩
theorem d_M_order_6 : am_D y_M_order.2.2.1 6 (.getfield 71) 3 9 := ⟨by decide +kernel, rfl⟩
theorem d_M_order_9 : am_D y_M_order.2.2.1 9 (.iconst 2) 1 10 := ⟨by decide +kernel, rfl⟩
theorem d_M_order_10 : am_D y_M_order.2.2.1 10 (.iload_n 1) 1 11 := ⟨by decide +kernel, rfl⟩
theorem d_M_order_11 : am_D y_M_order.2.2.1 11 (.imul) 1 12 := ⟨by decide +kernel, rfl⟩
theorem d_M_order_12 : am_D y_M_order.2.2.1 12 (.iaload) 1 13 := ⟨by decide +kernel, rfl⟩
theorem d_M_order_13 : am_D y_M_order.2.2.1 13 (.bipush 16) 2 15 := ⟨by decide +kernel, rfl⟩
theorem d_M_order_15 : am_D y_M_order.2.2.1 15 (.if_icmp .ge 18) 3 18 := ⟨by decide +kernel, rfl⟩
theorem d_M_order_18 : am_D y_M_order.2.2.1 18 (.aload_n 0) 1 19 := ⟨by decide +kernel, rfl⟩
theorem d_M_order_19 : am_D y_M_order.2.2.1 19 (.iconst 2) 1 20 := ⟨by decide +kernel, rfl⟩
theorem d_M_order_20 : am_D y_M_order.2.2.1 20 (.iload_n 1) 1 21 := ⟨by decide +kernel, rfl⟩
theorem d_M_order_21 : am_D y_M_order.2.2.1 21 (.imul) 1 22 := ⟨by decide +kernel, rfl⟩
theorem d_M_order_22 : am_D y_M_order.2.2.1 22 (.iload_n 2) 1 23 := ⟨by decide +kernel, rfl⟩
theorem d_M_order_23 : am_D y_M_order.2.2.1 23 (.iload_n 3) 1 24 := ⟨by decide +kernel, rfl⟩
theorem d_M_order_24 : am_D y_M_order.2.2.1 24 (.iload 4) 2 26 := ⟨by decide +kernel, rfl⟩
theorem d_M_order_26 : am_D y_M_order.2.2.1 26 (.iload 5) 2 28 := ⟨by decide +kernel, rfl⟩
theorem d_M_order_28 : am_D y_M_order.2.2.1 28 (.iload 6) 2 30 := ⟨by decide +kernel, rfl⟩
theorem d_M_order_30 : am_D y_M_order.2.2.1 30 (.invokevirtual 155) 3 33 := ⟨by decide +kernel, rfl⟩
theorem d_M_order_33 : am_D y_M_order.2.2.1 33 (.return_) 1 34 := ⟨by decide +kernel, rfl⟩
theorem d_M_tick_0 : am_D y_M_tick.2.2.1 0 (.aload_n 0) 1 1 := ⟨by decide +kernel, rfl⟩
theorem d_M_tick_1 : am_D y_M_tick.2.2.1 1 (.dup) 1 2 := ⟨by decide +kernel, rfl⟩
theorem d_M_tick_2 : am_D y_M_tick.2.2.1 2 (.getfield 174) 3 5 := ⟨by decide +kernel, rfl⟩
theorem d_M_tick_5 : am_D y_M_tick.2.2.1 5 (.iconst 1) 1 6 := ⟨by decide +kernel, rfl⟩
theorem d_M_tick_6 : am_D y_M_tick.2.2.1 6 (.iadd) 1 7 := ⟨by decide +kernel, rfl⟩
theorem d_M_tick_7 : am_D y_M_tick.2.2.1 7 (.putfield 174) 3 10 := ⟨by decide +kernel, rfl⟩
theorem d_M_tick_10 : am_D y_M_tick.2.2.1 10 (.iconst 0) 1 11 := ⟨by decide +kernel, rfl⟩
theorem d_M_tick_11 : am_D y_M_tick.2.2.1 11 (.istore_n 1) 1 12 := ⟨by decide +kernel, rfl⟩
theorem d_M_tick_12 : am_D y_M_tick.2.2.1 12 (.iconst 0) 1 13 := ⟨by decide +kernel, rfl⟩
theorem d_M_tick_13 : am_D y_M_tick.2.2.1 13 (.istore_n 2) 1 14 := ⟨by decide +kernel, rfl⟩
theorem d_M_tick_14 : am_D y_M_tick.2.2.1 14 (.iload_n 2) 1 15 := ⟨by decide +kernel, rfl⟩
theorem d_M_tick_15 : am_D y_M_tick.2.2.1 15 (.aload_n 0) 1 16 := ⟨by decide +kernel, rfl⟩
theorem d_M_tick_16 : am_D y_M_tick.2.2.1 16 (.getfield 123) 3 19 := ⟨by decide +kernel, rfl⟩
theorem d_M_tick_19 : am_D y_M_tick.2.2.1 19 (.if_icmp .ge 100) 3 22 := ⟨by decide +kernel, rfl⟩
theorem d_M_tick_22 : am_D y_M_tick.2.2.1 22 (.bipush 8) 2 24 := ⟨by decide +kernel, rfl⟩
theorem d_M_tick_24 : am_D y_M_tick.2.2.1 24 (.iload_n 2) 1 25 := ⟨by decide +kernel, rfl⟩
theorem d_M_tick_25 : am_D y_M_tick.2.2.1 25 (.imul) 1 26 := ⟨by decide +kernel, rfl⟩
theorem d_M_tick_26 : am_D y_M_tick.2.2.1 26 (.istore_n 3) 1 27 := ⟨by decide +kernel, rfl⟩
theorem d_M_tick_27 : am_D y_M_tick.2.2.1 27 (.iload_n 3) 1 28 := ⟨by decide +kernel, rfl⟩
theorem d_M_tick_28 : am_D y_M_tick.2.2.1 28 (.bipush 8) 2 30 := ⟨by decide +kernel, rfl⟩
theorem d_M_tick_30 : am_D y_M_tick.2.2.1 30 (.iload_n 2) 1 31 := ⟨by decide +kernel, rfl⟩
theorem d_M_tick_31 : am_D y_M_tick.2.2.1 31 (.imul) 1 32 := ⟨by decide +kernel, rfl⟩
theorem d_M_tick_32 : am_D y_M_tick.2.2.1 32 (.aload_n 0) 1 33 := ⟨by decide +kernel, rfl⟩
theorem d_M_tick_33 : am_D y_M_tick.2.2.1 33 (.getfield 53) 3 36 := ⟨by decide +kernel, rfl⟩
theorem d_M_tick_36 : am_D y_M_tick.2.2.1 36 (.iload_n 2) 1 37 := ⟨by decide +kernel, rfl⟩
theorem d_M_tick_37 : am_D y_M_tick.2.2.1 37 (.iaload) 1 38 := ⟨by decide +kernel, rfl⟩
theorem d_M_tick_38 : am_D y_M_tick.2.2.1 38 (.iadd) 1 39 := ⟨by decide +kernel, rfl⟩
theorem d_M_tick_39 : am_D y_M_tick.2.2.1 39 (.if_icmp .ge 74) 3 42 := ⟨by decide +kernel, rfl⟩
theorem d_M_tick_42 : am_D y_M_tick.2.2.1 42 (.aload_n 0) 1 43 := ⟨by decide +kernel, rfl⟩
theorem d_M_tick_43 : am_D y_M_tick.2.2.1 43 (.getfield 174) 3 46 := ⟨by decide +kernel, rfl⟩
theorem d_M_tick_46 : am_D y_M_tick.2.2.1 46 (.aload_n 0) 1 47 := ⟨by decide +kernel, rfl⟩
theorem d_M_tick_47 : am_D y_M_tick.2.2.1 47 (.getfield 68) 3 50 := ⟨by decide +kernel, rfl⟩
theorem d_M_tick_50 : am_D y_M_tick.2.2.1 50 (.iload_n 3) 1 51 := ⟨by decide +kernel, rfl⟩
theorem d_M_tick_51 : am_D y_M_tick.2.2.1 51 (.iaload) 1 52 := ⟨by decide +kernel, rfl⟩
theorem d_M_tick_52 : am_D y_M_tick.2.2.1 52 (.isub) 1 53 := ⟨by decide +kernel, rfl⟩
theorem d_M_tick_53 : am_D y_M_tick.2.2.1 53 (.aload_n 0) 1 54 := ⟨by decide +kernel, rfl⟩
theorem d_M_tick_54 : am_D y_M_tick.2.2.1 54 (.getfield 130) 3 57 := ⟨by decide +kernel, rfl⟩
theorem d_M_tick_57 : am_D y_M_tick.2.2.1 57 (.if_icmp .ge 23) 3 60 := ⟨by decide +kernel, rfl⟩
theorem d_M_tick_60 : am_D y_M_tick.2.2.1 60 (.aload_n 0) 1 61 := ⟨by decide +kernel, rfl⟩
theorem d_M_tick_61 : am_D y_M_tick.2.2.1 61 (.getfield 174) 3 64 := ⟨by decide +kernel, rfl⟩
theorem d_M_tick_64 : am_D y_M_tick.2.2.1 64 (.aload_n 0) 1 65 := ⟨by decide +kernel, rfl⟩
theorem d_M_tick_65 : am_D y_M_tick.2.2.1 65 (.getfield 65) 3 68 := ⟨by decide +kernel, rfl⟩
theorem d_M_tick_68 : am_D y_M_tick.2.2.1 68 (.iload_n 3) 1 69 := ⟨by decide +kernel, rfl⟩
theorem d_M_tick_69 : am_D y_M_tick.2.2.1 69 (.iaload) 1 70 := ⟨by decide +kernel, rfl⟩
theorem d_M_tick_70 : am_D y_M_tick.2.2.1 70 (.isub) 1 71 := ⟨by decide +kernel, rfl⟩
theorem d_M_tick_71 : am_D y_M_tick.2.2.1 71 (.iconst 4) 1 72 := ⟨by decide +kernel, rfl⟩
theorem d_M_tick_72 : am_D y_M_tick.2.2.1 72 (.aload_n 0) 1 73 := ⟨by decide +kernel, rfl⟩
theorem d_M_tick_73 : am_D y_M_tick.2.2.1 73 (.getfield 130) 3 76 := ⟨by decide +kernel, rfl⟩
theorem d_M_tick_76 : am_D y_M_tick.2.2.1 76 (.imul) 1 77 := ⟨by decide +kernel, rfl⟩
theorem d_M_tick_77 : am_D y_M_tick.2.2.1 77 (.if_icmp .lt 30) 3 80 := ⟨by decide +kernel, rfl⟩
theorem d_M_tick_80 : am_D y_M_tick.2.2.1 80 (.aload_n 0) 1 81 := ⟨by decide +kernel, rfl⟩
theorem d_M_tick_81 : am_D y_M_tick.2.2.1 81 (.iload_n 2) 1 82 := ⟨by decide +kernel, rfl⟩
theorem d_M_tick_82 : am_D y_M_tick.2.2.1 82 (.iconst 4) 1 83 := ⟨by decide +kernel, rfl⟩
theorem d_M_tick_83 : am_D y_M_tick.2.2.1 83 (.aload_n 0) 1 84 := ⟨by decide +kernel, rfl⟩
theorem d_M_tick_84 : am_D y_M_tick.2.2.1 84 (.getfield 56) 3 87 := ⟨by decide +kernel, rfl⟩
theorem d_M_tick_87 : am_D y_M_tick.2.2.1 87 (.iload_n 3) 1 88 := ⟨by decide +kernel, rfl⟩
theorem d_M_tick_88 : am_D y_M_tick.2.2.1 88 (.iaload) 1 89 := ⟨by decide +kernel, rfl⟩
theorem d_M_tick_89 : am_D y_M_tick.2.2.1 89 (.iconst 0) 1 90 := ⟨by decide +kernel, rfl⟩
theorem d_M_tick_90 : am_D y_M_tick.2.2.1 90 (.iconst 0) 1 91 := ⟨by decide +kernel, rfl⟩
theorem d_M_tick_91 : am_D y_M_tick.2.2.1 91 (.iconst 0) 1 92 := ⟨by decide +kernel, rfl⟩
theorem d_M_tick_92 : am_D y_M_tick.2.2.1 92 (.invokevirtual 148) 3 95 := ⟨by decide +kernel, rfl⟩
theorem d_M_tick_95 : am_D y_M_tick.2.2.1 95 (.aload_n 0) 1 96 := ⟨by decide +kernel, rfl⟩
theorem d_M_tick_96 : am_D y_M_tick.2.2.1 96 (.iload_n 2) 1 97 := ⟨by decide +kernel, rfl⟩
theorem d_M_tick_97 : am_D y_M_tick.2.2.1 97 (.iload_n 3) 1 98 := ⟨by decide +kernel, rfl⟩
theorem d_M_tick_98 : am_D y_M_tick.2.2.1 98 (.invokevirtual 183) 3 101 := ⟨by decide +kernel, rfl⟩
theorem d_M_tick_101 : am_D y_M_tick.2.2.1 101 (.iinc 1 1) 3 104 := ⟨by decide +kernel, rfl⟩
theorem d_M_tick_104 : am_D y_M_tick.2.2.1 104 (.goto (-77)) 3 107 := ⟨by decide +kernel, rfl⟩
theorem d_M_tick_107 : am_D y_M_tick.2.2.1 107 (.iinc 3 1) 3 110 := ⟨by decide +kernel, rfl⟩
theorem d_M_tick_110 : am_D y_M_tick.2.2.1 110 (.goto (-83)) 3 113 := ⟨by decide +kernel, rfl⟩
theorem d_M_tick_113 : am_D y_M_tick.2.2.1 113 (.iinc 2 1) 3 116 := ⟨by decide +kernel, rfl⟩
theorem d_M_tick_116 : am_D y_M_tick.2.2.1 116 (.goto (-102)) 3 119 := ⟨by decide +kernel, rfl⟩
theorem d_M_tick_119 : am_D y_M_tick.2.2.1 119 (.iload_n 1) 1 120 := ⟨by decide +kernel, rfl⟩
theorem d_M_tick_120 : am_D y_M_tick.2.2.1 120 (.ireturn) 1 121 := ⟨by decide +kernel, rfl⟩
theorem d_M_report_0 : am_D y_M_report.2.2.1 0 (.aload_n 0) 1 1 := ⟨by decide +kernel, rfl⟩
theorem d_M_report_1 : am_D y_M_report.2.2.1 1 (.iload_n 1) 1 2 := ⟨by decide +kernel, rfl⟩
theorem d_M_report_2 : am_D y_M_report.2.2.1 2 (.invokevirtual 133) 3 5 := ⟨by decide +kernel, rfl⟩
theorem d_M_report_5 : am_D y_M_report.2.2.1 5 (.ifCond .eq 16) 3 8 := ⟨by decide +kernel, rfl⟩
theorem d_M_report_8 : am_D y_M_report.2.2.1 8 (.aload_n 0) 1 9 := ⟨by decide +kernel, rfl⟩
theorem d_M_report_9 : am_D y_M_report.2.2.1 9 (.getfield 71) 3 12 := ⟨by decide +kernel, rfl⟩
theorem d_M_report_12 : am_D y_M_report.2.2.1 12 (.iconst 2) 1 13 := ⟨by decide +kernel, rfl⟩
theorem d_M_report_13 : am_D y_M_report.2.2.1 13 (.iload_n 1) 1 14 := ⟨by decide +kernel, rfl⟩
theorem d_M_report_14 : am_D y_M_report.2.2.1 14 (.imul) 1 15 := ⟨by decide +kernel, rfl⟩
theorem d_M_report_15 : am_D y_M_report.2.2.1 15 (.iconst 1) 1 16 := ⟨by decide +kernel, rfl⟩
theorem d_M_report_16 : am_D y_M_report.2.2.1 16 (.iadd) 1 17 := ⟨by decide +kernel, rfl⟩
theorem d_M_report_17 : am_D y_M_report.2.2.1 17 (.iaload) 1 18 := ⟨by decide +kernel, rfl⟩
theorem d_M_report_18 : am_D y_M_report.2.2.1 18 (.ifCond .ne 5) 3 21 := ⟨by decide +kernel, rfl⟩
theorem d_M_report_21 : am_D y_M_report.2.2.1 21 (.iconst (-1)) 1 22 := ⟨by decide +kernel, rfl⟩
theorem d_M_report_22 : am_D y_M_report.2.2.1 22 (.ireturn) 1 23 := ⟨by decide +kernel, rfl⟩
theorem d_M_report_23 : am_D y_M_report.2.2.1 23 (.aload_n 0) 1 24 := ⟨by decide +kernel, rfl⟩
theorem d_M_report_24 : am_D y_M_report.2.2.1 24 (.iconst 2) 1 25 := ⟨by decide +kernel, rfl⟩
theorem d_M_report_25 : am_D y_M_report.2.2.1 25 (.iload_n 1) 1 26 := ⟨by decide +kernel, rfl⟩
theorem d_M_report_26 : am_D y_M_report.2.2.1 26 (.imul) 1 27 := ⟨by decide +kernel, rfl⟩
theorem d_M_report_27 : am_D y_M_report.2.2.1 27 (.iconst 1) 1 28 := ⟨by decide +kernel, rfl⟩
theorem d_M_report_28 : am_D y_M_report.2.2.1 28 (.iadd) 1 29 := ⟨by decide +kernel, rfl⟩
theorem d_M_report_29 : am_D y_M_report.2.2.1 29 (.invokevirtual 186) 3 32 := ⟨by decide +kernel, rfl⟩
theorem d_M_report_32 : am_D y_M_report.2.2.1 32 (.aload_n 0) 1 33 := ⟨by decide +kernel, rfl⟩
theorem d_M_report_33 : am_D y_M_report.2.2.1 33 (.getfield 77) 3 36 := ⟨by decide +kernel, rfl⟩
theorem d_M_report_36 : am_D y_M_report.2.2.1 36 (.iconst 0) 1 37 := ⟨by decide +kernel, rfl⟩
theorem d_M_report_37 : am_D y_M_report.2.2.1 37 (.iaload) 1 38 := ⟨by decide +kernel, rfl⟩
theorem d_M_report_38 : am_D y_M_report.2.2.1 38 (.istore_n 2) 1 39 := ⟨by decide +kernel, rfl⟩
theorem d_M_report_39 : am_D y_M_report.2.2.1 39 (.aload_n 0) 1 40 := ⟨by decide +kernel, rfl⟩
theorem d_M_report_40 : am_D y_M_report.2.2.1 40 (.getfield 77) 3 43 := ⟨by decide +kernel, rfl⟩
theorem d_M_report_43 : am_D y_M_report.2.2.1 43 (.iconst 1) 1 44 := ⟨by decide +kernel, rfl⟩
theorem d_M_report_44 : am_D y_M_report.2.2.1 44 (.iaload) 1 45 := ⟨by decide +kernel, rfl⟩
theorem d_M_report_45 : am_D y_M_report.2.2.1 45 (.istore_n 3) 1 46 := ⟨by decide +kernel, rfl⟩
theorem d_M_report_46 : am_D y_M_report.2.2.1 46 (.iload_n 2) 1 47 := ⟨by decide +kernel, rfl⟩
theorem d_M_report_47 : am_D y_M_report.2.2.1 47 (.ifCond .ne 30) 3 50 := ⟨by decide +kernel, rfl⟩
theorem d_M_report_50 : am_D y_M_report.2.2.1 50 (.aload_n 0) 1 51 := ⟨by decide +kernel, rfl⟩
theorem d_M_report_51 : am_D y_M_report.2.2.1 51 (.iload_n 1) 1 52 := ⟨by decide +kernel, rfl⟩
theorem d_M_report_52 : am_D y_M_report.2.2.1 52 (.iload_n 3) 1 53 := ⟨by decide +kernel, rfl⟩
theorem d_M_report_53 : am_D y_M_report.2.2.1 53 (.aload_n 0) 1 54 := ⟨by decide +kernel, rfl⟩
theorem d_M_report_54 : am_D y_M_report.2.2.1 54 (.getfield 77) 3 57 := ⟨by decide +kernel, rfl⟩
theorem d_M_report_57 : am_D y_M_report.2.2.1 57 (.iconst 2) 1 58 := ⟨by decide +kernel, rfl⟩
theorem d_M_report_58 : am_D y_M_report.2.2.1 58 (.iaload) 1 59 := ⟨by decide +kernel, rfl⟩
theorem d_M_report_59 : am_D y_M_report.2.2.1 59 (.aload_n 0) 1 60 := ⟨by decide +kernel, rfl⟩
theorem d_M_report_60 : am_D y_M_report.2.2.1 60 (.getfield 77) 3 63 := ⟨by decide +kernel, rfl⟩
theorem d_M_report_63 : am_D y_M_report.2.2.1 63 (.iconst 3) 1 64 := ⟨by decide +kernel, rfl⟩
theorem d_M_report_64 : am_D y_M_report.2.2.1 64 (.iaload) 1 65 := ⟨by decide +kernel, rfl⟩
theorem d_M_report_65 : am_D y_M_report.2.2.1 65 (.aload_n 0) 1 66 := ⟨by decide +kernel, rfl⟩
theorem d_M_report_66 : am_D y_M_report.2.2.1 66 (.getfield 77) 3 69 := ⟨by decide +kernel, rfl⟩
theorem d_M_report_69 : am_D y_M_report.2.2.1 69 (.iconst 4) 1 70 := ⟨by decide +kernel, rfl⟩
theorem d_M_report_70 : am_D y_M_report.2.2.1 70 (.iaload) 1 71 := ⟨by decide +kernel, rfl⟩
theorem d_M_report_71 : am_D y_M_report.2.2.1 71 (.invokevirtual 215) 3 74 := ⟨by decide +kernel, rfl⟩
theorem d_M_report_74 : am_D y_M_report.2.2.1 74 (.goto 138) 3 77 := ⟨by decide +kernel, rfl⟩
theorem d_M_report_77 : am_D y_M_report.2.2.1 77 (.iload_n 2) 1 78 := ⟨by decide +kernel, rfl⟩
theorem d_M_report_78 : am_D y_M_report.2.2.1 78 (.iconst 1) 1 79 := ⟨by decide +kernel, rfl⟩
theorem d_M_report_79 : am_D y_M_report.2.2.1 79 (.if_icmp .ne 21) 3 82 := ⟨by decide +kernel, rfl⟩
theorem d_M_report_82 : am_D y_M_report.2.2.1 82 (.aload_n 0) 1 83 := ⟨by decide +kernel, rfl⟩
theorem d_M_report_83 : am_D y_M_report.2.2.1 83 (.iconst 4) 1 84 := ⟨by decide +kernel, rfl⟩
theorem d_M_report_84 : am_D y_M_report.2.2.1 84 (.iload_n 1) 1 85 := ⟨by decide +kernel, rfl⟩
theorem d_M_report_85 : am_D y_M_report.2.2.1 85 (.imul) 1 86 := ⟨by decide +kernel, rfl⟩
theorem d_M_report_86 : am_D y_M_report.2.2.1 86 (.iload_n 3) 1 87 := ⟨by decide +kernel, rfl⟩
theorem d_M_report_87 : am_D y_M_report.2.2.1 87 (.iadd) 1 88 := ⟨by decide +kernel, rfl⟩
theorem d_M_report_88 : am_D y_M_report.2.2.1 88 (.aload_n 0) 1 89 := ⟨by decide +kernel, rfl⟩
theorem d_M_report_89 : am_D y_M_report.2.2.1 89 (.getfield 77) 3 92 := ⟨by decide +kernel, rfl⟩
theorem d_M_report_92 : am_D y_M_report.2.2.1 92 (.iconst 2) 1 93 := ⟨by decide +kernel, rfl⟩
theorem d_M_report_93 : am_D y_M_report.2.2.1 93 (.iaload) 1 94 := ⟨by decide +kernel, rfl⟩
theorem d_M_report_94 : am_D y_M_report.2.2.1 94 (.invokevirtual 218) 3 97 := ⟨by decide +kernel, rfl⟩
theorem d_M_report_97 : am_D y_M_report.2.2.1 97 (.goto 115) 3 100 := ⟨by decide +kernel, rfl⟩
theorem d_M_report_100 : am_D y_M_report.2.2.1 100 (.iload_n 2) 1 101 := ⟨by decide +kernel, rfl⟩
theorem d_M_report_101 : am_D y_M_report.2.2.1 101 (.iconst 2) 1 102 := ⟨by decide +kernel, rfl⟩
theorem d_M_report_102 : am_D y_M_report.2.2.1 102 (.if_icmp .ne 11) 3 105 := ⟨by decide +kernel, rfl⟩
theorem d_M_report_105 : am_D y_M_report.2.2.1 105 (.aload_n 0) 1 106 := ⟨by decide +kernel, rfl⟩
theorem d_M_report_106 : am_D y_M_report.2.2.1 106 (.iload_n 3) 1 107 := ⟨by decide +kernel, rfl⟩
theorem d_M_report_107 : am_D y_M_report.2.2.1 107 (.invokevirtual 221) 3 110 := ⟨by decide +kernel, rfl⟩
theorem d_M_report_110 : am_D y_M_report.2.2.1 110 (.goto 102) 3 113 := ⟨by decide +kernel, rfl⟩
theorem d_M_report_113 : am_D y_M_report.2.2.1 113 (.iload_n 2) 1 114 := ⟨by decide +kernel, rfl⟩
theorem d_M_report_114 : am_D y_M_report.2.2.1 114 (.iconst 5) 1 115 := ⟨by decide +kernel, rfl⟩
theorem d_M_report_115 : am_D y_M_report.2.2.1 115 (.if_icmp .ne 15) 3 118 := ⟨by decide +kernel, rfl⟩
theorem d_M_report_118 : am_D y_M_report.2.2.1 118 (.aload_n 0) 1 119 := ⟨by decide +kernel, rfl⟩
theorem d_M_report_119 : am_D y_M_report.2.2.1 119 (.iconst 4) 1 120 := ⟨by decide +kernel, rfl⟩
theorem d_M_report_120 : am_D y_M_report.2.2.1 120 (.iload_n 1) 1 121 := ⟨by decide +kernel, rfl⟩
theorem d_M_report_121 : am_D y_M_report.2.2.1 121 (.imul) 1 122 := ⟨by decide +kernel, rfl⟩
theorem d_M_report_122 : am_D y_M_report.2.2.1 122 (.iload_n 3) 1 123 := ⟨by decide +kernel, rfl⟩
theorem d_M_report_123 : am_D y_M_report.2.2.1 123 (.iadd) 1 124 := ⟨by decide +kernel, rfl⟩
theorem d_M_report_124 : am_D y_M_report.2.2.1 124 (.invokevirtual 224) 3 127 := ⟨by decide +kernel, rfl⟩
theorem d_M_report_127 : am_D y_M_report.2.2.1 127 (.goto 85) 3 130 := ⟨by decide +kernel, rfl⟩
theorem d_M_report_130 : am_D y_M_report.2.2.1 130 (.aload_n 0) 1 131 := ⟨by decide +kernel, rfl⟩
theorem d_M_report_131 : am_D y_M_report.2.2.1 131 (.iload_n 3) 1 132 := ⟨by decide +kernel, rfl⟩
theorem d_M_report_132 : am_D y_M_report.2.2.1 132 (.invokevirtual 227) 3 135 := ⟨by decide +kernel, rfl⟩
theorem d_M_report_135 : am_D y_M_report.2.2.1 135 (.istore 4) 2 137 := ⟨by decide +kernel, rfl⟩
theorem d_M_report_137 : am_D y_M_report.2.2.1 137 (.iload 4) 2 139 := ⟨by decide +kernel, rfl⟩
theorem d_M_report_139 : am_D y_M_report.2.2.1 139 (.ifCond .lt 36) 3 142 := ⟨by decide +kernel, rfl⟩
theorem d_M_report_142 : am_D y_M_report.2.2.1 142 (.iload_n 2) 1 143 := ⟨by decide +kernel, rfl⟩
theorem d_M_report_143 : am_D y_M_report.2.2.1 143 (.iconst 3) 1 144 := ⟨by decide +kernel, rfl⟩
theorem d_M_report_144 : am_D y_M_report.2.2.1 144 (.if_icmp .ne 31) 3 147 := ⟨by decide +kernel, rfl⟩
theorem d_M_report_147 : am_D y_M_report.2.2.1 147 (.aload_n 0) 1 148 := ⟨by decide +kernel, rfl⟩
theorem d_M_report_148 : am_D y_M_report.2.2.1 148 (.getfield 92) 3 151 := ⟨by decide +kernel, rfl⟩
theorem d_M_report_151 : am_D y_M_report.2.2.1 151 (.iload 4) 2 153 := ⟨by decide +kernel, rfl⟩
theorem d_M_report_153 : am_D y_M_report.2.2.1 153 (.iaload) 1 154 := ⟨by decide +kernel, rfl⟩
theorem d_M_report_154 : am_D y_M_report.2.2.1 154 (.iconst 2) 1 155 := ⟨by decide +kernel, rfl⟩
theorem d_M_report_155 : am_D y_M_report.2.2.1 155 (.if_icmp .ne 20) 3 158 := ⟨by decide +kernel, rfl⟩
theorem d_M_report_158 : am_D y_M_report.2.2.1 158 (.aload_n 0) 1 159 := ⟨by decide +kernel, rfl⟩
theorem d_M_report_159 : am_D y_M_report.2.2.1 159 (.getfield 110) 3 162 := ⟨by decide +kernel, rfl⟩
theorem d_M_report_162 : am_D y_M_report.2.2.1 162 (.iload 4) 2 164 := ⟨by decide +kernel, rfl⟩
theorem d_M_report_164 : am_D y_M_report.2.2.1 164 (.iconst 0) 1 165 := ⟨by decide +kernel, rfl⟩
theorem d_M_report_165 : am_D y_M_report.2.2.1 165 (.bastore) 1 166 := ⟨by decide +kernel, rfl⟩
theorem d_M_report_166 : am_D y_M_report.2.2.1 166 (.aload_n 0) 1 167 := ⟨by decide +kernel, rfl⟩
theorem d_M_report_167 : am_D y_M_report.2.2.1 167 (.iload 4) 2 169 := ⟨by decide +kernel, rfl⟩
theorem d_M_report_169 : am_D y_M_report.2.2.1 169 (.invokevirtual 231) 3 172 := ⟨by decide +kernel, rfl⟩
theorem d_M_report_172 : am_D y_M_report.2.2.1 172 (.goto 40) 3 175 := ⟨by decide +kernel, rfl⟩
theorem d_M_report_175 : am_D y_M_report.2.2.1 175 (.iload 4) 2 177 := ⟨by decide +kernel, rfl⟩
theorem d_M_report_177 : am_D y_M_report.2.2.1 177 (.ifCond .lt 35) 3 180 := ⟨by decide +kernel, rfl⟩
theorem d_M_report_180 : am_D y_M_report.2.2.1 180 (.iload_n 2) 1 181 := ⟨by decide +kernel, rfl⟩
theorem d_M_report_181 : am_D y_M_report.2.2.1 181 (.iconst 4) 1 182 := ⟨by decide +kernel, rfl⟩
theorem d_M_report_182 : am_D y_M_report.2.2.1 182 (.if_icmp .ne 30) 3 185 := ⟨by decide +kernel, rfl⟩
theorem d_M_report_185 : am_D y_M_report.2.2.1 185 (.aload_n 0) 1 186 := ⟨by decide +kernel, rfl⟩
theorem d_M_report_186 : am_D y_M_report.2.2.1 186 (.getfield 92) 3 189 := ⟨by decide +kernel, rfl⟩
theorem d_M_report_189 : am_D y_M_report.2.2.1 189 (.iload 4) 2 191 := ⟨by decide +kernel, rfl⟩
theorem d_M_report_191 : am_D y_M_report.2.2.1 191 (.iaload) 1 192 := ⟨by decide +kernel, rfl⟩
theorem d_M_report_192 : am_D y_M_report.2.2.1 192 (.iconst 1) 1 193 := ⟨by decide +kernel, rfl⟩
theorem d_M_report_193 : am_D y_M_report.2.2.1 193 (.if_icmp .eq 19) 3 196 := ⟨by decide +kernel, rfl⟩
theorem d_M_report_196 : am_D y_M_report.2.2.1 196 (.aload_n 0) 1 197 := ⟨by decide +kernel, rfl⟩
theorem d_M_report_197 : am_D y_M_report.2.2.1 197 (.iload 4) 2 199 := ⟨by decide +kernel, rfl⟩
theorem d_M_report_199 : am_D y_M_report.2.2.1 199 (.iload_n 1) 1 200 := ⟨by decide +kernel, rfl⟩
theorem d_M_report_200 : am_D y_M_report.2.2.1 200 (.invokevirtual 234) 3 203 := ⟨by decide +kernel, rfl⟩
theorem d_M_report_203 : am_D y_M_report.2.2.1 203 (.ifCond .eq 9) 3 206 := ⟨by decide +kernel, rfl⟩
theorem d_M_report_206 : am_D y_M_report.2.2.1 206 (.aload_n 0) 1 207 := ⟨by decide +kernel, rfl⟩
theorem d_M_report_207 : am_D y_M_report.2.2.1 207 (.iload 4) 2 209 := ⟨by decide +kernel, rfl⟩
theorem d_M_report_209 : am_D y_M_report.2.2.1 209 (.invokevirtual 231) 3 212 := ⟨by decide +kernel, rfl⟩
theorem d_M_report_212 : am_D y_M_report.2.2.1 212 (.iload_n 2) 1 213 := ⟨by decide +kernel, rfl⟩
theorem d_M_report_213 : am_D y_M_report.2.2.1 213 (.ireturn) 1 214 := ⟨by decide +kernel, rfl⟩
theorem d_M_missed_0 : am_D y_M_missed.2.2.1 0 (.iload_n 2) 1 1 := ⟨by decide +kernel, rfl⟩
theorem d_M_missed_1 : am_D y_M_missed.2.2.1 1 (.iconst 4) 1 2 := ⟨by decide +kernel, rfl⟩
theorem d_M_missed_2 : am_D y_M_missed.2.2.1 2 (.if_icmp .eq 29) 3 5 := ⟨by decide +kernel, rfl⟩
theorem d_M_missed_5 : am_D y_M_missed.2.2.1 5 (.aload_n 0) 1 6 := ⟨by decide +kernel, rfl⟩
theorem d_M_missed_6 : am_D y_M_missed.2.2.1 6 (.getfield 83) 3 9 := ⟨by decide +kernel, rfl⟩
theorem d_M_missed_9 : am_D y_M_missed.2.2.1 9 (.iconst 4) 1 10 := ⟨by decide +kernel, rfl⟩
theorem d_M_missed_10 : am_D y_M_missed.2.2.1 10 (.iload_n 1) 1 11 := ⟨by decide +kernel, rfl⟩
theorem d_M_missed_11 : am_D y_M_missed.2.2.1 11 (.imul) 1 12 := ⟨by decide +kernel, rfl⟩
theorem d_M_missed_12 : am_D y_M_missed.2.2.1 12 (.iload_n 2) 1 13 := ⟨by decide +kernel, rfl⟩
theorem d_M_missed_13 : am_D y_M_missed.2.2.1 13 (.iadd) 1 14 := ⟨by decide +kernel, rfl⟩
theorem d_M_missed_14 : am_D y_M_missed.2.2.1 14 (.baload) 1 15 := ⟨by decide +kernel, rfl⟩
theorem d_M_missed_15 : am_D y_M_missed.2.2.1 15 (.ifCond .ne 16) 3 18 := ⟨by decide +kernel, rfl⟩
theorem d_M_missed_18 : am_D y_M_missed.2.2.1 18 (.aload_n 0) 1 19 := ⟨by decide +kernel, rfl⟩
theorem d_M_missed_19 : am_D y_M_missed.2.2.1 19 (.getfield 86) 3 22 := ⟨by decide +kernel, rfl⟩
theorem d_M_missed_22 : am_D y_M_missed.2.2.1 22 (.iload_n 3) 1 23 := ⟨by decide +kernel, rfl⟩
theorem d_M_missed_23 : am_D y_M_missed.2.2.1 23 (.iconst 4) 1 24 := ⟨by decide +kernel, rfl⟩
theorem d_M_missed_24 : am_D y_M_missed.2.2.1 24 (.iload_n 1) 1 25 := ⟨by decide +kernel, rfl⟩
theorem d_M_missed_25 : am_D y_M_missed.2.2.1 25 (.imul) 1 26 := ⟨by decide +kernel, rfl⟩
theorem d_M_missed_26 : am_D y_M_missed.2.2.1 26 (.iload_n 2) 1 27 := ⟨by decide +kernel, rfl⟩
theorem d_M_missed_27 : am_D y_M_missed.2.2.1 27 (.iadd) 1 28 := ⟨by decide +kernel, rfl⟩
theorem d_M_missed_28 : am_D y_M_missed.2.2.1 28 (.iconst 1) 1 29 := ⟨by decide +kernel, rfl⟩
theorem d_M_missed_29 : am_D y_M_missed.2.2.1 29 (.iadd) 1 30 := ⟨by decide +kernel, rfl⟩
theorem d_M_missed_30 : am_D y_M_missed.2.2.1 30 (.iastore) 1 31 := ⟨by decide +kernel, rfl⟩
theorem d_M_missed_31 : am_D y_M_missed.2.2.1 31 (.bipush 6) 2 33 := ⟨by decide +kernel, rfl⟩
theorem d_M_missed_33 : am_D y_M_missed.2.2.1 33 (.iload_n 3) 1 34 := ⟨by decide +kernel, rfl⟩
theorem d_M_missed_34 : am_D y_M_missed.2.2.1 34 (.imul) 1 35 := ⟨by decide +kernel, rfl⟩
theorem d_M_missed_35 : am_D y_M_missed.2.2.1 35 (.iload 4) 2 37 := ⟨by decide +kernel, rfl⟩
theorem d_M_missed_37 : am_D y_M_missed.2.2.1 37 (.iadd) 1 38 := ⟨by decide +kernel, rfl⟩
theorem d_M_missed_38 : am_D y_M_missed.2.2.1 38 (.istore 6) 2 40 := ⟨by decide +kernel, rfl⟩
theorem d_M_missed_40 : am_D y_M_missed.2.2.1 40 (.aload_n 0) 1 41 := ⟨by decide +kernel, rfl⟩
theorem d_M_missed_41 : am_D y_M_missed.2.2.1 41 (.iload 6) 2 43 := ⟨by decide +kernel, rfl⟩
theorem d_M_missed_43 : am_D y_M_missed.2.2.1 43 (.invokevirtual 227) 3 46 := ⟨by decide +kernel, rfl⟩
theorem d_M_missed_46 : am_D y_M_missed.2.2.1 46 (.istore 7) 2 48 := ⟨by decide +kernel, rfl⟩
theorem d_M_missed_48 : am_D y_M_missed.2.2.1 48 (.iload 7) 2 50 := ⟨by decide +kernel, rfl⟩
theorem d_M_missed_50 : am_D y_M_missed.2.2.1 50 (.ifCond .lt 31) 3 53 := ⟨by decide +kernel, rfl⟩
theorem d_M_missed_53 : am_D y_M_missed.2.2.1 53 (.aload_n 0) 1 54 := ⟨by decide +kernel, rfl⟩
theorem d_M_missed_54 : am_D y_M_missed.2.2.1 54 (.iload 7) 2 56 := ⟨by decide +kernel, rfl⟩
theorem d_M_missed_56 : am_D y_M_missed.2.2.1 56 (.iload 5) 2 58 := ⟨by decide +kernel, rfl⟩
theorem d_M_missed_58 : am_D y_M_missed.2.2.1 58 (.invokevirtual 237) 3 61 := ⟨by decide +kernel, rfl⟩
theorem d_M_missed_61 : am_D y_M_missed.2.2.1 61 (.aload_n 0) 1 62 := ⟨by decide +kernel, rfl⟩
theorem d_M_missed_62 : am_D y_M_missed.2.2.1 62 (.getfield 92) 3 65 := ⟨by decide +kernel, rfl⟩
theorem d_M_missed_65 : am_D y_M_missed.2.2.1 65 (.iload 7) 2 67 := ⟨by decide +kernel, rfl⟩
theorem d_M_missed_67 : am_D y_M_missed.2.2.1 67 (.iaload) 1 68 := ⟨by decide +kernel, rfl⟩
theorem d_M_missed_68 : am_D y_M_missed.2.2.1 68 (.iconst 3) 1 69 := ⟨by decide +kernel, rfl⟩
theorem d_M_missed_69 : am_D y_M_missed.2.2.1 69 (.if_icmp .ne 95) 3 72 := ⟨by decide +kernel, rfl⟩
theorem d_M_missed_72 : am_D y_M_missed.2.2.1 72 (.aload_n 0) 1 73 := ⟨by decide +kernel, rfl⟩
theorem d_M_missed_73 : am_D y_M_missed.2.2.1 73 (.iload 7) 2 75 := ⟨by decide +kernel, rfl⟩
theorem d_M_missed_75 : am_D y_M_missed.2.2.1 75 (.invokevirtual 231) 3 78 := ⟨by decide +kernel, rfl⟩
theorem d_M_missed_78 : am_D y_M_missed.2.2.1 78 (.goto 86) 3 81 := ⟨by decide +kernel, rfl⟩
theorem d_M_missed_81 : am_D y_M_missed.2.2.1 81 (.aload_n 0) 1 82 := ⟨by decide +kernel, rfl⟩
theorem d_M_missed_82 : am_D y_M_missed.2.2.1 82 (.getfield 86) 3 85 := ⟨by decide +kernel, rfl⟩
theorem d_M_missed_85 : am_D y_M_missed.2.2.1 85 (.iload 4) 2 87 := ⟨by decide +kernel, rfl⟩
theorem d_M_missed_87 : am_D y_M_missed.2.2.1 87 (.iaload) 1 88 := ⟨by decide +kernel, rfl⟩
theorem d_M_missed_88 : am_D y_M_missed.2.2.1 88 (.ifCond .ne 17) 3 91 := ⟨by decide +kernel, rfl⟩
theorem d_M_missed_91 : am_D y_M_missed.2.2.1 91 (.aload_n 0) 1 92 := ⟨by decide +kernel, rfl⟩
theorem d_M_missed_92 : am_D y_M_missed.2.2.1 92 (.iload_n 1) 1 93 := ⟨by decide +kernel, rfl⟩
theorem d_M_missed_93 : am_D y_M_missed.2.2.1 93 (.iload_n 2) 1 94 := ⟨by decide +kernel, rfl⟩
theorem d_M_missed_94 : am_D y_M_missed.2.2.1 94 (.iload_n 3) 1 95 := ⟨by decide +kernel, rfl⟩
theorem d_M_missed_95 : am_D y_M_missed.2.2.1 95 (.iload 4) 2 97 := ⟨by decide +kernel, rfl⟩
theorem d_M_missed_97 : am_D y_M_missed.2.2.1 97 (.iload 5) 2 99 := ⟨by decide +kernel, rfl⟩
theorem d_M_missed_99 : am_D y_M_missed.2.2.1 99 (.invokevirtual 240) 3 102 := ⟨by decide +kernel, rfl⟩
theorem d_M_missed_102 : am_D y_M_missed.2.2.1 102 (.goto 62) 3 105 := ⟨by decide +kernel, rfl⟩
theorem d_M_missed_105 : am_D y_M_missed.2.2.1 105 (.aload_n 0) 1 106 := ⟨by decide +kernel, rfl⟩
theorem d_M_missed_106 : am_D y_M_missed.2.2.1 106 (.getfield 206) 3 109 := ⟨by decide +kernel, rfl⟩
theorem d_M_missed_109 : am_D y_M_missed.2.2.1 109 (.bipush 6) 2 111 := ⟨by decide +kernel, rfl⟩
theorem d_M_missed_111 : am_D y_M_missed.2.2.1 111 (.if_icmp .ge 53) 3 114 := ⟨by decide +kernel, rfl⟩
theorem d_M_missed_114 : am_D y_M_missed.2.2.1 114 (.aload_n 0) 1 115 := ⟨by decide +kernel, rfl⟩
theorem d_M_missed_115 : am_D y_M_missed.2.2.1 115 (.iload 6) 2 117 := ⟨by decide +kernel, rfl⟩
theorem d_M_missed_117 : am_D y_M_missed.2.2.1 117 (.invokevirtual 243) 3 120 := ⟨by decide +kernel, rfl⟩
theorem d_M_missed_120 : am_D y_M_missed.2.2.1 120 (.ifCond .eq 44) 3 123 := ⟨by decide +kernel, rfl⟩
theorem d_M_missed_123 : am_D y_M_missed.2.2.1 123 (.aload_n 0) 1 124 := ⟨by decide +kernel, rfl⟩
theorem d_M_missed_124 : am_D y_M_missed.2.2.1 124 (.getfield 89) 3 127 := ⟨by decide +kernel, rfl⟩
theorem d_M_missed_127 : am_D y_M_missed.2.2.1 127 (.aload_n 0) 1 128 := ⟨by decide +kernel, rfl⟩
theorem d_M_missed_128 : am_D y_M_missed.2.2.1 128 (.getfield 206) 3 131 := ⟨by decide +kernel, rfl⟩
theorem d_M_missed_131 : am_D y_M_missed.2.2.1 131 (.iload 6) 2 133 := ⟨by decide +kernel, rfl⟩
theorem d_M_missed_133 : am_D y_M_missed.2.2.1 133 (.iastore) 1 134 := ⟨by decide +kernel, rfl⟩
theorem d_M_missed_134 : am_D y_M_missed.2.2.1 134 (.aload_n 0) 1 135 := ⟨by decide +kernel, rfl⟩
theorem d_M_missed_135 : am_D y_M_missed.2.2.1 135 (.aload_n 0) 1 136 := ⟨by decide +kernel, rfl⟩
theorem d_M_missed_136 : am_D y_M_missed.2.2.1 136 (.getfield 206) 3 139 := ⟨by decide +kernel, rfl⟩
theorem d_M_missed_139 : am_D y_M_missed.2.2.1 139 (.iload 5) 2 141 := ⟨by decide +kernel, rfl⟩
theorem d_M_missed_141 : am_D y_M_missed.2.2.1 141 (.invokevirtual 237) 3 144 := ⟨by decide +kernel, rfl⟩
theorem d_M_missed_144 : am_D y_M_missed.2.2.1 144 (.aload_n 0) 1 145 := ⟨by decide +kernel, rfl⟩
theorem d_M_missed_145 : am_D y_M_missed.2.2.1 145 (.dup) 1 146 := ⟨by decide +kernel, rfl⟩
theorem d_M_missed_146 : am_D y_M_missed.2.2.1 146 (.getfield 206) 3 149 := ⟨by decide +kernel, rfl⟩
theorem d_M_missed_149 : am_D y_M_missed.2.2.1 149 (.iconst 1) 1 150 := ⟨by decide +kernel, rfl⟩
theorem d_M_missed_150 : am_D y_M_missed.2.2.1 150 (.iadd) 1 151 := ⟨by decide +kernel, rfl⟩
theorem d_M_missed_151 : am_D y_M_missed.2.2.1 151 (.putfield 206) 3 154 := ⟨by decide +kernel, rfl⟩
theorem d_M_missed_154 : am_D y_M_missed.2.2.1 154 (.aload_n 0) 1 155 := ⟨by decide +kernel, rfl⟩
theorem d_M_missed_155 : am_D y_M_missed.2.2.1 155 (.aload_n 0) 1 156 := ⟨by decide +kernel, rfl⟩
theorem d_M_missed_156 : am_D y_M_missed.2.2.1 156 (.getfield 206) 3 159 := ⟨by decide +kernel, rfl⟩
theorem d_M_missed_159 : am_D y_M_missed.2.2.1 159 (.iconst 1) 1 160 := ⟨by decide +kernel, rfl⟩
theorem d_M_missed_160 : am_D y_M_missed.2.2.1 160 (.isub) 1 161 := ⟨by decide +kernel, rfl⟩
theorem d_M_missed_161 : am_D y_M_missed.2.2.1 161 (.invokevirtual 246) 3 164 := ⟨by decide +kernel, rfl⟩
theorem d_M_missed_164 : am_D y_M_missed.2.2.1 164 (.return_) 1 165 := ⟨by decide +kernel, rfl⟩
theorem d_M_courseOf_0 : am_D y_M_courseOf.2.2.1 0 (.iconst 0) 1 1 := ⟨by decide +kernel, rfl⟩
theorem d_M_courseOf_1 : am_D y_M_courseOf.2.2.1 1 (.istore_n 2) 1 2 := ⟨by decide +kernel, rfl⟩
theorem d_M_courseOf_2 : am_D y_M_courseOf.2.2.1 2 (.iload_n 2) 1 3 := ⟨by decide +kernel, rfl⟩
theorem d_M_courseOf_3 : am_D y_M_courseOf.2.2.1 3 (.aload_n 0) 1 4 := ⟨by decide +kernel, rfl⟩
theorem d_M_courseOf_4 : am_D y_M_courseOf.2.2.1 4 (.getfield 206) 3 7 := ⟨by decide +kernel, rfl⟩
theorem d_M_courseOf_7 : am_D y_M_courseOf.2.2.1 7 (.if_icmp .ge 21) 3 10 := ⟨by decide +kernel, rfl⟩
theorem d_M_courseOf_10 : am_D y_M_courseOf.2.2.1 10 (.aload_n 0) 1 11 := ⟨by decide +kernel, rfl⟩
theorem d_M_courseOf_11 : am_D y_M_courseOf.2.2.1 11 (.getfield 89) 3 14 := ⟨by decide +kernel, rfl⟩
theorem d_M_courseOf_14 : am_D y_M_courseOf.2.2.1 14 (.iload_n 2) 1 15 := ⟨by decide +kernel, rfl⟩
theorem d_M_courseOf_15 : am_D y_M_courseOf.2.2.1 15 (.iaload) 1 16 := ⟨by decide +kernel, rfl⟩
theorem d_M_courseOf_16 : am_D y_M_courseOf.2.2.1 16 (.iload_n 1) 1 17 := ⟨by decide +kernel, rfl⟩
theorem d_M_courseOf_17 : am_D y_M_courseOf.2.2.1 17 (.if_icmp .ne 5) 3 20 := ⟨by decide +kernel, rfl⟩
theorem d_M_courseOf_20 : am_D y_M_courseOf.2.2.1 20 (.iload_n 2) 1 21 := ⟨by decide +kernel, rfl⟩
theorem d_M_courseOf_21 : am_D y_M_courseOf.2.2.1 21 (.ireturn) 1 22 := ⟨by decide +kernel, rfl⟩
theorem d_M_courseOf_22 : am_D y_M_courseOf.2.2.1 22 (.iinc 2 1) 3 25 := ⟨by decide +kernel, rfl⟩
theorem d_M_courseOf_25 : am_D y_M_courseOf.2.2.1 25 (.goto (-23)) 3 28 := ⟨by decide +kernel, rfl⟩
theorem d_M_courseOf_28 : am_D y_M_courseOf.2.2.1 28 (.iconst (-1)) 1 29 := ⟨by decide +kernel, rfl⟩
theorem d_M_courseOf_29 : am_D y_M_courseOf.2.2.1 29 (.ireturn) 1 30 := ⟨by decide +kernel, rfl⟩
theorem d_M_keep_0 : am_D y_M_keep.2.2.1 0 (.aload_n 0) 1 1 := ⟨by decide +kernel, rfl⟩
theorem d_M_keep_1 : am_D y_M_keep.2.2.1 1 (.getfield 110) 3 4 := ⟨by decide +kernel, rfl⟩
theorem d_M_keep_4 : am_D y_M_keep.2.2.1 4 (.iload_n 1) 1 5 := ⟨by decide +kernel, rfl⟩
theorem d_M_keep_5 : am_D y_M_keep.2.2.1 5 (.iconst 1) 1 6 := ⟨by decide +kernel, rfl⟩
theorem d_M_keep_6 : am_D y_M_keep.2.2.1 6 (.bastore) 1 7 := ⟨by decide +kernel, rfl⟩
theorem d_M_keep_7 : am_D y_M_keep.2.2.1 7 (.aload_n 0) 1 8 := ⟨by decide +kernel, rfl⟩
theorem d_M_keep_8 : am_D y_M_keep.2.2.1 8 (.getfield 113) 3 11 := ⟨by decide +kernel, rfl⟩
theorem d_M_keep_11 : am_D y_M_keep.2.2.1 11 (.iload_n 1) 1 12 := ⟨by decide +kernel, rfl⟩
theorem d_M_keep_12 : am_D y_M_keep.2.2.1 12 (.iload_n 2) 1 13 := ⟨by decide +kernel, rfl⟩
theorem d_M_keep_13 : am_D y_M_keep.2.2.1 13 (.iastore) 1 14 := ⟨by decide +kernel, rfl⟩
theorem d_M_keep_14 : am_D y_M_keep.2.2.1 14 (.return_) 1 15 := ⟨by decide +kernel, rfl⟩
theorem d_M_clear_0 : am_D y_M_clear.2.2.1 0 (.aload_n 0) 1 1 := ⟨by decide +kernel, rfl⟩
theorem d_M_clear_1 : am_D y_M_clear.2.2.1 1 (.getfield 92) 3 4 := ⟨by decide +kernel, rfl⟩
theorem d_M_clear_4 : am_D y_M_clear.2.2.1 4 (.iload_n 1) 1 5 := ⟨by decide +kernel, rfl⟩
theorem d_M_clear_5 : am_D y_M_clear.2.2.1 5 (.iconst 1) 1 6 := ⟨by decide +kernel, rfl⟩
theorem d_M_clear_6 : am_D y_M_clear.2.2.1 6 (.iastore) 1 7 := ⟨by decide +kernel, rfl⟩
theorem d_M_clear_7 : am_D y_M_clear.2.2.1 7 (.aload_n 0) 1 8 := ⟨by decide +kernel, rfl⟩
theorem d_M_clear_8 : am_D y_M_clear.2.2.1 8 (.dup) 1 9 := ⟨by decide +kernel, rfl⟩
theorem d_M_clear_9 : am_D y_M_clear.2.2.1 9 (.getfield 209) 3 12 := ⟨by decide +kernel, rfl⟩
theorem d_M_clear_12 : am_D y_M_clear.2.2.1 12 (.iconst 1) 1 13 := ⟨by decide +kernel, rfl⟩
theorem d_M_clear_13 : am_D y_M_clear.2.2.1 13 (.iadd) 1 14 := ⟨by decide +kernel, rfl⟩
theorem d_M_clear_14 : am_D y_M_clear.2.2.1 14 (.putfield 209) 3 17 := ⟨by decide +kernel, rfl⟩
theorem d_M_clear_17 : am_D y_M_clear.2.2.1 17 (.aload_n 0) 1 18 := ⟨by decide +kernel, rfl⟩
theorem d_M_clear_18 : am_D y_M_clear.2.2.1 18 (.getfield 95) 3 21 := ⟨by decide +kernel, rfl⟩
theorem d_M_clear_21 : am_D y_M_clear.2.2.1 21 (.iload_n 1) 1 22 := ⟨by decide +kernel, rfl⟩
theorem d_M_clear_22 : am_D y_M_clear.2.2.1 22 (.aload_n 0) 1 23 := ⟨by decide +kernel, rfl⟩
theorem d_M_clear_23 : am_D y_M_clear.2.2.1 23 (.getfield 209) 3 26 := ⟨by decide +kernel, rfl⟩
theorem d_M_clear_26 : am_D y_M_clear.2.2.1 26 (.iastore) 1 27 := ⟨by decide +kernel, rfl⟩
theorem d_M_clear_27 : am_D y_M_clear.2.2.1 27 (.aload_n 0) 1 28 := ⟨by decide +kernel, rfl⟩
theorem d_M_clear_28 : am_D y_M_clear.2.2.1 28 (.getfield 98) 3 31 := ⟨by decide +kernel, rfl⟩
theorem d_M_clear_31 : am_D y_M_clear.2.2.1 31 (.iload_n 1) 1 32 := ⟨by decide +kernel, rfl⟩
theorem d_M_clear_32 : am_D y_M_clear.2.2.1 32 (.aload_n 0) 1 33 := ⟨by decide +kernel, rfl⟩
theorem d_M_clear_33 : am_D y_M_clear.2.2.1 33 (.getfield 104) 3 36 := ⟨by decide +kernel, rfl⟩
theorem d_M_clear_36 : am_D y_M_clear.2.2.1 36 (.iload_n 1) 1 37 := ⟨by decide +kernel, rfl⟩
theorem d_M_clear_37 : am_D y_M_clear.2.2.1 37 (.iaload) 1 38 := ⟨by decide +kernel, rfl⟩
theorem d_M_clear_38 : am_D y_M_clear.2.2.1 38 (.iastore) 1 39 := ⟨by decide +kernel, rfl⟩
theorem d_M_clear_39 : am_D y_M_clear.2.2.1 39 (.iconst 0) 1 40 := ⟨by decide +kernel, rfl⟩
theorem d_M_clear_40 : am_D y_M_clear.2.2.1 40 (.istore_n 2) 1 41 := ⟨by decide +kernel, rfl⟩
theorem d_M_clear_41 : am_D y_M_clear.2.2.1 41 (.iload_n 2) 1 42 := ⟨by decide +kernel, rfl⟩
theorem d_M_clear_42 : am_D y_M_clear.2.2.1 42 (.aload_n 0) 1 43 := ⟨by decide +kernel, rfl⟩
theorem d_M_clear_43 : am_D y_M_clear.2.2.1 43 (.getfield 104) 3 46 := ⟨by decide +kernel, rfl⟩
theorem d_M_clear_46 : am_D y_M_clear.2.2.1 46 (.iload_n 1) 1 47 := ⟨by decide +kernel, rfl⟩
theorem d_M_clear_47 : am_D y_M_clear.2.2.1 47 (.iaload) 1 48 := ⟨by decide +kernel, rfl⟩
theorem d_M_clear_48 : am_D y_M_clear.2.2.1 48 (.if_icmp .ge 50) 3 51 := ⟨by decide +kernel, rfl⟩
theorem d_M_clear_51 : am_D y_M_clear.2.2.1 51 (.aload_n 0) 1 52 := ⟨by decide +kernel, rfl⟩
theorem d_M_clear_52 : am_D y_M_clear.2.2.1 52 (.getfield 107) 3 55 := ⟨by decide +kernel, rfl⟩
theorem d_M_clear_55 : am_D y_M_clear.2.2.1 55 (.iconst 5) 1 56 := ⟨by decide +kernel, rfl⟩
theorem d_M_clear_56 : am_D y_M_clear.2.2.1 56 (.iload_n 1) 1 57 := ⟨by decide +kernel, rfl⟩
theorem d_M_clear_57 : am_D y_M_clear.2.2.1 57 (.imul) 1 58 := ⟨by decide +kernel, rfl⟩
theorem d_M_clear_58 : am_D y_M_clear.2.2.1 58 (.iload_n 2) 1 59 := ⟨by decide +kernel, rfl⟩
theorem d_M_clear_59 : am_D y_M_clear.2.2.1 59 (.iadd) 1 60 := ⟨by decide +kernel, rfl⟩
theorem d_M_clear_60 : am_D y_M_clear.2.2.1 60 (.iaload) 1 61 := ⟨by decide +kernel, rfl⟩
theorem d_M_clear_61 : am_D y_M_clear.2.2.1 61 (.iconst 5) 1 62 := ⟨by decide +kernel, rfl⟩
theorem d_M_clear_62 : am_D y_M_clear.2.2.1 62 (.idiv) 1 63 := ⟨by decide +kernel, rfl⟩
theorem d_M_clear_63 : am_D y_M_clear.2.2.1 63 (.istore_n 3) 1 64 := ⟨by decide +kernel, rfl⟩
theorem d_M_clear_64 : am_D y_M_clear.2.2.1 64 (.aload_n 0) 1 65 := ⟨by decide +kernel, rfl⟩
theorem d_M_clear_65 : am_D y_M_clear.2.2.1 65 (.iload_n 3) 1 66 := ⟨by decide +kernel, rfl⟩
theorem d_M_clear_66 : am_D y_M_clear.2.2.1 66 (.iconst 1) 1 67 := ⟨by decide +kernel, rfl⟩
theorem d_M_clear_67 : am_D y_M_clear.2.2.1 67 (.aload_n 0) 1 68 := ⟨by decide +kernel, rfl⟩
theorem d_M_clear_68 : am_D y_M_clear.2.2.1 68 (.getfield 89) 3 71 := ⟨by decide +kernel, rfl⟩
theorem d_M_clear_71 : am_D y_M_clear.2.2.1 71 (.iload_n 1) 1 72 := ⟨by decide +kernel, rfl⟩
theorem d_M_clear_72 : am_D y_M_clear.2.2.1 72 (.iaload) 1 73 := ⟨by decide +kernel, rfl⟩
theorem d_M_clear_73 : am_D y_M_clear.2.2.1 73 (.iconst 0) 1 74 := ⟨by decide +kernel, rfl⟩
theorem d_M_clear_74 : am_D y_M_clear.2.2.1 74 (.iconst 0) 1 75 := ⟨by decide +kernel, rfl⟩
theorem d_M_clear_75 : am_D y_M_clear.2.2.1 75 (.iconst 0) 1 76 := ⟨by decide +kernel, rfl⟩
theorem d_M_clear_76 : am_D y_M_clear.2.2.1 76 (.invokevirtual 194) 3 79 := ⟨by decide +kernel, rfl⟩
theorem d_M_clear_79 : am_D y_M_clear.2.2.1 79 (.aload_n 0) 1 80 := ⟨by decide +kernel, rfl⟩
theorem d_M_clear_80 : am_D y_M_clear.2.2.1 80 (.iload_n 3) 1 81 := ⟨by decide +kernel, rfl⟩
theorem d_M_clear_81 : am_D y_M_clear.2.2.1 81 (.iconst 2) 1 82 := ⟨by decide +kernel, rfl⟩
theorem d_M_clear_82 : am_D y_M_clear.2.2.1 82 (.aload_n 0) 1 83 := ⟨by decide +kernel, rfl⟩
theorem d_M_clear_83 : am_D y_M_clear.2.2.1 83 (.getfield 209) 3 86 := ⟨by decide +kernel, rfl⟩
theorem d_M_clear_86 : am_D y_M_clear.2.2.1 86 (.iconst 0) 1 87 := ⟨by decide +kernel, rfl⟩
theorem d_M_clear_87 : am_D y_M_clear.2.2.1 87 (.iconst 0) 1 88 := ⟨by decide +kernel, rfl⟩
theorem d_M_clear_88 : am_D y_M_clear.2.2.1 88 (.iconst 0) 1 89 := ⟨by decide +kernel, rfl⟩
theorem d_M_clear_89 : am_D y_M_clear.2.2.1 89 (.invokevirtual 194) 3 92 := ⟨by decide +kernel, rfl⟩
theorem d_M_clear_92 : am_D y_M_clear.2.2.1 92 (.iinc 2 1) 3 95 := ⟨by decide +kernel, rfl⟩
theorem d_M_clear_95 : am_D y_M_clear.2.2.1 95 (.goto (-54)) 3 98 := ⟨by decide +kernel, rfl⟩
theorem d_M_clear_98 : am_D y_M_clear.2.2.1 98 (.return_) 1 99 := ⟨by decide +kernel, rfl⟩
theorem d_M_flood_0 : am_D y_M_flood.2.2.1 0 (.iconst 0) 1 1 := ⟨by decide +kernel, rfl⟩
theorem d_M_flood_1 : am_D y_M_flood.2.2.1 1 (.istore 6) 2 3 := ⟨by decide +kernel, rfl⟩
theorem d_M_flood_3 : am_D y_M_flood.2.2.1 3 (.iload 6) 2 5 := ⟨by decide +kernel, rfl⟩
theorem d_M_flood_5 : am_D y_M_flood.2.2.1 5 (.aload_n 0) 1 6 := ⟨by decide +kernel, rfl⟩
theorem d_M_flood_6 : am_D y_M_flood.2.2.1 6 (.getfield 123) 3 9 := ⟨by decide +kernel, rfl⟩
theorem d_M_flood_9 : am_D y_M_flood.2.2.1 9 (.if_icmp .ge 99) 3 12 := ⟨by decide +kernel, rfl⟩
theorem d_M_flood_12 : am_D y_M_flood.2.2.1 12 (.iconst 0) 1 13 := ⟨by decide +kernel, rfl⟩
theorem d_M_flood_13 : am_D y_M_flood.2.2.1 13 (.istore 7) 2 15 := ⟨by decide +kernel, rfl⟩
theorem d_M_flood_15 : am_D y_M_flood.2.2.1 15 (.iconst 0) 1 16 := ⟨by decide +kernel, rfl⟩
theorem d_M_flood_16 : am_D y_M_flood.2.2.1 16 (.istore 8) 2 18 := ⟨by decide +kernel, rfl⟩
theorem d_M_flood_18 : am_D y_M_flood.2.2.1 18 (.iload 8) 2 20 := ⟨by decide +kernel, rfl⟩
theorem d_M_flood_20 : am_D y_M_flood.2.2.1 20 (.iconst 4) 1 21 := ⟨by decide +kernel, rfl⟩
theorem d_M_flood_21 : am_D y_M_flood.2.2.1 21 (.if_icmp .ge 62) 3 24 := ⟨by decide +kernel, rfl⟩
theorem d_M_flood_24 : am_D y_M_flood.2.2.1 24 (.aload_n 0) 1 25 := ⟨by decide +kernel, rfl⟩
theorem d_M_flood_25 : am_D y_M_flood.2.2.1 25 (.getfield 83) 3 28 := ⟨by decide +kernel, rfl⟩
theorem d_M_flood_28 : am_D y_M_flood.2.2.1 28 (.iconst 4) 1 29 := ⟨by decide +kernel, rfl⟩
theorem d_M_flood_29 : am_D y_M_flood.2.2.1 29 (.iload 6) 2 31 := ⟨by decide +kernel, rfl⟩
theorem d_M_flood_31 : am_D y_M_flood.2.2.1 31 (.imul) 1 32 := ⟨by decide +kernel, rfl⟩
theorem d_M_flood_32 : am_D y_M_flood.2.2.1 32 (.iload 8) 2 34 := ⟨by decide +kernel, rfl⟩
theorem d_M_flood_34 : am_D y_M_flood.2.2.1 34 (.iadd) 1 35 := ⟨by decide +kernel, rfl⟩
theorem d_M_flood_35 : am_D y_M_flood.2.2.1 35 (.baload) 1 36 := ⟨by decide +kernel, rfl⟩
theorem d_M_flood_36 : am_D y_M_flood.2.2.1 36 (.ifCond .ne 19) 3 39 := ⟨by decide +kernel, rfl⟩
theorem d_M_flood_39 : am_D y_M_flood.2.2.1 39 (.iload 6) 2 41 := ⟨by decide +kernel, rfl⟩
theorem d_M_flood_41 : am_D y_M_flood.2.2.1 41 (.iload_n 1) 1 42 := ⟨by decide +kernel, rfl⟩
theorem d_M_flood_42 : am_D y_M_flood.2.2.1 42 (.if_icmp .ne 9) 3 45 := ⟨by decide +kernel, rfl⟩
theorem d_M_flood_45 : am_D y_M_flood.2.2.1 45 (.iload 8) 2 47 := ⟨by decide +kernel, rfl⟩
theorem d_M_flood_47 : am_D y_M_flood.2.2.1 47 (.iload_n 2) 1 48 := ⟨by decide +kernel, rfl⟩
theorem d_M_flood_48 : am_D y_M_flood.2.2.1 48 (.if_icmp .eq 7) 3 51 := ⟨by decide +kernel, rfl⟩
theorem d_M_flood_51 : am_D y_M_flood.2.2.1 51 (.iconst 1) 1 52 := ⟨by decide +kernel, rfl⟩
theorem d_M_flood_52 : am_D y_M_flood.2.2.1 52 (.goto 4) 3 55 := ⟨by decide +kernel, rfl⟩
theorem d_M_flood_55 : am_D y_M_flood.2.2.1 55 (.iconst 0) 1 56 := ⟨by decide +kernel, rfl⟩
theorem d_M_flood_56 : am_D y_M_flood.2.2.1 56 (.istore 9) 2 58 := ⟨by decide +kernel, rfl⟩
theorem d_M_flood_58 : am_D y_M_flood.2.2.1 58 (.iload 9) 2 60 := ⟨by decide +kernel, rfl⟩
theorem d_M_flood_60 : am_D y_M_flood.2.2.1 60 (.ifCond .eq 13) 3 63 := ⟨by decide +kernel, rfl⟩
theorem d_M_flood_63 : am_D y_M_flood.2.2.1 63 (.iload 7) 2 65 := ⟨by decide +kernel, rfl⟩
theorem d_M_flood_65 : am_D y_M_flood.2.2.1 65 (.iconst 1) 1 66 := ⟨by decide +kernel, rfl⟩
theorem d_M_flood_66 : am_D y_M_flood.2.2.1 66 (.iload 8) 2 68 := ⟨by decide +kernel, rfl⟩
theorem d_M_flood_68 : am_D y_M_flood.2.2.1 68 (.ishl) 1 69 := ⟨by decide +kernel, rfl⟩
theorem d_M_flood_69 : am_D y_M_flood.2.2.1 69 (.ior) 1 70 := ⟨by decide +kernel, rfl⟩
theorem d_M_flood_70 : am_D y_M_flood.2.2.1 70 (.goto 5) 3 73 := ⟨by decide +kernel, rfl⟩
theorem d_M_flood_73 : am_D y_M_flood.2.2.1 73 (.iload 7) 2 75 := ⟨by decide +kernel, rfl⟩
theorem d_M_flood_75 : am_D y_M_flood.2.2.1 75 (.istore 7) 2 77 := ⟨by decide +kernel, rfl⟩
theorem d_M_flood_77 : am_D y_M_flood.2.2.1 77 (.iinc 8 1) 3 80 := ⟨by decide +kernel, rfl⟩
theorem d_M_flood_80 : am_D y_M_flood.2.2.1 80 (.goto (-62)) 3 83 := ⟨by decide +kernel, rfl⟩
theorem d_M_flood_83 : am_D y_M_flood.2.2.1 83 (.iload 7) 2 85 := ⟨by decide +kernel, rfl⟩
theorem d_M_flood_85 : am_D y_M_flood.2.2.1 85 (.ifCond .eq 17) 3 88 := ⟨by decide +kernel, rfl⟩
theorem d_M_flood_88 : am_D y_M_flood.2.2.1 88 (.aload_n 0) 1 89 := ⟨by decide +kernel, rfl⟩
theorem d_M_flood_89 : am_D y_M_flood.2.2.1 89 (.iload 6) 2 91 := ⟨by decide +kernel, rfl⟩
theorem d_M_flood_91 : am_D y_M_flood.2.2.1 91 (.iconst 3) 1 92 := ⟨by decide +kernel, rfl⟩
theorem d_M_flood_92 : am_D y_M_flood.2.2.1 92 (.iload 7) 2 94 := ⟨by decide +kernel, rfl⟩
theorem d_M_flood_94 : am_D y_M_flood.2.2.1 94 (.iload_n 3) 1 95 := ⟨by decide +kernel, rfl⟩
theorem d_M_flood_95 : am_D y_M_flood.2.2.1 95 (.iload 4) 2 97 := ⟨by decide +kernel, rfl⟩
theorem d_M_flood_97 : am_D y_M_flood.2.2.1 97 (.iload 5) 2 99 := ⟨by decide +kernel, rfl⟩
theorem d_M_flood_99 : am_D y_M_flood.2.2.1 99 (.invokevirtual 194) 3 102 := ⟨by decide +kernel, rfl⟩
theorem d_M_flood_102 : am_D y_M_flood.2.2.1 102 (.iinc 6 1) 3 105 := ⟨by decide +kernel, rfl⟩
theorem d_M_flood_105 : am_D y_M_flood.2.2.1 105 (.goto (-102)) 3 108 := ⟨by decide +kernel, rfl⟩
theorem d_M_flood_108 : am_D y_M_flood.2.2.1 108 (.return_) 1 109 := ⟨by decide +kernel, rfl⟩
theorem d_M_search_0 : am_D y_M_search.2.2.1 0 (.aload_n 0) 1 1 := ⟨by decide +kernel, rfl⟩
theorem d_M_search_1 : am_D y_M_search.2.2.1 1 (.iconst 0) 1 2 := ⟨by decide +kernel, rfl⟩
theorem d_M_search_2 : am_D y_M_search.2.2.1 2 (.putfield 200) 3 5 := ⟨by decide +kernel, rfl⟩
theorem d_M_search_5 : am_D y_M_search.2.2.1 5 (.aload_n 0) 1 6 := ⟨by decide +kernel, rfl⟩
theorem d_M_search_6 : am_D y_M_search.2.2.1 6 (.getfield 86) 3 9 := ⟨by decide +kernel, rfl⟩
theorem d_M_search_9 : am_D y_M_search.2.2.1 9 (.iload_n 1) 1 10 := ⟨by decide +kernel, rfl⟩
theorem d_M_search_10 : am_D y_M_search.2.2.1 10 (.bipush 6) 2 12 := ⟨by decide +kernel, rfl⟩
theorem d_M_search_12 : am_D y_M_search.2.2.1 12 (.idiv) 1 13 := ⟨by decide +kernel, rfl⟩
theorem d_M_search_13 : am_D y_M_search.2.2.1 13 (.iaload) 1 14 := ⟨by decide +kernel, rfl⟩
theorem d_M_search_14 : am_D y_M_search.2.2.1 14 (.iconst 1) 1 15 := ⟨by decide +kernel, rfl⟩
theorem d_M_search_15 : am_D y_M_search.2.2.1 15 (.isub) 1 16 := ⟨by decide +kernel, rfl⟩
theorem d_M_search_16 : am_D y_M_search.2.2.1 16 (.istore_n 2) 1 17 := ⟨by decide +kernel, rfl⟩
theorem d_M_search_17 : am_D y_M_search.2.2.1 17 (.aload_n 0) 1 18 := ⟨by decide +kernel, rfl⟩
theorem d_M_search_18 : am_D y_M_search.2.2.1 18 (.getfield 86) 3 21 := ⟨by decide +kernel, rfl⟩
theorem d_M_search_21 : am_D y_M_search.2.2.1 21 (.iload_n 1) 1 22 := ⟨by decide +kernel, rfl⟩
theorem d_M_search_22 : am_D y_M_search.2.2.1 22 (.bipush 6) 2 24 := ⟨by decide +kernel, rfl⟩
theorem d_M_search_24 : am_D y_M_search.2.2.1 24 (.irem) 1 25 := ⟨by decide +kernel, rfl⟩
theorem d_M_search_25 : am_D y_M_search.2.2.1 25 (.iaload) 1 26 := ⟨by decide +kernel, rfl⟩
theorem d_M_search_26 : am_D y_M_search.2.2.1 26 (.iconst 1) 1 27 := ⟨by decide +kernel, rfl⟩
theorem d_M_search_27 : am_D y_M_search.2.2.1 27 (.isub) 1 28 := ⟨by decide +kernel, rfl⟩
theorem d_M_search_28 : am_D y_M_search.2.2.1 28 (.istore_n 3) 1 29 := ⟨by decide +kernel, rfl⟩
theorem d_M_search_29 : am_D y_M_search.2.2.1 29 (.iload_n 2) 1 30 := ⟨by decide +kernel, rfl⟩
theorem d_M_search_30 : am_D y_M_search.2.2.1 30 (.ifCond .lt 7) 3 33 := ⟨by decide +kernel, rfl⟩
theorem d_M_search_33 : am_D y_M_search.2.2.1 33 (.iload_n 3) 1 34 := ⟨by decide +kernel, rfl⟩
theorem d_M_search_34 : am_D y_M_search.2.2.1 34 (.ifCond .ge 5) 3 37 := ⟨by decide +kernel, rfl⟩
theorem d_M_search_37 : am_D y_M_search.2.2.1 37 (.iconst 0) 1 38 := ⟨by decide +kernel, rfl⟩
theorem d_M_search_38 : am_D y_M_search.2.2.1 38 (.ireturn) 1 39 := ⟨by decide +kernel, rfl⟩
theorem d_M_search_39 : am_D y_M_search.2.2.1 39 (.iload_n 2) 1 40 := ⟨by decide +kernel, rfl⟩
theorem d_M_search_40 : am_D y_M_search.2.2.1 40 (.iconst 4) 1 41 := ⟨by decide +kernel, rfl⟩
theorem d_M_search_41 : am_D y_M_search.2.2.1 41 (.idiv) 1 42 := ⟨by decide +kernel, rfl⟩
theorem d_M_search_42 : am_D y_M_search.2.2.1 42 (.iload_n 3) 1 43 := ⟨by decide +kernel, rfl⟩
theorem d_M_search_43 : am_D y_M_search.2.2.1 43 (.iconst 4) 1 44 := ⟨by decide +kernel, rfl⟩
theorem d_M_search_44 : am_D y_M_search.2.2.1 44 (.idiv) 1 45 := ⟨by decide +kernel, rfl⟩
theorem d_M_search_45 : am_D y_M_search.2.2.1 45 (.if_icmp .ne 19) 3 48 := ⟨by decide +kernel, rfl⟩
theorem d_M_search_48 : am_D y_M_search.2.2.1 48 (.aload_n 0) 1 49 := ⟨by decide +kernel, rfl⟩
theorem d_M_search_49 : am_D y_M_search.2.2.1 49 (.getfield 116) 3 52 := ⟨by decide +kernel, rfl⟩
theorem d_M_search_52 : am_D y_M_search.2.2.1 52 (.iconst 0) 1 53 := ⟨by decide +kernel, rfl⟩
theorem d_M_search_53 : am_D y_M_search.2.2.1 53 (.iload_n 2) 1 54 := ⟨by decide +kernel, rfl⟩
theorem d_M_search_54 : am_D y_M_search.2.2.1 54 (.iconst 4) 1 55 := ⟨by decide +kernel, rfl⟩
theorem d_M_search_55 : am_D y_M_search.2.2.1 55 (.idiv) 1 56 := ⟨by decide +kernel, rfl⟩
theorem d_M_search_56 : am_D y_M_search.2.2.1 56 (.iastore) 1 57 := ⟨by decide +kernel, rfl⟩
theorem d_M_search_57 : am_D y_M_search.2.2.1 57 (.aload_n 0) 1 58 := ⟨by decide +kernel, rfl⟩
theorem d_M_search_58 : am_D y_M_search.2.2.1 58 (.iconst 1) 1 59 := ⟨by decide +kernel, rfl⟩
theorem d_M_search_59 : am_D y_M_search.2.2.1 59 (.putfield 200) 3 62 := ⟨by decide +kernel, rfl⟩
theorem d_M_search_62 : am_D y_M_search.2.2.1 62 (.iconst 1) 1 63 := ⟨by decide +kernel, rfl⟩
theorem d_M_search_63 : am_D y_M_search.2.2.1 63 (.ireturn) 1 64 := ⟨by decide +kernel, rfl⟩
theorem d_M_search_64 : am_D y_M_search.2.2.1 64 (.iconst 1) 1 65 := ⟨by decide +kernel, rfl⟩
theorem d_M_search_65 : am_D y_M_search.2.2.1 65 (.istore 4) 2 67 := ⟨by decide +kernel, rfl⟩
theorem d_M_search_67 : am_D y_M_search.2.2.1 67 (.iconst 2) 1 68 := ⟨by decide +kernel, rfl⟩
theorem d_M_search_68 : am_D y_M_search.2.2.1 68 (.istore 5) 2 70 := ⟨by decide +kernel, rfl⟩
theorem d_M_search_70 : am_D y_M_search.2.2.1 70 (.iload 5) 2 72 := ⟨by decide +kernel, rfl⟩
theorem d_M_search_72 : am_D y_M_search.2.2.1 72 (.aload_n 0) 1 73 := ⟨by decide +kernel, rfl⟩
theorem d_M_search_73 : am_D y_M_search.2.2.1 73 (.getfield 123) 3 76 := ⟨by decide +kernel, rfl⟩
theorem d_M_search_76 : am_D y_M_search.2.2.1 76 (.if_icmp .gt 59) 3 79 := ⟨by decide +kernel, rfl⟩
theorem d_M_search_79 : am_D y_M_search.2.2.1 79 (.iconst 0) 1 80 := ⟨by decide +kernel, rfl⟩
theorem d_M_search_80 : am_D y_M_search.2.2.1 80 (.istore 6) 2 82 := ⟨by decide +kernel, rfl⟩
theorem d_M_search_82 : am_D y_M_search.2.2.1 82 (.iload 6) 2 84 := ⟨by decide +kernel, rfl⟩
theorem d_M_search_84 : am_D y_M_search.2.2.1 84 (.iload 4) 2 86 := ⟨by decide +kernel, rfl⟩
theorem d_M_search_86 : am_D y_M_search.2.2.1 86 (.if_icmp .ge 34) 3 89 := ⟨by decide +kernel, rfl⟩
theorem d_M_search_89 : am_D y_M_search.2.2.1 89 (.aload_n 0) 1 90 := ⟨by decide +kernel, rfl⟩
theorem d_M_search_90 : am_D y_M_search.2.2.1 90 (.iload 6) 2 92 := ⟨by decide +kernel, rfl⟩
theorem d_M_search_92 : am_D y_M_search.2.2.1 92 (.iload 5) 2 94 := ⟨by decide +kernel, rfl⟩
theorem d_M_search_94 : am_D y_M_search.2.2.1 94 (.iload_n 2) 1 95 := ⟨by decide +kernel, rfl⟩
theorem d_M_search_95 : am_D y_M_search.2.2.1 95 (.iconst 4) 1 96 := ⟨by decide +kernel, rfl⟩
theorem d_M_search_96 : am_D y_M_search.2.2.1 96 (.idiv) 1 97 := ⟨by decide +kernel, rfl⟩
theorem d_M_search_97 : am_D y_M_search.2.2.1 97 (.iload_n 3) 1 98 := ⟨by decide +kernel, rfl⟩
theorem d_M_search_98 : am_D y_M_search.2.2.1 98 (.iconst 4) 1 99 := ⟨by decide +kernel, rfl⟩
theorem d_M_search_99 : am_D y_M_search.2.2.1 99 (.idiv) 1 100 := ⟨by decide +kernel, rfl⟩
theorem d_M_search_100 : am_D y_M_search.2.2.1 100 (.invokevirtual 203) 3 103 := ⟨by decide +kernel, rfl⟩
theorem d_M_search_103 : am_D y_M_search.2.2.1 103 (.ifCond .eq 11) 3 106 := ⟨by decide +kernel, rfl⟩
theorem d_M_search_106 : am_D y_M_search.2.2.1 106 (.aload_n 0) 1 107 := ⟨by decide +kernel, rfl⟩
theorem d_M_search_107 : am_D y_M_search.2.2.1 107 (.iload 5) 2 109 := ⟨by decide +kernel, rfl⟩
theorem d_M_search_109 : am_D y_M_search.2.2.1 109 (.putfield 200) 3 112 := ⟨by decide +kernel, rfl⟩
theorem d_M_search_112 : am_D y_M_search.2.2.1 112 (.iconst 1) 1 113 := ⟨by decide +kernel, rfl⟩
theorem d_M_search_113 : am_D y_M_search.2.2.1 113 (.ireturn) 1 114 := ⟨by decide +kernel, rfl⟩
theorem d_M_search_114 : am_D y_M_search.2.2.1 114 (.iinc 6 1) 3 117 := ⟨by decide +kernel, rfl⟩
theorem d_M_search_117 : am_D y_M_search.2.2.1 117 (.goto (-35)) 3 120 := ⟨by decide +kernel, rfl⟩
theorem d_M_search_120 : am_D y_M_search.2.2.1 120 (.iload 4) 2 122 := ⟨by decide +kernel, rfl⟩
theorem d_M_search_122 : am_D y_M_search.2.2.1 122 (.aload_n 0) 1 123 := ⟨by decide +kernel, rfl⟩
theorem d_M_search_123 : am_D y_M_search.2.2.1 123 (.getfield 123) 3 126 := ⟨by decide +kernel, rfl⟩
theorem d_M_search_126 : am_D y_M_search.2.2.1 126 (.imul) 1 127 := ⟨by decide +kernel, rfl⟩
theorem d_M_search_127 : am_D y_M_search.2.2.1 127 (.istore 4) 2 129 := ⟨by decide +kernel, rfl⟩
theorem d_M_search_129 : am_D y_M_search.2.2.1 129 (.iinc 5 1) 3 132 := ⟨by decide +kernel, rfl⟩
theorem d_M_search_132 : am_D y_M_search.2.2.1 132 (.goto (-62)) 3 135 := ⟨by decide +kernel, rfl⟩
theorem d_M_search_135 : am_D y_M_search.2.2.1 135 (.iconst 0) 1 136 := ⟨by decide +kernel, rfl⟩
theorem d_M_search_136 : am_D y_M_search.2.2.1 136 (.ireturn) 1 137 := ⟨by decide +kernel, rfl⟩
theorem d_M_isWay_0 : am_D y_M_isWay.2.2.1 0 (.iload_n 1) 1 1 := ⟨by decide +kernel, rfl⟩
theorem d_M_isWay_1 : am_D y_M_isWay.2.2.1 1 (.istore 5) 2 3 := ⟨by decide +kernel, rfl⟩
theorem d_M_isWay_3 : am_D y_M_isWay.2.2.1 3 (.iload_n 2) 1 4 := ⟨by decide +kernel, rfl⟩
theorem d_M_isWay_4 : am_D y_M_isWay.2.2.1 4 (.iconst 2) 1 5 := ⟨by decide +kernel, rfl⟩
theorem d_M_isWay_5 : am_D y_M_isWay.2.2.1 5 (.isub) 1 6 := ⟨by decide +kernel, rfl⟩
theorem d_M_isWay_6 : am_D y_M_isWay.2.2.1 6 (.istore 6) 2 8 := ⟨by decide +kernel, rfl⟩
theorem d_M_isWay_8 : am_D y_M_isWay.2.2.1 8 (.iload 6) 2 10 := ⟨by decide +kernel, rfl⟩
theorem d_M_isWay_10 : am_D y_M_isWay.2.2.1 10 (.iconst 1) 1 11 := ⟨by decide +kernel, rfl⟩
theorem d_M_isWay_11 : am_D y_M_isWay.2.2.1 11 (.if_icmp .lt 32) 3 14 := ⟨by decide +kernel, rfl⟩
theorem d_M_isWay_14 : am_D y_M_isWay.2.2.1 14 (.aload_n 0) 1 15 := ⟨by decide +kernel, rfl⟩
theorem d_M_isWay_15 : am_D y_M_isWay.2.2.1 15 (.getfield 116) 3 18 := ⟨by decide +kernel, rfl⟩
theorem d_M_isWay_18 : am_D y_M_isWay.2.2.1 18 (.iload 6) 2 20 := ⟨by decide +kernel, rfl⟩
theorem d_M_isWay_20 : am_D y_M_isWay.2.2.1 20 (.iload 5) 2 22 := ⟨by decide +kernel, rfl⟩
theorem d_M_isWay_22 : am_D y_M_isWay.2.2.1 22 (.aload_n 0) 1 23 := ⟨by decide +kernel, rfl⟩
theorem d_M_isWay_23 : am_D y_M_isWay.2.2.1 23 (.getfield 123) 3 26 := ⟨by decide +kernel, rfl⟩
theorem d_M_isWay_26 : am_D y_M_isWay.2.2.1 26 (.irem) 1 27 := ⟨by decide +kernel, rfl⟩
theorem d_M_isWay_27 : am_D y_M_isWay.2.2.1 27 (.iastore) 1 28 := ⟨by decide +kernel, rfl⟩
theorem d_M_isWay_28 : am_D y_M_isWay.2.2.1 28 (.iload 5) 2 30 := ⟨by decide +kernel, rfl⟩
theorem d_M_isWay_30 : am_D y_M_isWay.2.2.1 30 (.aload_n 0) 1 31 := ⟨by decide +kernel, rfl⟩
theorem d_M_isWay_31 : am_D y_M_isWay.2.2.1 31 (.getfield 123) 3 34 := ⟨by decide +kernel, rfl⟩
theorem d_M_isWay_34 : am_D y_M_isWay.2.2.1 34 (.idiv) 1 35 := ⟨by decide +kernel, rfl⟩
theorem d_M_isWay_35 : am_D y_M_isWay.2.2.1 35 (.istore 5) 2 37 := ⟨by decide +kernel, rfl⟩
theorem d_M_isWay_37 : am_D y_M_isWay.2.2.1 37 (.iinc 6 (-1)) 3 40 := ⟨by decide +kernel, rfl⟩
theorem d_M_isWay_40 : am_D y_M_isWay.2.2.1 40 (.goto (-32)) 3 43 := ⟨by decide +kernel, rfl⟩
theorem d_M_isWay_43 : am_D y_M_isWay.2.2.1 43 (.aload_n 0) 1 44 := ⟨by decide +kernel, rfl⟩
theorem d_M_isWay_44 : am_D y_M_isWay.2.2.1 44 (.getfield 116) 3 47 := ⟨by decide +kernel, rfl⟩
theorem d_M_isWay_47 : am_D y_M_isWay.2.2.1 47 (.iconst 0) 1 48 := ⟨by decide +kernel, rfl⟩
theorem d_M_isWay_48 : am_D y_M_isWay.2.2.1 48 (.iload_n 3) 1 49 := ⟨by decide +kernel, rfl⟩
theorem d_M_isWay_49 : am_D y_M_isWay.2.2.1 49 (.iastore) 1 50 := ⟨by decide +kernel, rfl⟩
theorem d_M_isWay_50 : am_D y_M_isWay.2.2.1 50 (.aload_n 0) 1 51 := ⟨by decide +kernel, rfl⟩
theorem d_M_isWay_51 : am_D y_M_isWay.2.2.1 51 (.getfield 116) 3 54 := ⟨by decide +kernel, rfl⟩
theorem d_M_isWay_54 : am_D y_M_isWay.2.2.1 54 (.iload_n 2) 1 55 := ⟨by decide +kernel, rfl⟩
theorem d_M_isWay_55 : am_D y_M_isWay.2.2.1 55 (.iconst 1) 1 56 := ⟨by decide +kernel, rfl⟩
theorem d_M_isWay_56 : am_D y_M_isWay.2.2.1 56 (.isub) 1 57 := ⟨by decide +kernel, rfl⟩
theorem d_M_isWay_57 : am_D y_M_isWay.2.2.1 57 (.iload 4) 2 59 := ⟨by decide +kernel, rfl⟩
theorem d_M_isWay_59 : am_D y_M_isWay.2.2.1 59 (.iastore) 1 60 := ⟨by decide +kernel, rfl⟩
theorem d_M_isWay_60 : am_D y_M_isWay.2.2.1 60 (.iconst 0) 1 61 := ⟨by decide +kernel, rfl⟩
theorem d_M_isWay_61 : am_D y_M_isWay.2.2.1 61 (.istore 6) 2 63 := ⟨by decide +kernel, rfl⟩
theorem d_M_isWay_63 : am_D y_M_isWay.2.2.1 63 (.iload 6) 2 65 := ⟨by decide +kernel, rfl⟩
theorem d_M_isWay_65 : am_D y_M_isWay.2.2.1 65 (.iconst 1) 1 66 := ⟨by decide +kernel, rfl⟩
theorem d_M_isWay_66 : am_D y_M_isWay.2.2.1 66 (.iadd) 1 67 := ⟨by decide +kernel, rfl⟩
theorem d_M_isWay_67 : am_D y_M_isWay.2.2.1 67 (.iload_n 2) 1 68 := ⟨by decide +kernel, rfl⟩
theorem d_M_isWay_68 : am_D y_M_isWay.2.2.1 68 (.if_icmp .ge 34) 3 71 := ⟨by decide +kernel, rfl⟩
theorem d_M_isWay_71 : am_D y_M_isWay.2.2.1 71 (.aload_n 0) 1 72 := ⟨by decide +kernel, rfl⟩
theorem d_M_isWay_72 : am_D y_M_isWay.2.2.1 72 (.aload_n 0) 1 73 := ⟨by decide +kernel, rfl⟩
theorem d_M_isWay_73 : am_D y_M_isWay.2.2.1 73 (.getfield 116) 3 76 := ⟨by decide +kernel, rfl⟩
theorem d_M_isWay_76 : am_D y_M_isWay.2.2.1 76 (.iload 6) 2 78 := ⟨by decide +kernel, rfl⟩
theorem d_M_isWay_78 : am_D y_M_isWay.2.2.1 78 (.iaload) 1 79 := ⟨by decide +kernel, rfl⟩
theorem d_M_isWay_79 : am_D y_M_isWay.2.2.1 79 (.aload_n 0) 1 80 := ⟨by decide +kernel, rfl⟩
theorem d_M_isWay_80 : am_D y_M_isWay.2.2.1 80 (.getfield 116) 3 83 := ⟨by decide +kernel, rfl⟩
theorem d_M_isWay_83 : am_D y_M_isWay.2.2.1 83 (.iload 6) 2 85 := ⟨by decide +kernel, rfl⟩
theorem d_M_isWay_85 : am_D y_M_isWay.2.2.1 85 (.iconst 1) 1 86 := ⟨by decide +kernel, rfl⟩
theorem d_M_isWay_86 : am_D y_M_isWay.2.2.1 86 (.iadd) 1 87 := ⟨by decide +kernel, rfl⟩
theorem d_M_isWay_87 : am_D y_M_isWay.2.2.1 87 (.iaload) 1 88 := ⟨by decide +kernel, rfl⟩
theorem d_M_isWay_88 : am_D y_M_isWay.2.2.1 88 (.invokevirtual 197) 3 91 := ⟨by decide +kernel, rfl⟩
theorem d_M_isWay_91 : am_D y_M_isWay.2.2.1 91 (.ifCond .ge 5) 3 94 := ⟨by decide +kernel, rfl⟩
theorem d_M_isWay_94 : am_D y_M_isWay.2.2.1 94 (.iconst 0) 1 95 := ⟨by decide +kernel, rfl⟩
theorem d_M_isWay_95 : am_D y_M_isWay.2.2.1 95 (.ireturn) 1 96 := ⟨by decide +kernel, rfl⟩
theorem d_M_isWay_96 : am_D y_M_isWay.2.2.1 96 (.iinc 6 1) 3 99 := ⟨by decide +kernel, rfl⟩
theorem d_M_isWay_99 : am_D y_M_isWay.2.2.1 99 (.goto (-36)) 3 102 := ⟨by decide +kernel, rfl⟩
theorem d_M_isWay_102 : am_D y_M_isWay.2.2.1 102 (.iconst 1) 1 103 := ⟨by decide +kernel, rfl⟩
theorem d_M_isWay_103 : am_D y_M_isWay.2.2.1 103 (.ireturn) 1 104 := ⟨by decide +kernel, rfl⟩
theorem d_M_leads_0 : am_D y_M_leads.2.2.1 0 (.iconst 0) 1 1 := ⟨by decide +kernel, rfl⟩
theorem d_M_leads_1 : am_D y_M_leads.2.2.1 1 (.istore_n 3) 1 2 := ⟨by decide +kernel, rfl⟩
theorem d_M_leads_2 : am_D y_M_leads.2.2.1 2 (.iload_n 3) 1 3 := ⟨by decide +kernel, rfl⟩
theorem d_M_leads_3 : am_D y_M_leads.2.2.1 3 (.iconst 4) 1 4 := ⟨by decide +kernel, rfl⟩
theorem d_M_leads_4 : am_D y_M_leads.2.2.1 4 (.if_icmp .ge 42) 3 7 := ⟨by decide +kernel, rfl⟩
theorem d_M_leads_7 : am_D y_M_leads.2.2.1 7 (.aload_n 0) 1 8 := ⟨by decide +kernel, rfl⟩
theorem d_M_leads_8 : am_D y_M_leads.2.2.1 8 (.getfield 80) 3 11 := ⟨by decide +kernel, rfl⟩
theorem d_M_leads_11 : am_D y_M_leads.2.2.1 11 (.iconst 4) 1 12 := ⟨by decide +kernel, rfl⟩
theorem d_M_leads_12 : am_D y_M_leads.2.2.1 12 (.iload_n 1) 1 13 := ⟨by decide +kernel, rfl⟩
theorem d_M_leads_13 : am_D y_M_leads.2.2.1 13 (.imul) 1 14 := ⟨by decide +kernel, rfl⟩
theorem d_M_leads_14 : am_D y_M_leads.2.2.1 14 (.iload_n 3) 1 15 := ⟨by decide +kernel, rfl⟩
theorem d_M_leads_15 : am_D y_M_leads.2.2.1 15 (.iadd) 1 16 := ⟨by decide +kernel, rfl⟩
theorem d_M_leads_16 : am_D y_M_leads.2.2.1 16 (.iaload) 1 17 := ⟨by decide +kernel, rfl⟩
theorem d_M_leads_17 : am_D y_M_leads.2.2.1 17 (.ifCond .le 23) 3 20 := ⟨by decide +kernel, rfl⟩
theorem d_M_leads_20 : am_D y_M_leads.2.2.1 20 (.aload_n 0) 1 21 := ⟨by decide +kernel, rfl⟩
theorem d_M_leads_21 : am_D y_M_leads.2.2.1 21 (.getfield 80) 3 24 := ⟨by decide +kernel, rfl⟩
theorem d_M_leads_24 : am_D y_M_leads.2.2.1 24 (.iconst 4) 1 25 := ⟨by decide +kernel, rfl⟩
theorem d_M_leads_25 : am_D y_M_leads.2.2.1 25 (.iload_n 1) 1 26 := ⟨by decide +kernel, rfl⟩
theorem d_M_leads_26 : am_D y_M_leads.2.2.1 26 (.imul) 1 27 := ⟨by decide +kernel, rfl⟩
theorem d_M_leads_27 : am_D y_M_leads.2.2.1 27 (.iload_n 3) 1 28 := ⟨by decide +kernel, rfl⟩
theorem d_M_leads_28 : am_D y_M_leads.2.2.1 28 (.iadd) 1 29 := ⟨by decide +kernel, rfl⟩
theorem d_M_leads_29 : am_D y_M_leads.2.2.1 29 (.iaload) 1 30 := ⟨by decide +kernel, rfl⟩
theorem d_M_leads_30 : am_D y_M_leads.2.2.1 30 (.iconst 1) 1 31 := ⟨by decide +kernel, rfl⟩
theorem d_M_leads_31 : am_D y_M_leads.2.2.1 31 (.isub) 1 32 := ⟨by decide +kernel, rfl⟩
theorem d_M_leads_32 : am_D y_M_leads.2.2.1 32 (.iconst 4) 1 33 := ⟨by decide +kernel, rfl⟩
theorem d_M_leads_33 : am_D y_M_leads.2.2.1 33 (.idiv) 1 34 := ⟨by decide +kernel, rfl⟩
theorem d_M_leads_34 : am_D y_M_leads.2.2.1 34 (.iload_n 2) 1 35 := ⟨by decide +kernel, rfl⟩
theorem d_M_leads_35 : am_D y_M_leads.2.2.1 35 (.if_icmp .ne 5) 3 38 := ⟨by decide +kernel, rfl⟩
theorem d_M_leads_38 : am_D y_M_leads.2.2.1 38 (.iload_n 3) 1 39 := ⟨by decide +kernel, rfl⟩
theorem d_M_leads_39 : am_D y_M_leads.2.2.1 39 (.ireturn) 1 40 := ⟨by decide +kernel, rfl⟩
theorem d_M_leads_40 : am_D y_M_leads.2.2.1 40 (.iinc 3 1) 3 43 := ⟨by decide +kernel, rfl⟩
theorem d_M_leads_43 : am_D y_M_leads.2.2.1 43 (.goto (-41)) 3 46 := ⟨by decide +kernel, rfl⟩
theorem d_M_leads_46 : am_D y_M_leads.2.2.1 46 (.iconst (-1)) 1 47 := ⟨by decide +kernel, rfl⟩
theorem d_M_leads_47 : am_D y_M_leads.2.2.1 47 (.ireturn) 1 48 := ⟨by decide +kernel, rfl⟩
theorem d_M_lay_0 : am_D y_M_lay.2.2.1 0 (.aload_n 0) 1 1 := ⟨by decide +kernel, rfl⟩
theorem d_M_lay_1 : am_D y_M_lay.2.2.1 1 (.getfield 104) 3 4 := ⟨by decide +kernel, rfl⟩
theorem d_M_lay_4 : am_D y_M_lay.2.2.1 4 (.iload_n 1) 1 5 := ⟨by decide +kernel, rfl⟩
theorem d_M_lay_5 : am_D y_M_lay.2.2.1 5 (.aload_n 0) 1 6 := ⟨by decide +kernel, rfl⟩
theorem d_M_lay_6 : am_D y_M_lay.2.2.1 6 (.getfield 200) 3 9 := ⟨by decide +kernel, rfl⟩
theorem d_M_lay_9 : am_D y_M_lay.2.2.1 9 (.iastore) 1 10 := ⟨by decide +kernel, rfl⟩
theorem d_M_lay_10 : am_D y_M_lay.2.2.1 10 (.iconst 0) 1 11 := ⟨by decide +kernel, rfl⟩
theorem d_M_lay_11 : am_D y_M_lay.2.2.1 11 (.istore_n 2) 1 12 := ⟨by decide +kernel, rfl⟩
theorem d_M_lay_12 : am_D y_M_lay.2.2.1 12 (.iload_n 2) 1 13 := ⟨by decide +kernel, rfl⟩
theorem d_M_lay_13 : am_D y_M_lay.2.2.1 13 (.aload_n 0) 1 14 := ⟨by decide +kernel, rfl⟩
theorem d_M_lay_14 : am_D y_M_lay.2.2.1 14 (.getfield 200) 3 17 := ⟨by decide +kernel, rfl⟩
theorem d_M_lay_17 : am_D y_M_lay.2.2.1 17 (.if_icmp .ge 79) 3 20 := ⟨by decide +kernel, rfl⟩
theorem d_M_lay_20 : am_D y_M_lay.2.2.1 20 (.iload_n 2) 1 21 := ⟨by decide +kernel, rfl⟩
theorem d_M_lay_21 : am_D y_M_lay.2.2.1 21 (.iconst 1) 1 22 := ⟨by decide +kernel, rfl⟩
theorem d_M_lay_22 : am_D y_M_lay.2.2.1 22 (.iadd) 1 23 := ⟨by decide +kernel, rfl⟩
theorem d_M_lay_23 : am_D y_M_lay.2.2.1 23 (.aload_n 0) 1 24 := ⟨by decide +kernel, rfl⟩
theorem d_M_lay_24 : am_D y_M_lay.2.2.1 24 (.getfield 200) 3 27 := ⟨by decide +kernel, rfl⟩
theorem d_M_lay_27 : am_D y_M_lay.2.2.1 27 (.if_icmp .ge 24) 3 30 := ⟨by decide +kernel, rfl⟩
theorem d_M_lay_30 : am_D y_M_lay.2.2.1 30 (.aload_n 0) 1 31 := ⟨by decide +kernel, rfl⟩
theorem d_M_lay_31 : am_D y_M_lay.2.2.1 31 (.aload_n 0) 1 32 := ⟨by decide +kernel, rfl⟩
theorem d_M_lay_32 : am_D y_M_lay.2.2.1 32 (.getfield 116) 3 35 := ⟨by decide +kernel, rfl⟩
theorem d_M_lay_35 : am_D y_M_lay.2.2.1 35 (.iload_n 2) 1 36 := ⟨by decide +kernel, rfl⟩
theorem d_M_lay_36 : am_D y_M_lay.2.2.1 36 (.iaload) 1 37 := ⟨by decide +kernel, rfl⟩
theorem d_M_lay_37 : am_D y_M_lay.2.2.1 37 (.aload_n 0) 1 38 := ⟨by decide +kernel, rfl⟩
theorem d_M_lay_38 : am_D y_M_lay.2.2.1 38 (.getfield 116) 3 41 := ⟨by decide +kernel, rfl⟩
theorem d_M_lay_41 : am_D y_M_lay.2.2.1 41 (.iload_n 2) 1 42 := ⟨by decide +kernel, rfl⟩
theorem d_M_lay_42 : am_D y_M_lay.2.2.1 42 (.iconst 1) 1 43 := ⟨by decide +kernel, rfl⟩
theorem d_M_lay_43 : am_D y_M_lay.2.2.1 43 (.iadd) 1 44 := ⟨by decide +kernel, rfl⟩
theorem d_M_lay_44 : am_D y_M_lay.2.2.1 44 (.iaload) 1 45 := ⟨by decide +kernel, rfl⟩
theorem d_M_lay_45 : am_D y_M_lay.2.2.1 45 (.invokevirtual 197) 3 48 := ⟨by decide +kernel, rfl⟩
theorem d_M_lay_48 : am_D y_M_lay.2.2.1 48 (.goto 21) 3 51 := ⟨by decide +kernel, rfl⟩
theorem d_M_lay_51 : am_D y_M_lay.2.2.1 51 (.aload_n 0) 1 52 := ⟨by decide +kernel, rfl⟩
theorem d_M_lay_52 : am_D y_M_lay.2.2.1 52 (.getfield 86) 3 55 := ⟨by decide +kernel, rfl⟩
theorem d_M_lay_55 : am_D y_M_lay.2.2.1 55 (.aload_n 0) 1 56 := ⟨by decide +kernel, rfl⟩
theorem d_M_lay_56 : am_D y_M_lay.2.2.1 56 (.getfield 89) 3 59 := ⟨by decide +kernel, rfl⟩
theorem d_M_lay_59 : am_D y_M_lay.2.2.1 59 (.iload_n 1) 1 60 := ⟨by decide +kernel, rfl⟩
theorem d_M_lay_60 : am_D y_M_lay.2.2.1 60 (.iaload) 1 61 := ⟨by decide +kernel, rfl⟩
theorem d_M_lay_61 : am_D y_M_lay.2.2.1 61 (.bipush 6) 2 63 := ⟨by decide +kernel, rfl⟩
theorem d_M_lay_63 : am_D y_M_lay.2.2.1 63 (.irem) 1 64 := ⟨by decide +kernel, rfl⟩
theorem d_M_lay_64 : am_D y_M_lay.2.2.1 64 (.iaload) 1 65 := ⟨by decide +kernel, rfl⟩
theorem d_M_lay_65 : am_D y_M_lay.2.2.1 65 (.iconst 1) 1 66 := ⟨by decide +kernel, rfl⟩
theorem d_M_lay_66 : am_D y_M_lay.2.2.1 66 (.isub) 1 67 := ⟨by decide +kernel, rfl⟩
theorem d_M_lay_67 : am_D y_M_lay.2.2.1 67 (.iconst 4) 1 68 := ⟨by decide +kernel, rfl⟩
theorem d_M_lay_68 : am_D y_M_lay.2.2.1 68 (.irem) 1 69 := ⟨by decide +kernel, rfl⟩
theorem d_M_lay_69 : am_D y_M_lay.2.2.1 69 (.istore_n 3) 1 70 := ⟨by decide +kernel, rfl⟩
theorem d_M_lay_70 : am_D y_M_lay.2.2.1 70 (.aload_n 0) 1 71 := ⟨by decide +kernel, rfl⟩
theorem d_M_lay_71 : am_D y_M_lay.2.2.1 71 (.getfield 107) 3 74 := ⟨by decide +kernel, rfl⟩
theorem d_M_lay_74 : am_D y_M_lay.2.2.1 74 (.iconst 5) 1 75 := ⟨by decide +kernel, rfl⟩
theorem d_M_lay_75 : am_D y_M_lay.2.2.1 75 (.iload_n 1) 1 76 := ⟨by decide +kernel, rfl⟩
theorem d_M_lay_76 : am_D y_M_lay.2.2.1 76 (.imul) 1 77 := ⟨by decide +kernel, rfl⟩
theorem d_M_lay_77 : am_D y_M_lay.2.2.1 77 (.iload_n 2) 1 78 := ⟨by decide +kernel, rfl⟩
theorem d_M_lay_78 : am_D y_M_lay.2.2.1 78 (.iadd) 1 79 := ⟨by decide +kernel, rfl⟩
theorem d_M_lay_79 : am_D y_M_lay.2.2.1 79 (.iconst 5) 1 80 := ⟨by decide +kernel, rfl⟩
theorem d_M_lay_80 : am_D y_M_lay.2.2.1 80 (.aload_n 0) 1 81 := ⟨by decide +kernel, rfl⟩
theorem d_M_lay_81 : am_D y_M_lay.2.2.1 81 (.getfield 116) 3 84 := ⟨by decide +kernel, rfl⟩
theorem d_M_lay_84 : am_D y_M_lay.2.2.1 84 (.iload_n 2) 1 85 := ⟨by decide +kernel, rfl⟩
theorem d_M_lay_85 : am_D y_M_lay.2.2.1 85 (.iaload) 1 86 := ⟨by decide +kernel, rfl⟩
theorem d_M_lay_86 : am_D y_M_lay.2.2.1 86 (.imul) 1 87 := ⟨by decide +kernel, rfl⟩
theorem d_M_lay_87 : am_D y_M_lay.2.2.1 87 (.iload_n 3) 1 88 := ⟨by decide +kernel, rfl⟩
theorem d_M_lay_88 : am_D y_M_lay.2.2.1 88 (.iadd) 1 89 := ⟨by decide +kernel, rfl⟩
theorem d_M_lay_89 : am_D y_M_lay.2.2.1 89 (.iastore) 1 90 := ⟨by decide +kernel, rfl⟩
theorem d_M_lay_90 : am_D y_M_lay.2.2.1 90 (.iinc 2 1) 3 93 := ⟨by decide +kernel, rfl⟩
theorem d_M_lay_93 : am_D y_M_lay.2.2.1 93 (.goto (-81)) 3 96 := ⟨by decide +kernel, rfl⟩
theorem d_M_lay_96 : am_D y_M_lay.2.2.1 96 (.aload_n 0) 1 97 := ⟨by decide +kernel, rfl⟩
theorem d_M_lay_97 : am_D y_M_lay.2.2.1 97 (.getfield 92) 3 100 := ⟨by decide +kernel, rfl⟩
theorem d_M_lay_100 : am_D y_M_lay.2.2.1 100 (.iload_n 1) 1 101 := ⟨by decide +kernel, rfl⟩
theorem d_M_lay_101 : am_D y_M_lay.2.2.1 101 (.iconst 2) 1 102 := ⟨by decide +kernel, rfl⟩
theorem d_M_lay_102 : am_D y_M_lay.2.2.1 102 (.iastore) 1 103 := ⟨by decide +kernel, rfl⟩
theorem d_M_lay_103 : am_D y_M_lay.2.2.1 103 (.aload_n 0) 1 104 := ⟨by decide +kernel, rfl⟩
theorem d_M_lay_104 : am_D y_M_lay.2.2.1 104 (.iload_n 1) 1 105 := ⟨by decide +kernel, rfl⟩
theorem d_M_lay_105 : am_D y_M_lay.2.2.1 105 (.aload_n 0) 1 106 := ⟨by decide +kernel, rfl⟩
theorem d_M_lay_106 : am_D y_M_lay.2.2.1 106 (.getfield 200) 3 109 := ⟨by decide +kernel, rfl⟩
theorem d_M_lay_109 : am_D y_M_lay.2.2.1 109 (.iconst 1) 1 110 := ⟨by decide +kernel, rfl⟩
theorem d_M_lay_110 : am_D y_M_lay.2.2.1 110 (.isub) 1 111 := ⟨by decide +kernel, rfl⟩
theorem d_M_lay_111 : am_D y_M_lay.2.2.1 111 (.invokevirtual 212) 3 114 := ⟨by decide +kernel, rfl⟩
theorem d_M_lay_114 : am_D y_M_lay.2.2.1 114 (.return_) 1 115 := ⟨by decide +kernel, rfl⟩
theorem d_M_lead_0 : am_D y_M_lead.2.2.1 0 (.aload_n 0) 1 1 := ⟨by decide +kernel, rfl⟩
theorem d_M_lead_1 : am_D y_M_lead.2.2.1 1 (.getfield 101) 3 4 := ⟨by decide +kernel, rfl⟩
theorem d_M_lead_4 : am_D y_M_lead.2.2.1 4 (.iload_n 1) 1 5 := ⟨by decide +kernel, rfl⟩
theorem d_M_lead_5 : am_D y_M_lead.2.2.1 5 (.iload_n 2) 1 6 := ⟨by decide +kernel, rfl⟩
theorem d_M_lead_6 : am_D y_M_lead.2.2.1 6 (.iastore) 1 7 := ⟨by decide +kernel, rfl⟩
theorem d_M_lead_7 : am_D y_M_lead.2.2.1 7 (.aload_n 0) 1 8 := ⟨by decide +kernel, rfl⟩
theorem d_M_lead_8 : am_D y_M_lead.2.2.1 8 (.dup) 1 9 := ⟨by decide +kernel, rfl⟩
theorem d_M_lead_9 : am_D y_M_lead.2.2.1 9 (.getfield 209) 3 12 := ⟨by decide +kernel, rfl⟩
theorem d_M_lead_12 : am_D y_M_lead.2.2.1 12 (.iconst 1) 1 13 := ⟨by decide +kernel, rfl⟩
theorem d_M_lead_13 : am_D y_M_lead.2.2.1 13 (.iadd) 1 14 := ⟨by decide +kernel, rfl⟩
theorem d_M_lead_14 : am_D y_M_lead.2.2.1 14 (.putfield 209) 3 17 := ⟨by decide +kernel, rfl⟩
theorem d_M_lead_17 : am_D y_M_lead.2.2.1 17 (.aload_n 0) 1 18 := ⟨by decide +kernel, rfl⟩
theorem d_M_lead_18 : am_D y_M_lead.2.2.1 18 (.getfield 95) 3 21 := ⟨by decide +kernel, rfl⟩
theorem d_M_lead_21 : am_D y_M_lead.2.2.1 21 (.iload_n 1) 1 22 := ⟨by decide +kernel, rfl⟩
theorem d_M_lead_22 : am_D y_M_lead.2.2.1 22 (.aload_n 0) 1 23 := ⟨by decide +kernel, rfl⟩
theorem d_M_lead_23 : am_D y_M_lead.2.2.1 23 (.getfield 209) 3 26 := ⟨by decide +kernel, rfl⟩
theorem d_M_lead_26 : am_D y_M_lead.2.2.1 26 (.iastore) 1 27 := ⟨by decide +kernel, rfl⟩
theorem d_M_lead_27 : am_D y_M_lead.2.2.1 27 (.aload_n 0) 1 28 := ⟨by decide +kernel, rfl⟩
theorem d_M_lead_28 : am_D y_M_lead.2.2.1 28 (.getfield 107) 3 31 := ⟨by decide +kernel, rfl⟩
theorem d_M_lead_31 : am_D y_M_lead.2.2.1 31 (.iconst 5) 1 32 := ⟨by decide +kernel, rfl⟩
theorem d_M_lead_32 : am_D y_M_lead.2.2.1 32 (.iload_n 1) 1 33 := ⟨by decide +kernel, rfl⟩
theorem d_M_lead_33 : am_D y_M_lead.2.2.1 33 (.imul) 1 34 := ⟨by decide +kernel, rfl⟩
theorem d_M_lead_34 : am_D y_M_lead.2.2.1 34 (.iload_n 2) 1 35 := ⟨by decide +kernel, rfl⟩
theorem d_M_lead_35 : am_D y_M_lead.2.2.1 35 (.iadd) 1 36 := ⟨by decide +kernel, rfl⟩
theorem d_M_lead_36 : am_D y_M_lead.2.2.1 36 (.iaload) 1 37 := ⟨by decide +kernel, rfl⟩
theorem d_M_lead_37 : am_D y_M_lead.2.2.1 37 (.istore_n 3) 1 38 := ⟨by decide +kernel, rfl⟩
theorem d_M_lead_38 : am_D y_M_lead.2.2.1 38 (.aload_n 0) 1 39 := ⟨by decide +kernel, rfl⟩
theorem d_M_lead_39 : am_D y_M_lead.2.2.1 39 (.iload_n 3) 1 40 := ⟨by decide +kernel, rfl⟩
theorem d_M_lead_40 : am_D y_M_lead.2.2.1 40 (.iconst 5) 1 41 := ⟨by decide +kernel, rfl⟩
theorem d_M_lead_41 : am_D y_M_lead.2.2.1 41 (.idiv) 1 42 := ⟨by decide +kernel, rfl⟩
theorem d_M_lead_42 : am_D y_M_lead.2.2.1 42 (.iconst 0) 1 43 := ⟨by decide +kernel, rfl⟩
theorem d_M_lead_43 : am_D y_M_lead.2.2.1 43 (.aload_n 0) 1 44 := ⟨by decide +kernel, rfl⟩
theorem d_M_lead_44 : am_D y_M_lead.2.2.1 44 (.getfield 89) 3 47 := ⟨by decide +kernel, rfl⟩
theorem d_M_lead_47 : am_D y_M_lead.2.2.1 47 (.iload_n 1) 1 48 := ⟨by decide +kernel, rfl⟩
theorem d_M_lead_48 : am_D y_M_lead.2.2.1 48 (.iaload) 1 49 := ⟨by decide +kernel, rfl⟩
theorem d_M_lead_49 : am_D y_M_lead.2.2.1 49 (.iload_n 3) 1 50 := ⟨by decide +kernel, rfl⟩
theorem d_M_lead_50 : am_D y_M_lead.2.2.1 50 (.iconst 5) 1 51 := ⟨by decide +kernel, rfl⟩
theorem d_M_lead_51 : am_D y_M_lead.2.2.1 51 (.irem) 1 52 := ⟨by decide +kernel, rfl⟩
theorem d_M_lead_52 : am_D y_M_lead.2.2.1 52 (.iconst 0) 1 53 := ⟨by decide +kernel, rfl⟩
theorem d_M_lead_53 : am_D y_M_lead.2.2.1 53 (.iconst 0) 1 54 := ⟨by decide +kernel, rfl⟩
theorem d_M_lead_54 : am_D y_M_lead.2.2.1 54 (.invokevirtual 194) 3 57 := ⟨by decide +kernel, rfl⟩
theorem d_M_lead_57 : am_D y_M_lead.2.2.1 57 (.aload_n 0) 1 58 := ⟨by decide +kernel, rfl⟩
theorem d_M_lead_58 : am_D y_M_lead.2.2.1 58 (.iload_n 3) 1 59 := ⟨by decide +kernel, rfl⟩
theorem d_M_lead_59 : am_D y_M_lead.2.2.1 59 (.iconst 5) 1 60 := ⟨by decide +kernel, rfl⟩
theorem d_M_lead_60 : am_D y_M_lead.2.2.1 60 (.idiv) 1 61 := ⟨by decide +kernel, rfl⟩
theorem d_M_lead_61 : am_D y_M_lead.2.2.1 61 (.iconst 2) 1 62 := ⟨by decide +kernel, rfl⟩
theorem d_M_lead_62 : am_D y_M_lead.2.2.1 62 (.aload_n 0) 1 63 := ⟨by decide +kernel, rfl⟩
theorem d_M_lead_63 : am_D y_M_lead.2.2.1 63 (.getfield 209) 3 66 := ⟨by decide +kernel, rfl⟩
theorem d_M_lead_66 : am_D y_M_lead.2.2.1 66 (.iconst 0) 1 67 := ⟨by decide +kernel, rfl⟩
theorem d_M_lead_67 : am_D y_M_lead.2.2.1 67 (.iconst 0) 1 68 := ⟨by decide +kernel, rfl⟩
theorem d_M_lead_68 : am_D y_M_lead.2.2.1 68 (.iconst 0) 1 69 := ⟨by decide +kernel, rfl⟩
theorem d_M_lead_69 : am_D y_M_lead.2.2.1 69 (.invokevirtual 194) 3 72 := ⟨by decide +kernel, rfl⟩
theorem d_M_lead_72 : am_D y_M_lead.2.2.1 72 (.return_) 1 73 := ⟨by decide +kernel, rfl⟩
theorem d_M_seen_0 : am_D y_M_seen.2.2.1 0 (.aload_n 0) 1 1 := ⟨by decide +kernel, rfl⟩
theorem d_M_seen_1 : am_D y_M_seen.2.2.1 1 (.getfield 80) 3 4 := ⟨by decide +kernel, rfl⟩
theorem d_M_seen_4 : am_D y_M_seen.2.2.1 4 (.iload_n 1) 1 5 := ⟨by decide +kernel, rfl⟩
theorem d_M_seen_5 : am_D y_M_seen.2.2.1 5 (.iload_n 2) 1 6 := ⟨by decide +kernel, rfl⟩
theorem d_M_seen_6 : am_D y_M_seen.2.2.1 6 (.iconst 1) 1 7 := ⟨by decide +kernel, rfl⟩
theorem d_M_seen_7 : am_D y_M_seen.2.2.1 7 (.iadd) 1 8 := ⟨by decide +kernel, rfl⟩
theorem d_M_seen_8 : am_D y_M_seen.2.2.1 8 (.iastore) 1 9 := ⟨by decide +kernel, rfl⟩
theorem d_M_seen_9 : am_D y_M_seen.2.2.1 9 (.aload_n 0) 1 10 := ⟨by decide +kernel, rfl⟩
theorem d_M_seen_10 : am_D y_M_seen.2.2.1 10 (.getfield 80) 3 13 := ⟨by decide +kernel, rfl⟩
theorem d_M_seen_13 : am_D y_M_seen.2.2.1 13 (.iload_n 2) 1 14 := ⟨by decide +kernel, rfl⟩
theorem d_M_seen_14 : am_D y_M_seen.2.2.1 14 (.iload_n 1) 1 15 := ⟨by decide +kernel, rfl⟩
theorem d_M_seen_15 : am_D y_M_seen.2.2.1 15 (.iconst 1) 1 16 := ⟨by decide +kernel, rfl⟩
theorem d_M_seen_16 : am_D y_M_seen.2.2.1 16 (.iadd) 1 17 := ⟨by decide +kernel, rfl⟩
theorem d_M_seen_17 : am_D y_M_seen.2.2.1 17 (.iastore) 1 18 := ⟨by decide +kernel, rfl⟩
theorem d_M_seen_18 : am_D y_M_seen.2.2.1 18 (.aload_n 0) 1 19 := ⟨by decide +kernel, rfl⟩
theorem d_M_seen_19 : am_D y_M_seen.2.2.1 19 (.getfield 83) 3 22 := ⟨by decide +kernel, rfl⟩
theorem d_M_seen_22 : am_D y_M_seen.2.2.1 22 (.iload_n 1) 1 23 := ⟨by decide +kernel, rfl⟩
theorem d_M_seen_23 : am_D y_M_seen.2.2.1 23 (.iconst 1) 1 24 := ⟨by decide +kernel, rfl⟩
theorem d_M_seen_24 : am_D y_M_seen.2.2.1 24 (.bastore) 1 25 := ⟨by decide +kernel, rfl⟩
theorem d_M_seen_25 : am_D y_M_seen.2.2.1 25 (.aload_n 0) 1 26 := ⟨by decide +kernel, rfl⟩
theorem d_M_seen_26 : am_D y_M_seen.2.2.1 26 (.getfield 83) 3 29 := ⟨by decide +kernel, rfl⟩
theorem d_M_seen_29 : am_D y_M_seen.2.2.1 29 (.iload_n 2) 1 30 := ⟨by decide +kernel, rfl⟩
theorem d_M_seen_30 : am_D y_M_seen.2.2.1 30 (.iconst 1) 1 31 := ⟨by decide +kernel, rfl⟩
theorem d_M_seen_31 : am_D y_M_seen.2.2.1 31 (.bastore) 1 32 := ⟨by decide +kernel, rfl⟩
theorem d_M_seen_32 : am_D y_M_seen.2.2.1 32 (.iconst 0) 1 33 := ⟨by decide +kernel, rfl⟩
theorem d_M_seen_33 : am_D y_M_seen.2.2.1 33 (.istore_n 3) 1 34 := ⟨by decide +kernel, rfl⟩
theorem d_M_seen_34 : am_D y_M_seen.2.2.1 34 (.iload_n 3) 1 35 := ⟨by decide +kernel, rfl⟩
theorem d_M_seen_35 : am_D y_M_seen.2.2.1 35 (.bipush 6) 2 37 := ⟨by decide +kernel, rfl⟩
theorem d_M_seen_37 : am_D y_M_seen.2.2.1 37 (.if_icmp .ge 49) 3 40 := ⟨by decide +kernel, rfl⟩
theorem d_M_seen_40 : am_D y_M_seen.2.2.1 40 (.aload_n 0) 1 41 := ⟨by decide +kernel, rfl⟩
theorem d_M_seen_41 : am_D y_M_seen.2.2.1 41 (.getfield 86) 3 44 := ⟨by decide +kernel, rfl⟩
theorem d_M_seen_44 : am_D y_M_seen.2.2.1 44 (.iload_n 3) 1 45 := ⟨by decide +kernel, rfl⟩
theorem d_M_seen_45 : am_D y_M_seen.2.2.1 45 (.aload_n 0) 1 46 := ⟨by decide +kernel, rfl⟩
theorem d_M_seen_46 : am_D y_M_seen.2.2.1 46 (.getfield 86) 3 49 := ⟨by decide +kernel, rfl⟩
theorem d_M_seen_49 : am_D y_M_seen.2.2.1 49 (.iload_n 3) 1 50 := ⟨by decide +kernel, rfl⟩
theorem d_M_seen_50 : am_D y_M_seen.2.2.1 50 (.iaload) 1 51 := ⟨by decide +kernel, rfl⟩
theorem d_M_seen_51 : am_D y_M_seen.2.2.1 51 (.iload_n 1) 1 52 := ⟨by decide +kernel, rfl⟩
theorem d_M_seen_52 : am_D y_M_seen.2.2.1 52 (.iconst 1) 1 53 := ⟨by decide +kernel, rfl⟩
theorem d_M_seen_53 : am_D y_M_seen.2.2.1 53 (.iadd) 1 54 := ⟨by decide +kernel, rfl⟩
theorem d_M_seen_54 : am_D y_M_seen.2.2.1 54 (.if_icmp .eq 15) 3 57 := ⟨by decide +kernel, rfl⟩
theorem d_M_seen_57 : am_D y_M_seen.2.2.1 57 (.aload_n 0) 1 58 := ⟨by decide +kernel, rfl⟩
theorem d_M_seen_58 : am_D y_M_seen.2.2.1 58 (.getfield 86) 3 61 := ⟨by decide +kernel, rfl⟩
theorem d_M_seen_61 : am_D y_M_seen.2.2.1 61 (.iload_n 3) 1 62 := ⟨by decide +kernel, rfl⟩
theorem d_M_seen_62 : am_D y_M_seen.2.2.1 62 (.iaload) 1 63 := ⟨by decide +kernel, rfl⟩
theorem d_M_seen_63 : am_D y_M_seen.2.2.1 63 (.iload_n 2) 1 64 := ⟨by decide +kernel, rfl⟩
theorem d_M_seen_64 : am_D y_M_seen.2.2.1 64 (.iconst 1) 1 65 := ⟨by decide +kernel, rfl⟩
theorem d_M_seen_65 : am_D y_M_seen.2.2.1 65 (.iadd) 1 66 := ⟨by decide +kernel, rfl⟩
theorem d_M_seen_66 : am_D y_M_seen.2.2.1 66 (.if_icmp .ne 7) 3 69 := ⟨by decide +kernel, rfl⟩
theorem d_M_seen_69 : am_D y_M_seen.2.2.1 69 (.iconst 0) 1 70 := ⟨by decide +kernel, rfl⟩
theorem d_M_seen_70 : am_D y_M_seen.2.2.1 70 (.goto 9) 3 73 := ⟨by decide +kernel, rfl⟩
theorem d_M_seen_73 : am_D y_M_seen.2.2.1 73 (.aload_n 0) 1 74 := ⟨by decide +kernel, rfl⟩
theorem d_M_seen_74 : am_D y_M_seen.2.2.1 74 (.getfield 86) 3 77 := ⟨by decide +kernel, rfl⟩
theorem d_M_seen_77 : am_D y_M_seen.2.2.1 77 (.iload_n 3) 1 78 := ⟨by decide +kernel, rfl⟩
theorem d_M_seen_78 : am_D y_M_seen.2.2.1 78 (.iaload) 1 79 := ⟨by decide +kernel, rfl⟩
theorem d_M_seen_79 : am_D y_M_seen.2.2.1 79 (.iastore) 1 80 := ⟨by decide +kernel, rfl⟩
theorem d_M_seen_80 : am_D y_M_seen.2.2.1 80 (.iinc 3 1) 3 83 := ⟨by decide +kernel, rfl⟩
theorem d_M_seen_83 : am_D y_M_seen.2.2.1 83 (.goto (-49)) 3 86 := ⟨by decide +kernel, rfl⟩
theorem d_M_seen_86 : am_D y_M_seen.2.2.1 86 (.iconst 0) 1 87 := ⟨by decide +kernel, rfl⟩
theorem d_M_seen_87 : am_D y_M_seen.2.2.1 87 (.istore_n 3) 1 88 := ⟨by decide +kernel, rfl⟩
theorem d_M_seen_88 : am_D y_M_seen.2.2.1 88 (.iload_n 3) 1 89 := ⟨by decide +kernel, rfl⟩
theorem d_M_seen_89 : am_D y_M_seen.2.2.1 89 (.aload_n 0) 1 90 := ⟨by decide +kernel, rfl⟩
theorem d_M_seen_90 : am_D y_M_seen.2.2.1 90 (.getfield 206) 3 93 := ⟨by decide +kernel, rfl⟩
theorem d_M_seen_93 : am_D y_M_seen.2.2.1 93 (.if_icmp .ge 51) 3 96 := ⟨by decide +kernel, rfl⟩
theorem d_M_seen_96 : am_D y_M_seen.2.2.1 96 (.aload_n 0) 1 97 := ⟨by decide +kernel, rfl⟩
theorem d_M_seen_97 : am_D y_M_seen.2.2.1 97 (.iload_n 3) 1 98 := ⟨by decide +kernel, rfl⟩
theorem d_M_seen_98 : am_D y_M_seen.2.2.1 98 (.aload_n 0) 1 99 := ⟨by decide +kernel, rfl⟩
theorem d_M_seen_99 : am_D y_M_seen.2.2.1 99 (.getfield 104) 3 102 := ⟨by decide +kernel, rfl⟩
theorem d_M_seen_102 : am_D y_M_seen.2.2.1 102 (.iload_n 3) 1 103 := ⟨by decide +kernel, rfl⟩
theorem d_M_seen_103 : am_D y_M_seen.2.2.1 103 (.iaload) 1 104 := ⟨by decide +kernel, rfl⟩
theorem d_M_seen_104 : am_D y_M_seen.2.2.1 104 (.iconst 1) 1 105 := ⟨by decide +kernel, rfl⟩
theorem d_M_seen_105 : am_D y_M_seen.2.2.1 105 (.isub) 1 106 := ⟨by decide +kernel, rfl⟩
theorem d_M_seen_106 : am_D y_M_seen.2.2.1 106 (.invokevirtual 249) 3 109 := ⟨by decide +kernel, rfl⟩
theorem d_M_seen_109 : am_D y_M_seen.2.2.1 109 (.istore 4) 2 111 := ⟨by decide +kernel, rfl⟩
theorem d_M_seen_111 : am_D y_M_seen.2.2.1 111 (.aload_n 0) 1 112 := ⟨by decide +kernel, rfl⟩
theorem d_M_seen_112 : am_D y_M_seen.2.2.1 112 (.getfield 92) 3 115 := ⟨by decide +kernel, rfl⟩
theorem d_M_seen_115 : am_D y_M_seen.2.2.1 115 (.iload_n 3) 1 116 := ⟨by decide +kernel, rfl⟩
theorem d_M_seen_116 : am_D y_M_seen.2.2.1 116 (.iaload) 1 117 := ⟨by decide +kernel, rfl⟩
theorem d_M_seen_117 : am_D y_M_seen.2.2.1 117 (.iconst 1) 1 118 := ⟨by decide +kernel, rfl⟩
theorem d_M_seen_118 : am_D y_M_seen.2.2.1 118 (.if_icmp .eq 20) 3 121 := ⟨by decide +kernel, rfl⟩
theorem d_M_seen_121 : am_D y_M_seen.2.2.1 121 (.iload 4) 2 123 := ⟨by decide +kernel, rfl⟩
theorem d_M_seen_123 : am_D y_M_seen.2.2.1 123 (.iload_n 1) 1 124 := ⟨by decide +kernel, rfl⟩
theorem d_M_seen_124 : am_D y_M_seen.2.2.1 124 (.if_icmp .eq 9) 3 127 := ⟨by decide +kernel, rfl⟩
theorem d_M_seen_127 : am_D y_M_seen.2.2.1 127 (.iload 4) 2 129 := ⟨by decide +kernel, rfl⟩
theorem d_M_seen_129 : am_D y_M_seen.2.2.1 129 (.iload_n 2) 1 130 := ⟨by decide +kernel, rfl⟩
theorem d_M_seen_130 : am_D y_M_seen.2.2.1 130 (.if_icmp .ne 8) 3 133 := ⟨by decide +kernel, rfl⟩
theorem d_M_seen_133 : am_D y_M_seen.2.2.1 133 (.aload_n 0) 1 134 := ⟨by decide +kernel, rfl⟩
theorem d_M_seen_134 : am_D y_M_seen.2.2.1 134 (.iload_n 3) 1 135 := ⟨by decide +kernel, rfl⟩
theorem d_M_seen_135 : am_D y_M_seen.2.2.1 135 (.invokevirtual 231) 3 138 := ⟨by decide +kernel, rfl⟩
theorem d_M_seen_138 : am_D y_M_seen.2.2.1 138 (.iinc 3 1) 3 141 := ⟨by decide +kernel, rfl⟩
theorem d_M_seen_141 : am_D y_M_seen.2.2.1 141 (.goto (-53)) 3 144 := ⟨by decide +kernel, rfl⟩
theorem d_M_seen_144 : am_D y_M_seen.2.2.1 144 (.return_) 1 145 := ⟨by decide +kernel, rfl⟩
theorem d_M_portOf_0 : am_D y_M_portOf.2.2.1 0 (.aload_n 0) 1 1 := ⟨by decide +kernel, rfl⟩
theorem d_M_portOf_1 : am_D y_M_portOf.2.2.1 1 (.getfield 107) 3 4 := ⟨by decide +kernel, rfl⟩
theorem d_M_portOf_4 : am_D y_M_portOf.2.2.1 4 (.iconst 5) 1 5 := ⟨by decide +kernel, rfl⟩
theorem d_M_portOf_5 : am_D y_M_portOf.2.2.1 5 (.iload_n 1) 1 6 := ⟨by decide +kernel, rfl⟩
theorem d_M_portOf_6 : am_D y_M_portOf.2.2.1 6 (.imul) 1 7 := ⟨by decide +kernel, rfl⟩
theorem d_M_portOf_7 : am_D y_M_portOf.2.2.1 7 (.iload_n 2) 1 8 := ⟨by decide +kernel, rfl⟩
theorem d_M_portOf_8 : am_D y_M_portOf.2.2.1 8 (.iadd) 1 9 := ⟨by decide +kernel, rfl⟩
theorem d_M_portOf_9 : am_D y_M_portOf.2.2.1 9 (.iaload) 1 10 := ⟨by decide +kernel, rfl⟩
theorem d_M_portOf_10 : am_D y_M_portOf.2.2.1 10 (.istore_n 3) 1 11 := ⟨by decide +kernel, rfl⟩
theorem d_M_portOf_11 : am_D y_M_portOf.2.2.1 11 (.iconst 4) 1 12 := ⟨by decide +kernel, rfl⟩
theorem d_M_portOf_12 : am_D y_M_portOf.2.2.1 12 (.iload_n 3) 1 13 := ⟨by decide +kernel, rfl⟩
theorem d_M_portOf_13 : am_D y_M_portOf.2.2.1 13 (.iconst 5) 1 14 := ⟨by decide +kernel, rfl⟩
theorem d_M_portOf_14 : am_D y_M_portOf.2.2.1 14 (.idiv) 1 15 := ⟨by decide +kernel, rfl⟩
theorem d_M_portOf_15 : am_D y_M_portOf.2.2.1 15 (.imul) 1 16 := ⟨by decide +kernel, rfl⟩
theorem d_M_portOf_16 : am_D y_M_portOf.2.2.1 16 (.iload_n 3) 1 17 := ⟨by decide +kernel, rfl⟩
theorem d_M_portOf_17 : am_D y_M_portOf.2.2.1 17 (.iconst 5) 1 18 := ⟨by decide +kernel, rfl⟩
theorem d_M_portOf_18 : am_D y_M_portOf.2.2.1 18 (.irem) 1 19 := ⟨by decide +kernel, rfl⟩
theorem d_M_portOf_19 : am_D y_M_portOf.2.2.1 19 (.iadd) 1 20 := ⟨by decide +kernel, rfl⟩
theorem d_M_portOf_20 : am_D y_M_portOf.2.2.1 20 (.ireturn) 1 21 := ⟨by decide +kernel, rfl⟩
theorem d_M_done_0 : am_D y_M_done.2.2.1 0 (.iconst 0) 1 1 := ⟨by decide +kernel, rfl⟩
theorem d_M_done_1 : am_D y_M_done.2.2.1 1 (.istore_n 2) 1 2 := ⟨by decide +kernel, rfl⟩
theorem d_M_done_2 : am_D y_M_done.2.2.1 2 (.iload_n 2) 1 3 := ⟨by decide +kernel, rfl⟩
theorem d_M_done_3 : am_D y_M_done.2.2.1 3 (.aload_n 0) 1 4 := ⟨by decide +kernel, rfl⟩
theorem d_M_done_4 : am_D y_M_done.2.2.1 4 (.getfield 206) 3 7 := ⟨by decide +kernel, rfl⟩
theorem d_M_done_7 : am_D y_M_done.2.2.1 7 (.if_icmp .ge 53) 3 10 := ⟨by decide +kernel, rfl⟩
theorem d_M_done_10 : am_D y_M_done.2.2.1 10 (.aload_n 0) 1 11 := ⟨by decide +kernel, rfl⟩
theorem d_M_done_11 : am_D y_M_done.2.2.1 11 (.getfield 95) 3 14 := ⟨by decide +kernel, rfl⟩
theorem d_M_done_14 : am_D y_M_done.2.2.1 14 (.iload_n 2) 1 15 := ⟨by decide +kernel, rfl⟩
theorem d_M_done_15 : am_D y_M_done.2.2.1 15 (.iaload) 1 16 := ⟨by decide +kernel, rfl⟩
theorem d_M_done_16 : am_D y_M_done.2.2.1 16 (.iload_n 1) 1 17 := ⟨by decide +kernel, rfl⟩
theorem d_M_done_17 : am_D y_M_done.2.2.1 17 (.if_icmp .ne 37) 3 20 := ⟨by decide +kernel, rfl⟩
theorem d_M_done_20 : am_D y_M_done.2.2.1 20 (.aload_n 0) 1 21 := ⟨by decide +kernel, rfl⟩
theorem d_M_done_21 : am_D y_M_done.2.2.1 21 (.getfield 92) 3 24 := ⟨by decide +kernel, rfl⟩
theorem d_M_done_24 : am_D y_M_done.2.2.1 24 (.iload_n 2) 1 25 := ⟨by decide +kernel, rfl⟩
theorem d_M_done_25 : am_D y_M_done.2.2.1 25 (.iaload) 1 26 := ⟨by decide +kernel, rfl⟩
theorem d_M_done_26 : am_D y_M_done.2.2.1 26 (.iconst 1) 1 27 := ⟨by decide +kernel, rfl⟩
theorem d_M_done_27 : am_D y_M_done.2.2.1 27 (.if_icmp .ne 11) 3 30 := ⟨by decide +kernel, rfl⟩
theorem d_M_done_30 : am_D y_M_done.2.2.1 30 (.aload_n 0) 1 31 := ⟨by decide +kernel, rfl⟩
theorem d_M_done_31 : am_D y_M_done.2.2.1 31 (.iload_n 2) 1 32 := ⟨by decide +kernel, rfl⟩
theorem d_M_done_32 : am_D y_M_done.2.2.1 32 (.invokevirtual 252) 3 35 := ⟨by decide +kernel, rfl⟩
theorem d_M_done_35 : am_D y_M_done.2.2.1 35 (.goto 18) 3 38 := ⟨by decide +kernel, rfl⟩
theorem d_M_done_38 : am_D y_M_done.2.2.1 38 (.aload_n 0) 1 39 := ⟨by decide +kernel, rfl⟩
theorem d_M_done_39 : am_D y_M_done.2.2.1 39 (.getfield 92) 3 42 := ⟨by decide +kernel, rfl⟩
theorem d_M_done_42 : am_D y_M_done.2.2.1 42 (.iload_n 2) 1 43 := ⟨by decide +kernel, rfl⟩
theorem d_M_done_43 : am_D y_M_done.2.2.1 43 (.iaload) 1 44 := ⟨by decide +kernel, rfl⟩
theorem d_M_done_44 : am_D y_M_done.2.2.1 44 (.iconst 2) 1 45 := ⟨by decide +kernel, rfl⟩
theorem d_M_done_45 : am_D y_M_done.2.2.1 45 (.if_icmp .ne 8) 3 48 := ⟨by decide +kernel, rfl⟩
theorem d_M_done_48 : am_D y_M_done.2.2.1 48 (.aload_n 0) 1 49 := ⟨by decide +kernel, rfl⟩
theorem d_M_done_49 : am_D y_M_done.2.2.1 49 (.iload_n 2) 1 50 := ⟨by decide +kernel, rfl⟩
theorem d_M_done_50 : am_D y_M_done.2.2.1 50 (.invokevirtual 255) 3 53 := ⟨by decide +kernel, rfl⟩
theorem d_M_done_53 : am_D y_M_done.2.2.1 53 (.return_) 1 54 := ⟨by decide +kernel, rfl⟩
theorem d_M_done_54 : am_D y_M_done.2.2.1 54 (.iinc 2 1) 3 57 := ⟨by decide +kernel, rfl⟩
theorem d_M_done_57 : am_D y_M_done.2.2.1 57 (.goto (-55)) 3 60 := ⟨by decide +kernel, rfl⟩
theorem d_M_done_60 : am_D y_M_done.2.2.1 60 (.return_) 1 61 := ⟨by decide +kernel, rfl⟩
theorem d_M_cleared_0 : am_D y_M_cleared.2.2.1 0 (.aload_n 0) 1 1 := ⟨by decide +kernel, rfl⟩
theorem d_M_cleared_1 : am_D y_M_cleared.2.2.1 1 (.getfield 98) 3 4 := ⟨by decide +kernel, rfl⟩
theorem d_M_cleared_4 : am_D y_M_cleared.2.2.1 4 (.iload_n 1) 1 5 := ⟨by decide +kernel, rfl⟩
theorem d_M_cleared_5 : am_D y_M_cleared.2.2.1 5 (.dup2) 1 6 := ⟨by decide +kernel, rfl⟩
theorem d_M_cleared_6 : am_D y_M_cleared.2.2.1 6 (.iaload) 1 7 := ⟨by decide +kernel, rfl⟩
theorem d_M_cleared_7 : am_D y_M_cleared.2.2.1 7 (.iconst 1) 1 8 := ⟨by decide +kernel, rfl⟩
theorem d_M_cleared_8 : am_D y_M_cleared.2.2.1 8 (.isub) 1 9 := ⟨by decide +kernel, rfl⟩
theorem d_M_cleared_9 : am_D y_M_cleared.2.2.1 9 (.iastore) 1 10 := ⟨by decide +kernel, rfl⟩
theorem d_M_cleared_10 : am_D y_M_cleared.2.2.1 10 (.aload_n 0) 1 11 := ⟨by decide +kernel, rfl⟩
theorem d_M_cleared_11 : am_D y_M_cleared.2.2.1 11 (.getfield 98) 3 14 := ⟨by decide +kernel, rfl⟩
theorem d_M_cleared_14 : am_D y_M_cleared.2.2.1 14 (.iload_n 1) 1 15 := ⟨by decide +kernel, rfl⟩
theorem d_M_cleared_15 : am_D y_M_cleared.2.2.1 15 (.iaload) 1 16 := ⟨by decide +kernel, rfl⟩
theorem d_M_cleared_16 : am_D y_M_cleared.2.2.1 16 (.ifCond .le 4) 3 19 := ⟨by decide +kernel, rfl⟩
theorem d_M_cleared_19 : am_D y_M_cleared.2.2.1 19 (.return_) 1 20 := ⟨by decide +kernel, rfl⟩
theorem d_M_cleared_20 : am_D y_M_cleared.2.2.1 20 (.aload_n 0) 1 21 := ⟨by decide +kernel, rfl⟩
theorem d_M_cleared_21 : am_D y_M_cleared.2.2.1 21 (.getfield 110) 3 24 := ⟨by decide +kernel, rfl⟩
theorem d_M_cleared_24 : am_D y_M_cleared.2.2.1 24 (.iload_n 1) 1 25 := ⟨by decide +kernel, rfl⟩
theorem d_M_cleared_25 : am_D y_M_cleared.2.2.1 25 (.baload) 1 26 := ⟨by decide +kernel, rfl⟩
theorem d_M_cleared_26 : am_D y_M_cleared.2.2.1 26 (.ifCond .eq 24) 3 29 := ⟨by decide +kernel, rfl⟩
theorem d_M_cleared_29 : am_D y_M_cleared.2.2.1 29 (.aload_n 0) 1 30 := ⟨by decide +kernel, rfl⟩
theorem d_M_cleared_30 : am_D y_M_cleared.2.2.1 30 (.aload_n 0) 1 31 := ⟨by decide +kernel, rfl⟩
theorem d_M_cleared_31 : am_D y_M_cleared.2.2.1 31 (.getfield 89) 3 34 := ⟨by decide +kernel, rfl⟩
theorem d_M_cleared_34 : am_D y_M_cleared.2.2.1 34 (.iload_n 1) 1 35 := ⟨by decide +kernel, rfl⟩
theorem d_M_cleared_35 : am_D y_M_cleared.2.2.1 35 (.iaload) 1 36 := ⟨by decide +kernel, rfl⟩
theorem d_M_cleared_36 : am_D y_M_cleared.2.2.1 36 (.invokevirtual 243) 3 39 := ⟨by decide +kernel, rfl⟩
theorem d_M_cleared_39 : am_D y_M_cleared.2.2.1 39 (.ifCond .eq 11) 3 42 := ⟨by decide +kernel, rfl⟩
theorem d_M_cleared_42 : am_D y_M_cleared.2.2.1 42 (.aload_n 0) 1 43 := ⟨by decide +kernel, rfl⟩
theorem d_M_cleared_43 : am_D y_M_cleared.2.2.1 43 (.iload_n 1) 1 44 := ⟨by decide +kernel, rfl⟩
theorem d_M_cleared_44 : am_D y_M_cleared.2.2.1 44 (.invokevirtual 246) 3 47 := ⟨by decide +kernel, rfl⟩
theorem d_M_cleared_47 : am_D y_M_cleared.2.2.1 47 (.goto 8) 3 50 := ⟨by decide +kernel, rfl⟩
theorem d_M_cleared_50 : am_D y_M_cleared.2.2.1 50 (.aload_n 0) 1 51 := ⟨by decide +kernel, rfl⟩
theorem d_M_cleared_51 : am_D y_M_cleared.2.2.1 51 (.iload_n 1) 1 52 := ⟨by decide +kernel, rfl⟩
theorem d_M_cleared_52 : am_D y_M_cleared.2.2.1 52 (.invokevirtual 258) 3 55 := ⟨by decide +kernel, rfl⟩
theorem d_M_cleared_55 : am_D y_M_cleared.2.2.1 55 (.return_) 1 56 := ⟨by decide +kernel, rfl⟩
theorem d_M_drop_0 : am_D y_M_drop.2.2.1 0 (.aload_n 0) 1 1 := ⟨by decide +kernel, rfl⟩
theorem d_M_drop_1 : am_D y_M_drop.2.2.1 1 (.dup) 1 2 := ⟨by decide +kernel, rfl⟩
theorem d_M_drop_2 : am_D y_M_drop.2.2.1 2 (.getfield 206) 3 5 := ⟨by decide +kernel, rfl⟩
theorem d_M_drop_5 : am_D y_M_drop.2.2.1 5 (.iconst 1) 1 6 := ⟨by decide +kernel, rfl⟩
theorem d_M_drop_6 : am_D y_M_drop.2.2.1 6 (.isub) 1 7 := ⟨by decide +kernel, rfl⟩
theorem d_M_drop_7 : am_D y_M_drop.2.2.1 7 (.putfield 206) 3 10 := ⟨by decide +kernel, rfl⟩
theorem d_M_drop_10 : am_D y_M_drop.2.2.1 10 (.iload_n 1) 1 11 := ⟨by decide +kernel, rfl⟩
theorem d_M_drop_11 : am_D y_M_drop.2.2.1 11 (.istore_n 2) 1 12 := ⟨by decide +kernel, rfl⟩
theorem d_M_drop_12 : am_D y_M_drop.2.2.1 12 (.iload_n 2) 1 13 := ⟨by decide +kernel, rfl⟩
theorem d_M_drop_13 : am_D y_M_drop.2.2.1 13 (.aload_n 0) 1 14 := ⟨by decide +kernel, rfl⟩
theorem d_M_drop_14 : am_D y_M_drop.2.2.1 14 (.getfield 206) 3 17 := ⟨by decide +kernel, rfl⟩
theorem d_M_drop_17 : am_D y_M_drop.2.2.1 17 (.if_icmp .ge 156) 3 20 := ⟨by decide +kernel, rfl⟩
theorem d_M_drop_20 : am_D y_M_drop.2.2.1 20 (.aload_n 0) 1 21 := ⟨by decide +kernel, rfl⟩
theorem d_M_drop_21 : am_D y_M_drop.2.2.1 21 (.getfield 89) 3 24 := ⟨by decide +kernel, rfl⟩
theorem d_M_drop_24 : am_D y_M_drop.2.2.1 24 (.iload_n 2) 1 25 := ⟨by decide +kernel, rfl⟩
theorem d_M_drop_25 : am_D y_M_drop.2.2.1 25 (.aload_n 0) 1 26 := ⟨by decide +kernel, rfl⟩
theorem d_M_drop_26 : am_D y_M_drop.2.2.1 26 (.getfield 89) 3 29 := ⟨by decide +kernel, rfl⟩
theorem d_M_drop_29 : am_D y_M_drop.2.2.1 29 (.iload_n 2) 1 30 := ⟨by decide +kernel, rfl⟩
theorem d_M_drop_30 : am_D y_M_drop.2.2.1 30 (.iconst 1) 1 31 := ⟨by decide +kernel, rfl⟩
theorem d_M_drop_31 : am_D y_M_drop.2.2.1 31 (.iadd) 1 32 := ⟨by decide +kernel, rfl⟩
theorem d_M_drop_32 : am_D y_M_drop.2.2.1 32 (.iaload) 1 33 := ⟨by decide +kernel, rfl⟩
theorem d_M_drop_33 : am_D y_M_drop.2.2.1 33 (.iastore) 1 34 := ⟨by decide +kernel, rfl⟩
theorem d_M_drop_34 : am_D y_M_drop.2.2.1 34 (.aload_n 0) 1 35 := ⟨by decide +kernel, rfl⟩
theorem d_M_drop_35 : am_D y_M_drop.2.2.1 35 (.getfield 92) 3 38 := ⟨by decide +kernel, rfl⟩
theorem d_M_drop_38 : am_D y_M_drop.2.2.1 38 (.iload_n 2) 1 39 := ⟨by decide +kernel, rfl⟩
theorem d_M_drop_39 : am_D y_M_drop.2.2.1 39 (.aload_n 0) 1 40 := ⟨by decide +kernel, rfl⟩
theorem d_M_drop_40 : am_D y_M_drop.2.2.1 40 (.getfield 92) 3 43 := ⟨by decide +kernel, rfl⟩
theorem d_M_drop_43 : am_D y_M_drop.2.2.1 43 (.iload_n 2) 1 44 := ⟨by decide +kernel, rfl⟩
theorem d_M_drop_44 : am_D y_M_drop.2.2.1 44 (.iconst 1) 1 45 := ⟨by decide +kernel, rfl⟩
theorem d_M_drop_45 : am_D y_M_drop.2.2.1 45 (.iadd) 1 46 := ⟨by decide +kernel, rfl⟩
theorem d_M_drop_46 : am_D y_M_drop.2.2.1 46 (.iaload) 1 47 := ⟨by decide +kernel, rfl⟩
theorem d_M_drop_47 : am_D y_M_drop.2.2.1 47 (.iastore) 1 48 := ⟨by decide +kernel, rfl⟩
theorem d_M_drop_48 : am_D y_M_drop.2.2.1 48 (.aload_n 0) 1 49 := ⟨by decide +kernel, rfl⟩
theorem d_M_drop_49 : am_D y_M_drop.2.2.1 49 (.getfield 95) 3 52 := ⟨by decide +kernel, rfl⟩
theorem d_M_drop_52 : am_D y_M_drop.2.2.1 52 (.iload_n 2) 1 53 := ⟨by decide +kernel, rfl⟩
theorem d_M_drop_53 : am_D y_M_drop.2.2.1 53 (.aload_n 0) 1 54 := ⟨by decide +kernel, rfl⟩
theorem d_M_drop_54 : am_D y_M_drop.2.2.1 54 (.getfield 95) 3 57 := ⟨by decide +kernel, rfl⟩
theorem d_M_drop_57 : am_D y_M_drop.2.2.1 57 (.iload_n 2) 1 58 := ⟨by decide +kernel, rfl⟩
theorem d_M_drop_58 : am_D y_M_drop.2.2.1 58 (.iconst 1) 1 59 := ⟨by decide +kernel, rfl⟩
theorem d_M_drop_59 : am_D y_M_drop.2.2.1 59 (.iadd) 1 60 := ⟨by decide +kernel, rfl⟩
theorem d_M_drop_60 : am_D y_M_drop.2.2.1 60 (.iaload) 1 61 := ⟨by decide +kernel, rfl⟩
theorem d_M_drop_61 : am_D y_M_drop.2.2.1 61 (.iastore) 1 62 := ⟨by decide +kernel, rfl⟩
theorem d_M_drop_62 : am_D y_M_drop.2.2.1 62 (.aload_n 0) 1 63 := ⟨by decide +kernel, rfl⟩
theorem d_M_drop_63 : am_D y_M_drop.2.2.1 63 (.getfield 98) 3 66 := ⟨by decide +kernel, rfl⟩
theorem d_M_drop_66 : am_D y_M_drop.2.2.1 66 (.iload_n 2) 1 67 := ⟨by decide +kernel, rfl⟩
theorem d_M_drop_67 : am_D y_M_drop.2.2.1 67 (.aload_n 0) 1 68 := ⟨by decide +kernel, rfl⟩
theorem d_M_drop_68 : am_D y_M_drop.2.2.1 68 (.getfield 98) 3 71 := ⟨by decide +kernel, rfl⟩
theorem d_M_drop_71 : am_D y_M_drop.2.2.1 71 (.iload_n 2) 1 72 := ⟨by decide +kernel, rfl⟩
theorem d_M_drop_72 : am_D y_M_drop.2.2.1 72 (.iconst 1) 1 73 := ⟨by decide +kernel, rfl⟩
theorem d_M_drop_73 : am_D y_M_drop.2.2.1 73 (.iadd) 1 74 := ⟨by decide +kernel, rfl⟩
theorem d_M_drop_74 : am_D y_M_drop.2.2.1 74 (.iaload) 1 75 := ⟨by decide +kernel, rfl⟩
theorem d_M_drop_75 : am_D y_M_drop.2.2.1 75 (.iastore) 1 76 := ⟨by decide +kernel, rfl⟩
theorem d_M_drop_76 : am_D y_M_drop.2.2.1 76 (.aload_n 0) 1 77 := ⟨by decide +kernel, rfl⟩
theorem d_M_drop_77 : am_D y_M_drop.2.2.1 77 (.getfield 101) 3 80 := ⟨by decide +kernel, rfl⟩
theorem d_M_drop_80 : am_D y_M_drop.2.2.1 80 (.iload_n 2) 1 81 := ⟨by decide +kernel, rfl⟩
theorem d_M_drop_81 : am_D y_M_drop.2.2.1 81 (.aload_n 0) 1 82 := ⟨by decide +kernel, rfl⟩
theorem d_M_drop_82 : am_D y_M_drop.2.2.1 82 (.getfield 101) 3 85 := ⟨by decide +kernel, rfl⟩
theorem d_M_drop_85 : am_D y_M_drop.2.2.1 85 (.iload_n 2) 1 86 := ⟨by decide +kernel, rfl⟩
theorem d_M_drop_86 : am_D y_M_drop.2.2.1 86 (.iconst 1) 1 87 := ⟨by decide +kernel, rfl⟩
theorem d_M_drop_87 : am_D y_M_drop.2.2.1 87 (.iadd) 1 88 := ⟨by decide +kernel, rfl⟩
theorem d_M_drop_88 : am_D y_M_drop.2.2.1 88 (.iaload) 1 89 := ⟨by decide +kernel, rfl⟩
theorem d_M_drop_89 : am_D y_M_drop.2.2.1 89 (.iastore) 1 90 := ⟨by decide +kernel, rfl⟩
theorem d_M_drop_90 : am_D y_M_drop.2.2.1 90 (.aload_n 0) 1 91 := ⟨by decide +kernel, rfl⟩
theorem d_M_drop_91 : am_D y_M_drop.2.2.1 91 (.getfield 104) 3 94 := ⟨by decide +kernel, rfl⟩
theorem d_M_drop_94 : am_D y_M_drop.2.2.1 94 (.iload_n 2) 1 95 := ⟨by decide +kernel, rfl⟩
theorem d_M_drop_95 : am_D y_M_drop.2.2.1 95 (.aload_n 0) 1 96 := ⟨by decide +kernel, rfl⟩
theorem d_M_drop_96 : am_D y_M_drop.2.2.1 96 (.getfield 104) 3 99 := ⟨by decide +kernel, rfl⟩
theorem d_M_drop_99 : am_D y_M_drop.2.2.1 99 (.iload_n 2) 1 100 := ⟨by decide +kernel, rfl⟩
theorem d_M_drop_100 : am_D y_M_drop.2.2.1 100 (.iconst 1) 1 101 := ⟨by decide +kernel, rfl⟩
theorem d_M_drop_101 : am_D y_M_drop.2.2.1 101 (.iadd) 1 102 := ⟨by decide +kernel, rfl⟩
theorem d_M_drop_102 : am_D y_M_drop.2.2.1 102 (.iaload) 1 103 := ⟨by decide +kernel, rfl⟩
theorem d_M_drop_103 : am_D y_M_drop.2.2.1 103 (.iastore) 1 104 := ⟨by decide +kernel, rfl⟩
theorem d_M_drop_104 : am_D y_M_drop.2.2.1 104 (.aload_n 0) 1 105 := ⟨by decide +kernel, rfl⟩
theorem d_M_drop_105 : am_D y_M_drop.2.2.1 105 (.getfield 110) 3 108 := ⟨by decide +kernel, rfl⟩
theorem d_M_drop_108 : am_D y_M_drop.2.2.1 108 (.iload_n 2) 1 109 := ⟨by decide +kernel, rfl⟩
theorem d_M_drop_109 : am_D y_M_drop.2.2.1 109 (.aload_n 0) 1 110 := ⟨by decide +kernel, rfl⟩
theorem d_M_drop_110 : am_D y_M_drop.2.2.1 110 (.getfield 110) 3 113 := ⟨by decide +kernel, rfl⟩
theorem d_M_drop_113 : am_D y_M_drop.2.2.1 113 (.iload_n 2) 1 114 := ⟨by decide +kernel, rfl⟩
theorem d_M_drop_114 : am_D y_M_drop.2.2.1 114 (.iconst 1) 1 115 := ⟨by decide +kernel, rfl⟩
theorem d_M_drop_115 : am_D y_M_drop.2.2.1 115 (.iadd) 1 116 := ⟨by decide +kernel, rfl⟩
theorem d_M_drop_116 : am_D y_M_drop.2.2.1 116 (.baload) 1 117 := ⟨by decide +kernel, rfl⟩
theorem d_M_drop_117 : am_D y_M_drop.2.2.1 117 (.bastore) 1 118 := ⟨by decide +kernel, rfl⟩
theorem d_M_drop_118 : am_D y_M_drop.2.2.1 118 (.aload_n 0) 1 119 := ⟨by decide +kernel, rfl⟩
theorem d_M_drop_119 : am_D y_M_drop.2.2.1 119 (.getfield 113) 3 122 := ⟨by decide +kernel, rfl⟩
theorem d_M_drop_122 : am_D y_M_drop.2.2.1 122 (.iload_n 2) 1 123 := ⟨by decide +kernel, rfl⟩
theorem d_M_drop_123 : am_D y_M_drop.2.2.1 123 (.aload_n 0) 1 124 := ⟨by decide +kernel, rfl⟩
theorem d_M_drop_124 : am_D y_M_drop.2.2.1 124 (.getfield 113) 3 127 := ⟨by decide +kernel, rfl⟩
theorem d_M_drop_127 : am_D y_M_drop.2.2.1 127 (.iload_n 2) 1 128 := ⟨by decide +kernel, rfl⟩
theorem d_M_drop_128 : am_D y_M_drop.2.2.1 128 (.iconst 1) 1 129 := ⟨by decide +kernel, rfl⟩
theorem d_M_drop_129 : am_D y_M_drop.2.2.1 129 (.iadd) 1 130 := ⟨by decide +kernel, rfl⟩
theorem d_M_drop_130 : am_D y_M_drop.2.2.1 130 (.iaload) 1 131 := ⟨by decide +kernel, rfl⟩
theorem d_M_drop_131 : am_D y_M_drop.2.2.1 131 (.iastore) 1 132 := ⟨by decide +kernel, rfl⟩
theorem d_M_drop_132 : am_D y_M_drop.2.2.1 132 (.iconst 0) 1 133 := ⟨by decide +kernel, rfl⟩
theorem d_M_drop_133 : am_D y_M_drop.2.2.1 133 (.istore_n 3) 1 134 := ⟨by decide +kernel, rfl⟩
theorem d_M_drop_134 : am_D y_M_drop.2.2.1 134 (.iload_n 3) 1 135 := ⟨by decide +kernel, rfl⟩
theorem d_M_drop_135 : am_D y_M_drop.2.2.1 135 (.iconst 5) 1 136 := ⟨by decide +kernel, rfl⟩
theorem d_M_drop_136 : am_D y_M_drop.2.2.1 136 (.if_icmp .ge 31) 3 139 := ⟨by decide +kernel, rfl⟩
theorem d_M_drop_139 : am_D y_M_drop.2.2.1 139 (.aload_n 0) 1 140 := ⟨by decide +kernel, rfl⟩
theorem d_M_drop_140 : am_D y_M_drop.2.2.1 140 (.getfield 107) 3 143 := ⟨by decide +kernel, rfl⟩
theorem d_M_drop_143 : am_D y_M_drop.2.2.1 143 (.iconst 5) 1 144 := ⟨by decide +kernel, rfl⟩
theorem d_M_drop_144 : am_D y_M_drop.2.2.1 144 (.iload_n 2) 1 145 := ⟨by decide +kernel, rfl⟩
theorem d_M_drop_145 : am_D y_M_drop.2.2.1 145 (.imul) 1 146 := ⟨by decide +kernel, rfl⟩
theorem d_M_drop_146 : am_D y_M_drop.2.2.1 146 (.iload_n 3) 1 147 := ⟨by decide +kernel, rfl⟩
theorem d_M_drop_147 : am_D y_M_drop.2.2.1 147 (.iadd) 1 148 := ⟨by decide +kernel, rfl⟩
theorem d_M_drop_148 : am_D y_M_drop.2.2.1 148 (.aload_n 0) 1 149 := ⟨by decide +kernel, rfl⟩
theorem d_M_drop_149 : am_D y_M_drop.2.2.1 149 (.getfield 107) 3 152 := ⟨by decide +kernel, rfl⟩
theorem d_M_drop_152 : am_D y_M_drop.2.2.1 152 (.iconst 5) 1 153 := ⟨by decide +kernel, rfl⟩
theorem d_M_drop_153 : am_D y_M_drop.2.2.1 153 (.iload_n 2) 1 154 := ⟨by decide +kernel, rfl⟩
theorem d_M_drop_154 : am_D y_M_drop.2.2.1 154 (.imul) 1 155 := ⟨by decide +kernel, rfl⟩
theorem d_M_drop_155 : am_D y_M_drop.2.2.1 155 (.iconst 5) 1 156 := ⟨by decide +kernel, rfl⟩
theorem d_M_drop_156 : am_D y_M_drop.2.2.1 156 (.iadd) 1 157 := ⟨by decide +kernel, rfl⟩
theorem d_M_drop_157 : am_D y_M_drop.2.2.1 157 (.iload_n 3) 1 158 := ⟨by decide +kernel, rfl⟩
theorem d_M_drop_158 : am_D y_M_drop.2.2.1 158 (.iadd) 1 159 := ⟨by decide +kernel, rfl⟩
theorem d_M_drop_159 : am_D y_M_drop.2.2.1 159 (.iaload) 1 160 := ⟨by decide +kernel, rfl⟩
theorem d_M_drop_160 : am_D y_M_drop.2.2.1 160 (.iastore) 1 161 := ⟨by decide +kernel, rfl⟩
theorem d_M_drop_161 : am_D y_M_drop.2.2.1 161 (.iinc 3 1) 3 164 := ⟨by decide +kernel, rfl⟩
theorem d_M_drop_164 : am_D y_M_drop.2.2.1 164 (.goto (-30)) 3 167 := ⟨by decide +kernel, rfl⟩
theorem d_M_drop_167 : am_D y_M_drop.2.2.1 167 (.iinc 2 1) 3 170 := ⟨by decide +kernel, rfl⟩
theorem d_M_drop_170 : am_D y_M_drop.2.2.1 170 (.goto (-158)) 3 173 := ⟨by decide +kernel, rfl⟩
theorem d_M_drop_173 : am_D y_M_drop.2.2.1 173 (.return_) 1 174 := ⟨by decide +kernel, rfl⟩
theorem d_M_led_0 : am_D y_M_led.2.2.1 0 (.aload_n 0) 1 1 := ⟨by decide +kernel, rfl⟩
theorem d_M_led_1 : am_D y_M_led.2.2.1 1 (.getfield 101) 3 4 := ⟨by decide +kernel, rfl⟩
theorem d_M_led_4 : am_D y_M_led.2.2.1 4 (.iload_n 1) 1 5 := ⟨by decide +kernel, rfl⟩
theorem d_M_led_5 : am_D y_M_led.2.2.1 5 (.iaload) 1 6 := ⟨by decide +kernel, rfl⟩
theorem d_M_led_6 : am_D y_M_led.2.2.1 6 (.ifCond .le 17) 3 9 := ⟨by decide +kernel, rfl⟩
theorem d_M_led_9 : am_D y_M_led.2.2.1 9 (.aload_n 0) 1 10 := ⟨by decide +kernel, rfl⟩
theorem d_M_led_10 : am_D y_M_led.2.2.1 10 (.iload_n 1) 1 11 := ⟨by decide +kernel, rfl⟩
theorem d_M_led_11 : am_D y_M_led.2.2.1 11 (.aload_n 0) 1 12 := ⟨by decide +kernel, rfl⟩
theorem d_M_led_12 : am_D y_M_led.2.2.1 12 (.getfield 101) 3 15 := ⟨by decide +kernel, rfl⟩
theorem d_M_led_15 : am_D y_M_led.2.2.1 15 (.iload_n 1) 1 16 := ⟨by decide +kernel, rfl⟩
theorem d_M_led_16 : am_D y_M_led.2.2.1 16 (.iaload) 1 17 := ⟨by decide +kernel, rfl⟩
theorem d_M_led_17 : am_D y_M_led.2.2.1 17 (.iconst 1) 1 18 := ⟨by decide +kernel, rfl⟩
theorem d_M_led_18 : am_D y_M_led.2.2.1 18 (.isub) 1 19 := ⟨by decide +kernel, rfl⟩
theorem d_M_led_19 : am_D y_M_led.2.2.1 19 (.invokevirtual 212) 3 22 := ⟨by decide +kernel, rfl⟩
theorem d_M_led_22 : am_D y_M_led.2.2.1 22 (.return_) 1 23 := ⟨by decide +kernel, rfl⟩
theorem d_M_led_23 : am_D y_M_led.2.2.1 23 (.aload_n 0) 1 24 := ⟨by decide +kernel, rfl⟩
theorem d_M_led_24 : am_D y_M_led.2.2.1 24 (.getfield 92) 3 27 := ⟨by decide +kernel, rfl⟩
theorem d_M_led_27 : am_D y_M_led.2.2.1 27 (.iload_n 1) 1 28 := ⟨by decide +kernel, rfl⟩
theorem d_M_led_28 : am_D y_M_led.2.2.1 28 (.iconst 3) 1 29 := ⟨by decide +kernel, rfl⟩
theorem d_M_led_29 : am_D y_M_led.2.2.1 29 (.iastore) 1 30 := ⟨by decide +kernel, rfl⟩
theorem d_M_led_30 : am_D y_M_led.2.2.1 30 (.aload_n 0) 1 31 := ⟨by decide +kernel, rfl⟩
theorem d_M_led_31 : am_D y_M_led.2.2.1 31 (.getfield 110) 3 34 := ⟨by decide +kernel, rfl⟩
theorem d_M_led_34 : am_D y_M_led.2.2.1 34 (.iload_n 1) 1 35 := ⟨by decide +kernel, rfl⟩
theorem d_M_led_35 : am_D y_M_led.2.2.1 35 (.baload) 1 36 := ⟨by decide +kernel, rfl⟩
theorem d_M_led_36 : am_D y_M_led.2.2.1 36 (.ifCond .eq 50) 3 39 := ⟨by decide +kernel, rfl⟩
theorem d_M_led_39 : am_D y_M_led.2.2.1 39 (.aload_n 0) 1 40 := ⟨by decide +kernel, rfl⟩
theorem d_M_led_40 : am_D y_M_led.2.2.1 40 (.getfield 110) 3 43 := ⟨by decide +kernel, rfl⟩
theorem d_M_led_43 : am_D y_M_led.2.2.1 43 (.iload_n 1) 1 44 := ⟨by decide +kernel, rfl⟩
theorem d_M_led_44 : am_D y_M_led.2.2.1 44 (.iconst 0) 1 45 := ⟨by decide +kernel, rfl⟩
theorem d_M_led_45 : am_D y_M_led.2.2.1 45 (.bastore) 1 46 := ⟨by decide +kernel, rfl⟩
theorem d_M_led_46 : am_D y_M_led.2.2.1 46 (.aload_n 0) 1 47 := ⟨by decide +kernel, rfl⟩
theorem d_M_led_47 : am_D y_M_led.2.2.1 47 (.aload_n 0) 1 48 := ⟨by decide +kernel, rfl⟩
theorem d_M_led_48 : am_D y_M_led.2.2.1 48 (.getfield 107) 3 51 := ⟨by decide +kernel, rfl⟩
theorem d_M_led_51 : am_D y_M_led.2.2.1 51 (.iconst 5) 1 52 := ⟨by decide +kernel, rfl⟩
theorem d_M_led_52 : am_D y_M_led.2.2.1 52 (.iload_n 1) 1 53 := ⟨by decide +kernel, rfl⟩
theorem d_M_led_53 : am_D y_M_led.2.2.1 53 (.imul) 1 54 := ⟨by decide +kernel, rfl⟩
theorem d_M_led_54 : am_D y_M_led.2.2.1 54 (.iaload) 1 55 := ⟨by decide +kernel, rfl⟩
theorem d_M_led_55 : am_D y_M_led.2.2.1 55 (.iconst 5) 1 56 := ⟨by decide +kernel, rfl⟩
theorem d_M_led_56 : am_D y_M_led.2.2.1 56 (.idiv) 1 57 := ⟨by decide +kernel, rfl⟩
theorem d_M_led_57 : am_D y_M_led.2.2.1 57 (.iconst 4) 1 58 := ⟨by decide +kernel, rfl⟩
theorem d_M_led_58 : am_D y_M_led.2.2.1 58 (.aload_n 0) 1 59 := ⟨by decide +kernel, rfl⟩
theorem d_M_led_59 : am_D y_M_led.2.2.1 59 (.getfield 89) 3 62 := ⟨by decide +kernel, rfl⟩
theorem d_M_led_62 : am_D y_M_led.2.2.1 62 (.iload_n 1) 1 63 := ⟨by decide +kernel, rfl⟩
theorem d_M_led_63 : am_D y_M_led.2.2.1 63 (.iaload) 1 64 := ⟨by decide +kernel, rfl⟩
theorem d_M_led_64 : am_D y_M_led.2.2.1 64 (.bipush 6) 2 66 := ⟨by decide +kernel, rfl⟩
theorem d_M_led_66 : am_D y_M_led.2.2.1 66 (.idiv) 1 67 := ⟨by decide +kernel, rfl⟩
theorem d_M_led_67 : am_D y_M_led.2.2.1 67 (.aload_n 0) 1 68 := ⟨by decide +kernel, rfl⟩
theorem d_M_led_68 : am_D y_M_led.2.2.1 68 (.getfield 89) 3 71 := ⟨by decide +kernel, rfl⟩
theorem d_M_led_71 : am_D y_M_led.2.2.1 71 (.iload_n 1) 1 72 := ⟨by decide +kernel, rfl⟩
theorem d_M_led_72 : am_D y_M_led.2.2.1 72 (.iaload) 1 73 := ⟨by decide +kernel, rfl⟩
theorem d_M_led_73 : am_D y_M_led.2.2.1 73 (.bipush 6) 2 75 := ⟨by decide +kernel, rfl⟩
theorem d_M_led_75 : am_D y_M_led.2.2.1 75 (.irem) 1 76 := ⟨by decide +kernel, rfl⟩
theorem d_M_led_76 : am_D y_M_led.2.2.1 76 (.aload_n 0) 1 77 := ⟨by decide +kernel, rfl⟩
theorem d_M_led_77 : am_D y_M_led.2.2.1 77 (.getfield 113) 3 80 := ⟨by decide +kernel, rfl⟩
theorem d_M_led_80 : am_D y_M_led.2.2.1 80 (.iload_n 1) 1 81 := ⟨by decide +kernel, rfl⟩
theorem d_M_led_81 : am_D y_M_led.2.2.1 81 (.iaload) 1 82 := ⟨by decide +kernel, rfl⟩
theorem d_M_led_82 : am_D y_M_led.2.2.1 82 (.iconst 0) 1 83 := ⟨by decide +kernel, rfl⟩
theorem d_M_led_83 : am_D y_M_led.2.2.1 83 (.invokevirtual 194) 3 86 := ⟨by decide +kernel, rfl⟩
theorem d_M_led_86 : am_D y_M_led.2.2.1 86 (.return_) 1 87 := ⟨by decide +kernel, rfl⟩
theorem d_M_down_0 : am_D y_M_down.2.2.1 0 (.aload_n 0) 1 1 := ⟨by decide +kernel, rfl⟩
theorem d_M_down_1 : am_D y_M_down.2.2.1 1 (.getfield 80) 3 4 := ⟨by decide +kernel, rfl⟩
theorem d_M_down_4 : am_D y_M_down.2.2.1 4 (.iload_n 1) 1 5 := ⟨by decide +kernel, rfl⟩
theorem d_M_down_5 : am_D y_M_down.2.2.1 5 (.iaload) 1 6 := ⟨by decide +kernel, rfl⟩
theorem d_M_down_6 : am_D y_M_down.2.2.1 6 (.ifCond .ne 4) 3 9 := ⟨by decide +kernel, rfl⟩
theorem d_M_down_9 : am_D y_M_down.2.2.1 9 (.return_) 1 10 := ⟨by decide +kernel, rfl⟩
theorem d_M_down_10 : am_D y_M_down.2.2.1 10 (.aload_n 0) 1 11 := ⟨by decide +kernel, rfl⟩
theorem d_M_down_11 : am_D y_M_down.2.2.1 11 (.getfield 80) 3 14 := ⟨by decide +kernel, rfl⟩
theorem d_M_down_14 : am_D y_M_down.2.2.1 14 (.iload_n 1) 1 15 := ⟨by decide +kernel, rfl⟩
theorem d_M_down_15 : am_D y_M_down.2.2.1 15 (.iaload) 1 16 := ⟨by decide +kernel, rfl⟩
theorem d_M_down_16 : am_D y_M_down.2.2.1 16 (.iconst 1) 1 17 := ⟨by decide +kernel, rfl⟩
theorem d_M_down_17 : am_D y_M_down.2.2.1 17 (.isub) 1 18 := ⟨by decide +kernel, rfl⟩
theorem d_M_down_18 : am_D y_M_down.2.2.1 18 (.istore_n 2) 1 19 := ⟨by decide +kernel, rfl⟩
theorem d_M_down_19 : am_D y_M_down.2.2.1 19 (.aload_n 0) 1 20 := ⟨by decide +kernel, rfl⟩
theorem d_M_down_20 : am_D y_M_down.2.2.1 20 (.getfield 80) 3 23 := ⟨by decide +kernel, rfl⟩
theorem d_M_down_23 : am_D y_M_down.2.2.1 23 (.iload_n 1) 1 24 := ⟨by decide +kernel, rfl⟩
theorem d_M_down_24 : am_D y_M_down.2.2.1 24 (.iconst 0) 1 25 := ⟨by decide +kernel, rfl⟩
theorem d_M_down_25 : am_D y_M_down.2.2.1 25 (.iastore) 1 26 := ⟨by decide +kernel, rfl⟩
theorem d_M_down_26 : am_D y_M_down.2.2.1 26 (.aload_n 0) 1 27 := ⟨by decide +kernel, rfl⟩
theorem d_M_down_27 : am_D y_M_down.2.2.1 27 (.getfield 80) 3 30 := ⟨by decide +kernel, rfl⟩
theorem d_M_down_30 : am_D y_M_down.2.2.1 30 (.iload_n 2) 1 31 := ⟨by decide +kernel, rfl⟩
theorem d_M_down_31 : am_D y_M_down.2.2.1 31 (.iconst 0) 1 32 := ⟨by decide +kernel, rfl⟩
theorem d_M_down_32 : am_D y_M_down.2.2.1 32 (.iastore) 1 33 := ⟨by decide +kernel, rfl⟩
theorem d_M_down_33 : am_D y_M_down.2.2.1 33 (.iconst 0) 1 34 := ⟨by decide +kernel, rfl⟩
theorem d_M_down_34 : am_D y_M_down.2.2.1 34 (.istore_n 3) 1 35 := ⟨by decide +kernel, rfl⟩
theorem d_M_down_35 : am_D y_M_down.2.2.1 35 (.iload_n 3) 1 36 := ⟨by decide +kernel, rfl⟩
theorem d_M_down_36 : am_D y_M_down.2.2.1 36 (.aload_n 0) 1 37 := ⟨by decide +kernel, rfl⟩
theorem d_M_down_37 : am_D y_M_down.2.2.1 37 (.getfield 206) 3 40 := ⟨by decide +kernel, rfl⟩
theorem d_M_down_40 : am_D y_M_down.2.2.1 40 (.if_icmp .ge 85) 3 43 := ⟨by decide +kernel, rfl⟩
theorem d_M_down_43 : am_D y_M_down.2.2.1 43 (.iconst 0) 1 44 := ⟨by decide +kernel, rfl⟩
theorem d_M_down_44 : am_D y_M_down.2.2.1 44 (.istore 4) 2 46 := ⟨by decide +kernel, rfl⟩
theorem d_M_down_46 : am_D y_M_down.2.2.1 46 (.iconst 0) 1 47 := ⟨by decide +kernel, rfl⟩
theorem d_M_down_47 : am_D y_M_down.2.2.1 47 (.istore 5) 2 49 := ⟨by decide +kernel, rfl⟩
theorem d_M_down_49 : am_D y_M_down.2.2.1 49 (.iload 5) 2 51 := ⟨by decide +kernel, rfl⟩
theorem d_M_down_51 : am_D y_M_down.2.2.1 51 (.aload_n 0) 1 52 := ⟨by decide +kernel, rfl⟩
theorem d_M_down_52 : am_D y_M_down.2.2.1 52 (.getfield 104) 3 55 := ⟨by decide +kernel, rfl⟩
theorem d_M_down_55 : am_D y_M_down.2.2.1 55 (.iload_n 3) 1 56 := ⟨by decide +kernel, rfl⟩
theorem d_M_down_56 : am_D y_M_down.2.2.1 56 (.iaload) 1 57 := ⟨by decide +kernel, rfl⟩
theorem d_M_down_57 : am_D y_M_down.2.2.1 57 (.if_icmp .ge 42) 3 60 := ⟨by decide +kernel, rfl⟩
theorem d_M_down_60 : am_D y_M_down.2.2.1 60 (.aload_n 0) 1 61 := ⟨by decide +kernel, rfl⟩
theorem d_M_down_61 : am_D y_M_down.2.2.1 61 (.iload_n 3) 1 62 := ⟨by decide +kernel, rfl⟩
theorem d_M_down_62 : am_D y_M_down.2.2.1 62 (.iload 5) 2 64 := ⟨by decide +kernel, rfl⟩
theorem d_M_down_64 : am_D y_M_down.2.2.1 64 (.invokevirtual 249) 3 67 := ⟨by decide +kernel, rfl⟩
theorem d_M_down_67 : am_D y_M_down.2.2.1 67 (.istore 6) 2 69 := ⟨by decide +kernel, rfl⟩
theorem d_M_down_69 : am_D y_M_down.2.2.1 69 (.iload 4) 2 71 := ⟨by decide +kernel, rfl⟩
theorem d_M_down_71 : am_D y_M_down.2.2.1 71 (.ifCond .ne 15) 3 74 := ⟨by decide +kernel, rfl⟩
theorem d_M_down_74 : am_D y_M_down.2.2.1 74 (.iload 6) 2 76 := ⟨by decide +kernel, rfl⟩
theorem d_M_down_76 : am_D y_M_down.2.2.1 76 (.iload_n 1) 1 77 := ⟨by decide +kernel, rfl⟩
theorem d_M_down_77 : am_D y_M_down.2.2.1 77 (.if_icmp .eq 9) 3 80 := ⟨by decide +kernel, rfl⟩
theorem d_M_down_80 : am_D y_M_down.2.2.1 80 (.iload 6) 2 82 := ⟨by decide +kernel, rfl⟩
theorem d_M_down_82 : am_D y_M_down.2.2.1 82 (.iload_n 2) 1 83 := ⟨by decide +kernel, rfl⟩
theorem d_M_down_83 : am_D y_M_down.2.2.1 83 (.if_icmp .ne 7) 3 86 := ⟨by decide +kernel, rfl⟩
theorem d_M_down_86 : am_D y_M_down.2.2.1 86 (.iconst 1) 1 87 := ⟨by decide +kernel, rfl⟩
theorem d_M_down_87 : am_D y_M_down.2.2.1 87 (.goto 4) 3 90 := ⟨by decide +kernel, rfl⟩
theorem d_M_down_90 : am_D y_M_down.2.2.1 90 (.iconst 0) 1 91 := ⟨by decide +kernel, rfl⟩
theorem d_M_down_91 : am_D y_M_down.2.2.1 91 (.istore 4) 2 93 := ⟨by decide +kernel, rfl⟩
theorem d_M_down_93 : am_D y_M_down.2.2.1 93 (.iinc 5 1) 3 96 := ⟨by decide +kernel, rfl⟩
theorem d_M_down_96 : am_D y_M_down.2.2.1 96 (.goto (-47)) 3 99 := ⟨by decide +kernel, rfl⟩
theorem d_M_down_99 : am_D y_M_down.2.2.1 99 (.iload 4) 2 101 := ⟨by decide +kernel, rfl⟩
theorem d_M_down_101 : am_D y_M_down.2.2.1 101 (.ifCond .eq 18) 3 104 := ⟨by decide +kernel, rfl⟩
theorem d_M_down_104 : am_D y_M_down.2.2.1 104 (.aload_n 0) 1 105 := ⟨by decide +kernel, rfl⟩
theorem d_M_down_105 : am_D y_M_down.2.2.1 105 (.getfield 92) 3 108 := ⟨by decide +kernel, rfl⟩
theorem d_M_down_108 : am_D y_M_down.2.2.1 108 (.iload_n 3) 1 109 := ⟨by decide +kernel, rfl⟩
theorem d_M_down_109 : am_D y_M_down.2.2.1 109 (.iaload) 1 110 := ⟨by decide +kernel, rfl⟩
theorem d_M_down_110 : am_D y_M_down.2.2.1 110 (.iconst 1) 1 111 := ⟨by decide +kernel, rfl⟩
theorem d_M_down_111 : am_D y_M_down.2.2.1 111 (.if_icmp .eq 8) 3 114 := ⟨by decide +kernel, rfl⟩
theorem d_M_down_114 : am_D y_M_down.2.2.1 114 (.aload_n 0) 1 115 := ⟨by decide +kernel, rfl⟩
theorem d_M_down_115 : am_D y_M_down.2.2.1 115 (.iload_n 3) 1 116 := ⟨by decide +kernel, rfl⟩
theorem d_M_down_116 : am_D y_M_down.2.2.1 116 (.invokevirtual 231) 3 119 := ⟨by decide +kernel, rfl⟩
theorem d_M_down_119 : am_D y_M_down.2.2.1 119 (.iinc 3 1) 3 122 := ⟨by decide +kernel, rfl⟩
theorem d_M_down_122 : am_D y_M_down.2.2.1 122 (.goto (-87)) 3 125 := ⟨by decide +kernel, rfl⟩
theorem d_M_down_125 : am_D y_M_down.2.2.1 125 (.return_) 1 126 := ⟨by decide +kernel, rfl⟩
theorem d_M_passes_0 : am_D y_M_passes.2.2.1 0 (.iconst 0) 1 1 := ⟨by decide +kernel, rfl⟩
theorem d_M_passes_1 : am_D y_M_passes.2.2.1 1 (.istore_n 3) 1 2 := ⟨by decide +kernel, rfl⟩
theorem d_M_passes_2 : am_D y_M_passes.2.2.1 2 (.iconst 0) 1 3 := ⟨by decide +kernel, rfl⟩
theorem d_M_passes_3 : am_D y_M_passes.2.2.1 3 (.istore 4) 2 5 := ⟨by decide +kernel, rfl⟩
theorem d_M_passes_5 : am_D y_M_passes.2.2.1 5 (.iload 4) 2 7 := ⟨by decide +kernel, rfl⟩
theorem d_M_passes_7 : am_D y_M_passes.2.2.1 7 (.aload_n 0) 1 8 := ⟨by decide +kernel, rfl⟩
theorem d_M_passes_8 : am_D y_M_passes.2.2.1 8 (.getfield 104) 3 11 := ⟨by decide +kernel, rfl⟩
theorem d_M_passes_11 : am_D y_M_passes.2.2.1 11 (.iload_n 1) 1 12 := ⟨by decide +kernel, rfl⟩
theorem d_M_passes_12 : am_D y_M_passes.2.2.1 12 (.iaload) 1 13 := ⟨by decide +kernel, rfl⟩
theorem d_M_passes_13 : am_D y_M_passes.2.2.1 13 (.if_icmp .ge 36) 3 16 := ⟨by decide +kernel, rfl⟩
theorem d_M_passes_16 : am_D y_M_passes.2.2.1 16 (.iload_n 3) 1 17 := ⟨by decide +kernel, rfl⟩
theorem d_M_passes_17 : am_D y_M_passes.2.2.1 17 (.ifCond .ne 20) 3 20 := ⟨by decide +kernel, rfl⟩
theorem d_M_passes_20 : am_D y_M_passes.2.2.1 20 (.aload_n 0) 1 21 := ⟨by decide +kernel, rfl⟩
theorem d_M_passes_21 : am_D y_M_passes.2.2.1 21 (.getfield 107) 3 24 := ⟨by decide +kernel, rfl⟩
theorem d_M_passes_24 : am_D y_M_passes.2.2.1 24 (.iconst 5) 1 25 := ⟨by decide +kernel, rfl⟩
theorem d_M_passes_25 : am_D y_M_passes.2.2.1 25 (.iload_n 1) 1 26 := ⟨by decide +kernel, rfl⟩
theorem d_M_passes_26 : am_D y_M_passes.2.2.1 26 (.imul) 1 27 := ⟨by decide +kernel, rfl⟩
theorem d_M_passes_27 : am_D y_M_passes.2.2.1 27 (.iload 4) 2 29 := ⟨by decide +kernel, rfl⟩
theorem d_M_passes_29 : am_D y_M_passes.2.2.1 29 (.iadd) 1 30 := ⟨by decide +kernel, rfl⟩
theorem d_M_passes_30 : am_D y_M_passes.2.2.1 30 (.iaload) 1 31 := ⟨by decide +kernel, rfl⟩
theorem d_M_passes_31 : am_D y_M_passes.2.2.1 31 (.iconst 5) 1 32 := ⟨by decide +kernel, rfl⟩
theorem d_M_passes_32 : am_D y_M_passes.2.2.1 32 (.idiv) 1 33 := ⟨by decide +kernel, rfl⟩
theorem d_M_passes_33 : am_D y_M_passes.2.2.1 33 (.iload_n 2) 1 34 := ⟨by decide +kernel, rfl⟩
theorem d_M_passes_34 : am_D y_M_passes.2.2.1 34 (.if_icmp .ne 7) 3 37 := ⟨by decide +kernel, rfl⟩
theorem d_M_passes_37 : am_D y_M_passes.2.2.1 37 (.iconst 1) 1 38 := ⟨by decide +kernel, rfl⟩
theorem d_M_passes_38 : am_D y_M_passes.2.2.1 38 (.goto 4) 3 41 := ⟨by decide +kernel, rfl⟩
theorem d_M_passes_41 : am_D y_M_passes.2.2.1 41 (.iconst 0) 1 42 := ⟨by decide +kernel, rfl⟩
theorem d_M_passes_42 : am_D y_M_passes.2.2.1 42 (.istore_n 3) 1 43 := ⟨by decide +kernel, rfl⟩
theorem d_M_passes_43 : am_D y_M_passes.2.2.1 43 (.iinc 4 1) 3 46 := ⟨by decide +kernel, rfl⟩
theorem d_M_passes_46 : am_D y_M_passes.2.2.1 46 (.goto (-41)) 3 49 := ⟨by decide +kernel, rfl⟩
theorem d_M_passes_49 : am_D y_M_passes.2.2.1 49 (.iload_n 3) 1 50 := ⟨by decide +kernel, rfl⟩
theorem d_M_passes_50 : am_D y_M_passes.2.2.1 50 (.ireturn) 1 51 := ⟨by decide +kernel, rfl⟩
theorem d_M_waiting_0 : am_D y_M_waiting.2.2.1 0 (.aload_n 0) 1 1 := ⟨by decide +kernel, rfl⟩
theorem d_M_waiting_1 : am_D y_M_waiting.2.2.1 1 (.iload_n 1) 1 2 := ⟨by decide +kernel, rfl⟩
theorem d_M_waiting_2 : am_D y_M_waiting.2.2.1 2 (.invokevirtual 133) 3 5 := ⟨by decide +kernel, rfl⟩
theorem d_M_waiting_5 : am_D y_M_waiting.2.2.1 5 (.ifCond .eq 12) 3 8 := ⟨by decide +kernel, rfl⟩
theorem d_M_waiting_8 : am_D y_M_waiting.2.2.1 8 (.iload_n 2) 1 9 := ⟨by decide +kernel, rfl⟩
theorem d_M_waiting_9 : am_D y_M_waiting.2.2.1 9 (.ifCond .lt 8) 3 12 := ⟨by decide +kernel, rfl⟩
theorem d_M_waiting_12 : am_D y_M_waiting.2.2.1 12 (.iload_n 2) 1 13 := ⟨by decide +kernel, rfl⟩
theorem d_M_waiting_13 : am_D y_M_waiting.2.2.1 13 (.iconst 5) 1 14 := ⟨by decide +kernel, rfl⟩
theorem d_M_waiting_14 : am_D y_M_waiting.2.2.1 14 (.if_icmp .le 5) 3 17 := ⟨by decide +kernel, rfl⟩
theorem d_M_waiting_17 : am_D y_M_waiting.2.2.1 17 (.iconst (-1)) 1 18 := ⟨by decide +kernel, rfl⟩
theorem d_M_waiting_18 : am_D y_M_waiting.2.2.1 18 (.ireturn) 1 19 := ⟨by decide +kernel, rfl⟩
theorem d_M_waiting_19 : am_D y_M_waiting.2.2.1 19 (.iload_n 2) 1 20 := ⟨by decide +kernel, rfl⟩
theorem d_M_waiting_20 : am_D y_M_waiting.2.2.1 20 (.iconst 4) 1 21 := ⟨by decide +kernel, rfl⟩
theorem d_M_waiting_21 : am_D y_M_waiting.2.2.1 21 (.if_icmp .ge 16) 3 24 := ⟨by decide +kernel, rfl⟩
theorem d_M_waiting_24 : am_D y_M_waiting.2.2.1 24 (.aload_n 0) 1 25 := ⟨by decide +kernel, rfl⟩
theorem d_M_waiting_25 : am_D y_M_waiting.2.2.1 25 (.getfield 32) 3 28 := ⟨by decide +kernel, rfl⟩
theorem d_M_waiting_28 : am_D y_M_waiting.2.2.1 28 (.iconst 4) 1 29 := ⟨by decide +kernel, rfl⟩
theorem d_M_waiting_29 : am_D y_M_waiting.2.2.1 29 (.iload_n 1) 1 30 := ⟨by decide +kernel, rfl⟩
theorem d_M_waiting_30 : am_D y_M_waiting.2.2.1 30 (.imul) 1 31 := ⟨by decide +kernel, rfl⟩
theorem d_M_waiting_31 : am_D y_M_waiting.2.2.1 31 (.iload_n 2) 1 32 := ⟨by decide +kernel, rfl⟩
theorem d_M_waiting_32 : am_D y_M_waiting.2.2.1 32 (.iadd) 1 33 := ⟨by decide +kernel, rfl⟩
theorem d_M_waiting_33 : am_D y_M_waiting.2.2.1 33 (.iaload) 1 34 := ⟨by decide +kernel, rfl⟩
theorem d_M_waiting_34 : am_D y_M_waiting.2.2.1 34 (.goto 15) 3 37 := ⟨by decide +kernel, rfl⟩
theorem d_M_waiting_37 : am_D y_M_waiting.2.2.1 37 (.aload_n 0) 1 38 := ⟨by decide +kernel, rfl⟩
theorem d_M_waiting_38 : am_D y_M_waiting.2.2.1 38 (.getfield 71) 3 41 := ⟨by decide +kernel, rfl⟩
theorem d_M_waiting_41 : am_D y_M_waiting.2.2.1 41 (.iconst 2) 1 42 := ⟨by decide +kernel, rfl⟩
theorem d_M_waiting_42 : am_D y_M_waiting.2.2.1 42 (.iload_n 1) 1 43 := ⟨by decide +kernel, rfl⟩
theorem d_M_waiting_43 : am_D y_M_waiting.2.2.1 43 (.imul) 1 44 := ⟨by decide +kernel, rfl⟩
theorem d_M_waiting_44 : am_D y_M_waiting.2.2.1 44 (.iload_n 2) 1 45 := ⟨by decide +kernel, rfl⟩
theorem d_M_waiting_45 : am_D y_M_waiting.2.2.1 45 (.iadd) 1 46 := ⟨by decide +kernel, rfl⟩
theorem d_M_waiting_46 : am_D y_M_waiting.2.2.1 46 (.iconst 4) 1 47 := ⟨by decide +kernel, rfl⟩
theorem d_M_waiting_47 : am_D y_M_waiting.2.2.1 47 (.isub) 1 48 := ⟨by decide +kernel, rfl⟩
theorem d_M_waiting_48 : am_D y_M_waiting.2.2.1 48 (.iaload) 1 49 := ⟨by decide +kernel, rfl⟩
theorem d_M_waiting_49 : am_D y_M_waiting.2.2.1 49 (.ireturn) 1 50 := ⟨by decide +kernel, rfl⟩
theorem d_M_rule_0 : am_D y_M_rule.2.2.1 0 (.iload_n 2) 1 1 := ⟨by decide +kernel, rfl⟩
theorem d_M_rule_1 : am_D y_M_rule.2.2.1 1 (.ifCond .lt 23) 3 4 := ⟨by decide +kernel, rfl⟩
theorem d_M_rule_4 : am_D y_M_rule.2.2.1 4 (.iload_n 2) 1 5 := ⟨by decide +kernel, rfl⟩
theorem d_M_rule_5 : am_D y_M_rule.2.2.1 5 (.bipush 6) 2 7 := ⟨by decide +kernel, rfl⟩
theorem d_M_rule_7 : am_D y_M_rule.2.2.1 7 (.if_icmp .ge 17) 3 10 := ⟨by decide +kernel, rfl⟩
theorem d_M_rule_10 : am_D y_M_rule.2.2.1 10 (.iload_n 3) 1 11 := ⟨by decide +kernel, rfl⟩
theorem d_M_rule_11 : am_D y_M_rule.2.2.1 11 (.ifCond .lt 13) 3 14 := ⟨by decide +kernel, rfl⟩
theorem d_M_rule_14 : am_D y_M_rule.2.2.1 14 (.iload_n 3) 1 15 := ⟨by decide +kernel, rfl⟩
theorem d_M_rule_15 : am_D y_M_rule.2.2.1 15 (.bipush 6) 2 17 := ⟨by decide +kernel, rfl⟩
theorem d_M_rule_17 : am_D y_M_rule.2.2.1 17 (.if_icmp .ge 7) 3 20 := ⟨by decide +kernel, rfl⟩
theorem d_M_rule_20 : am_D y_M_rule.2.2.1 20 (.iconst 1) 1 21 := ⟨by decide +kernel, rfl⟩
theorem d_M_rule_21 : am_D y_M_rule.2.2.1 21 (.goto 4) 3 24 := ⟨by decide +kernel, rfl⟩
theorem d_M_rule_24 : am_D y_M_rule.2.2.1 24 (.iconst 0) 1 25 := ⟨by decide +kernel, rfl⟩
theorem d_M_rule_25 : am_D y_M_rule.2.2.1 25 (.istore 5) 2 27 := ⟨by decide +kernel, rfl⟩
theorem d_M_rule_27 : am_D y_M_rule.2.2.1 27 (.aload_n 0) 1 28 := ⟨by decide +kernel, rfl⟩
theorem d_M_rule_28 : am_D y_M_rule.2.2.1 28 (.iload_n 1) 1 29 := ⟨by decide +kernel, rfl⟩
theorem d_M_rule_29 : am_D y_M_rule.2.2.1 29 (.invokevirtual 133) 3 32 := ⟨by decide +kernel, rfl⟩
theorem d_M_rule_32 : am_D y_M_rule.2.2.1 32 (.ifCond .eq 22) 3 35 := ⟨by decide +kernel, rfl⟩
theorem d_M_rule_35 : am_D y_M_rule.2.2.1 35 (.iload 5) 2 37 := ⟨by decide +kernel, rfl⟩
theorem d_M_rule_37 : am_D y_M_rule.2.2.1 37 (.ifCond .eq 17) 3 40 := ⟨by decide +kernel, rfl⟩
theorem d_M_rule_40 : am_D y_M_rule.2.2.1 40 (.aload_n 0) 1 41 := ⟨by decide +kernel, rfl⟩
theorem d_M_rule_41 : am_D y_M_rule.2.2.1 41 (.iload_n 1) 1 42 := ⟨by decide +kernel, rfl⟩
theorem d_M_rule_42 : am_D y_M_rule.2.2.1 42 (.bipush 6) 2 44 := ⟨by decide +kernel, rfl⟩
theorem d_M_rule_44 : am_D y_M_rule.2.2.1 44 (.iload_n 2) 1 45 := ⟨by decide +kernel, rfl⟩
theorem d_M_rule_45 : am_D y_M_rule.2.2.1 45 (.imul) 1 46 := ⟨by decide +kernel, rfl⟩
theorem d_M_rule_46 : am_D y_M_rule.2.2.1 46 (.iload_n 3) 1 47 := ⟨by decide +kernel, rfl⟩
theorem d_M_rule_47 : am_D y_M_rule.2.2.1 47 (.iadd) 1 48 := ⟨by decide +kernel, rfl⟩
theorem d_M_rule_48 : am_D y_M_rule.2.2.1 48 (.invokevirtual 170) 3 51 := ⟨by decide +kernel, rfl⟩
theorem d_M_rule_51 : am_D y_M_rule.2.2.1 51 (.goto 4) 3 54 := ⟨by decide +kernel, rfl⟩
theorem d_M_rule_54 : am_D y_M_rule.2.2.1 54 (.iconst (-1)) 1 55 := ⟨by decide +kernel, rfl⟩
theorem d_M_rule_55 : am_D y_M_rule.2.2.1 55 (.istore 6) 2 57 := ⟨by decide +kernel, rfl⟩
theorem d_M_rule_57 : am_D y_M_rule.2.2.1 57 (.iload 6) 2 59 := ⟨by decide +kernel, rfl⟩
theorem d_M_rule_59 : am_D y_M_rule.2.2.1 59 (.ifCond .lt 14) 3 62 := ⟨by decide +kernel, rfl⟩
theorem d_M_rule_62 : am_D y_M_rule.2.2.1 62 (.iload 4) 2 64 := ⟨by decide +kernel, rfl⟩
theorem d_M_rule_64 : am_D y_M_rule.2.2.1 64 (.ifCond .lt 9) 3 67 := ⟨by decide +kernel, rfl⟩
theorem d_M_rule_67 : am_D y_M_rule.2.2.1 67 (.iload 4) 2 69 := ⟨by decide +kernel, rfl⟩
theorem d_M_rule_69 : am_D y_M_rule.2.2.1 69 (.iconst 2) 1 70 := ⟨by decide +kernel, rfl⟩
theorem d_M_rule_70 : am_D y_M_rule.2.2.1 70 (.if_icmp .le 5) 3 73 := ⟨by decide +kernel, rfl⟩
theorem d_M_rule_73 : am_D y_M_rule.2.2.1 73 (.iconst (-1)) 1 74 := ⟨by decide +kernel, rfl⟩
theorem d_M_rule_74 : am_D y_M_rule.2.2.1 74 (.ireturn) 1 75 := ⟨by decide +kernel, rfl⟩
theorem d_M_rule_75 : am_D y_M_rule.2.2.1 75 (.iload 4) 2 77 := ⟨by decide +kernel, rfl⟩
theorem d_M_rule_77 : am_D y_M_rule.2.2.1 77 (.ifCond .ne 13) 3 80 := ⟨by decide +kernel, rfl⟩
theorem d_M_rule_80 : am_D y_M_rule.2.2.1 80 (.aload_n 0) 1 81 := ⟨by decide +kernel, rfl⟩
theorem d_M_rule_81 : am_D y_M_rule.2.2.1 81 (.getfield 59) 3 84 := ⟨by decide +kernel, rfl⟩
theorem d_M_rule_84 : am_D y_M_rule.2.2.1 84 (.iload 6) 2 86 := ⟨by decide +kernel, rfl⟩
theorem d_M_rule_86 : am_D y_M_rule.2.2.1 86 (.iaload) 1 87 := ⟨by decide +kernel, rfl⟩
theorem d_M_rule_87 : am_D y_M_rule.2.2.1 87 (.goto 26) 3 90 := ⟨by decide +kernel, rfl⟩
theorem d_M_rule_90 : am_D y_M_rule.2.2.1 90 (.iload 4) 2 92 := ⟨by decide +kernel, rfl⟩
theorem d_M_rule_92 : am_D y_M_rule.2.2.1 92 (.iconst 1) 1 93 := ⟨by decide +kernel, rfl⟩
theorem d_M_rule_93 : am_D y_M_rule.2.2.1 93 (.if_icmp .ne 13) 3 96 := ⟨by decide +kernel, rfl⟩
theorem d_M_rule_96 : am_D y_M_rule.2.2.1 96 (.aload_n 0) 1 97 := ⟨by decide +kernel, rfl⟩
theorem d_M_rule_97 : am_D y_M_rule.2.2.1 97 (.getfield 62) 3 100 := ⟨by decide +kernel, rfl⟩
theorem d_M_rule_100 : am_D y_M_rule.2.2.1 100 (.iload 6) 2 102 := ⟨by decide +kernel, rfl⟩
theorem d_M_rule_102 : am_D y_M_rule.2.2.1 102 (.iaload) 1 103 := ⟨by decide +kernel, rfl⟩
theorem d_M_rule_103 : am_D y_M_rule.2.2.1 103 (.goto 10) 3 106 := ⟨by decide +kernel, rfl⟩
theorem d_M_rule_106 : am_D y_M_rule.2.2.1 106 (.iload 6) 2 108 := ⟨by decide +kernel, rfl⟩
theorem d_M_rule_108 : am_D y_M_rule.2.2.1 108 (.bipush 8) 2 110 := ⟨by decide +kernel, rfl⟩
theorem d_M_rule_110 : am_D y_M_rule.2.2.1 110 (.iload_n 1) 1 111 := ⟨by decide +kernel, rfl⟩
theorem d_M_rule_111 : am_D y_M_rule.2.2.1 111 (.imul) 1 112 := ⟨by decide +kernel, rfl⟩
theorem d_M_rule_112 : am_D y_M_rule.2.2.1 112 (.isub) 1 113 := ⟨by decide +kernel, rfl⟩
theorem d_M_rule_113 : am_D y_M_rule.2.2.1 113 (.ireturn) 1 114 := ⟨by decide +kernel, rfl⟩
theorem d_M_taken_0 : am_D y_M_taken.2.2.1 0 (.aload_n 0) 1 1 := ⟨by decide +kernel, rfl⟩
theorem d_M_taken_1 : am_D y_M_taken.2.2.1 1 (.iload_n 1) 1 2 := ⟨by decide +kernel, rfl⟩
theorem d_M_taken_2 : am_D y_M_taken.2.2.1 2 (.invokevirtual 177) 3 5 := ⟨by decide +kernel, rfl⟩
theorem d_M_taken_5 : am_D y_M_taken.2.2.1 5 (.ifCond .eq 12) 3 8 := ⟨by decide +kernel, rfl⟩
theorem d_M_taken_8 : am_D y_M_taken.2.2.1 8 (.iload_n 2) 1 9 := ⟨by decide +kernel, rfl⟩
theorem d_M_taken_9 : am_D y_M_taken.2.2.1 9 (.ifCond .lt 8) 3 12 := ⟨by decide +kernel, rfl⟩
theorem d_M_taken_12 : am_D y_M_taken.2.2.1 12 (.iload_n 2) 1 13 := ⟨by decide +kernel, rfl⟩
theorem d_M_taken_13 : am_D y_M_taken.2.2.1 13 (.iconst 2) 1 14 := ⟨by decide +kernel, rfl⟩
theorem d_M_taken_14 : am_D y_M_taken.2.2.1 14 (.if_icmp .le 5) 3 17 := ⟨by decide +kernel, rfl⟩
theorem d_M_taken_17 : am_D y_M_taken.2.2.1 17 (.iconst (-1)) 1 18 := ⟨by decide +kernel, rfl⟩
theorem d_M_taken_18 : am_D y_M_taken.2.2.1 18 (.ireturn) 1 19 := ⟨by decide +kernel, rfl⟩
theorem d_M_taken_19 : am_D y_M_taken.2.2.1 19 (.iload_n 2) 1 20 := ⟨by decide +kernel, rfl⟩
theorem d_M_taken_20 : am_D y_M_taken.2.2.1 20 (.ifCond .ne 12) 3 23 := ⟨by decide +kernel, rfl⟩
theorem d_M_taken_23 : am_D y_M_taken.2.2.1 23 (.aload_n 0) 1 24 := ⟨by decide +kernel, rfl⟩
theorem d_M_taken_24 : am_D y_M_taken.2.2.1 24 (.getfield 23) 3 27 := ⟨by decide +kernel, rfl⟩
theorem d_M_taken_27 : am_D y_M_taken.2.2.1 27 (.iload_n 1) 1 28 := ⟨by decide +kernel, rfl⟩
theorem d_M_taken_28 : am_D y_M_taken.2.2.1 28 (.iaload) 1 29 := ⟨by decide +kernel, rfl⟩
theorem d_M_taken_29 : am_D y_M_taken.2.2.1 29 (.goto 23) 3 32 := ⟨by decide +kernel, rfl⟩
theorem d_M_taken_32 : am_D y_M_taken.2.2.1 32 (.iload_n 2) 1 33 := ⟨by decide +kernel, rfl⟩
theorem d_M_taken_33 : am_D y_M_taken.2.2.1 33 (.iconst 1) 1 34 := ⟨by decide +kernel, rfl⟩
theorem d_M_taken_34 : am_D y_M_taken.2.2.1 34 (.if_icmp .ne 12) 3 37 := ⟨by decide +kernel, rfl⟩
theorem d_M_taken_37 : am_D y_M_taken.2.2.1 37 (.aload_n 0) 1 38 := ⟨by decide +kernel, rfl⟩
theorem d_M_taken_38 : am_D y_M_taken.2.2.1 38 (.getfield 26) 3 41 := ⟨by decide +kernel, rfl⟩
theorem d_M_taken_41 : am_D y_M_taken.2.2.1 41 (.iload_n 1) 1 42 := ⟨by decide +kernel, rfl⟩
theorem d_M_taken_42 : am_D y_M_taken.2.2.1 42 (.iaload) 1 43 := ⟨by decide +kernel, rfl⟩
theorem d_M_taken_43 : am_D y_M_taken.2.2.1 43 (.goto 9) 3 46 := ⟨by decide +kernel, rfl⟩
theorem d_M_taken_46 : am_D y_M_taken.2.2.1 46 (.aload_n 0) 1 47 := ⟨by decide +kernel, rfl⟩
theorem d_M_taken_47 : am_D y_M_taken.2.2.1 47 (.getfield 29) 3 50 := ⟨by decide +kernel, rfl⟩
theorem d_M_taken_50 : am_D y_M_taken.2.2.1 50 (.iload_n 1) 1 51 := ⟨by decide +kernel, rfl⟩
theorem d_M_taken_51 : am_D y_M_taken.2.2.1 51 (.iaload) 1 52 := ⟨by decide +kernel, rfl⟩
theorem d_M_taken_52 : am_D y_M_taken.2.2.1 52 (.ireturn) 1 53 := ⟨by decide +kernel, rfl⟩
theorem d_M_known_0 : am_D y_M_known.2.2.1 0 (.aload_n 0) 1 1 := ⟨by decide +kernel, rfl⟩
theorem d_M_known_1 : am_D y_M_known.2.2.1 1 (.iload_n 1) 1 2 := ⟨by decide +kernel, rfl⟩
theorem d_M_known_2 : am_D y_M_known.2.2.1 2 (.iload_n 2) 1 3 := ⟨by decide +kernel, rfl⟩
theorem d_M_known_3 : am_D y_M_known.2.2.1 3 (.invokevirtual 140) 3 6 := ⟨by decide +kernel, rfl⟩
theorem d_M_known_6 : am_D y_M_known.2.2.1 6 (.ifCond .eq 18) 3 9 := ⟨by decide +kernel, rfl⟩
theorem d_M_known_9 : am_D y_M_known.2.2.1 9 (.aload_n 0) 1 10 := ⟨by decide +kernel, rfl⟩
theorem d_M_known_10 : am_D y_M_known.2.2.1 10 (.getfield 80) 3 13 := ⟨by decide +kernel, rfl⟩
theorem d_M_known_13 : am_D y_M_known.2.2.1 13 (.iconst 4) 1 14 := ⟨by decide +kernel, rfl⟩
theorem d_M_known_14 : am_D y_M_known.2.2.1 14 (.iload_n 1) 1 15 := ⟨by decide +kernel, rfl⟩
theorem d_M_known_15 : am_D y_M_known.2.2.1 15 (.imul) 1 16 := ⟨by decide +kernel, rfl⟩
theorem d_M_known_16 : am_D y_M_known.2.2.1 16 (.iload_n 2) 1 17 := ⟨by decide +kernel, rfl⟩
theorem d_M_known_17 : am_D y_M_known.2.2.1 17 (.iadd) 1 18 := ⟨by decide +kernel, rfl⟩
theorem d_M_known_18 : am_D y_M_known.2.2.1 18 (.iaload) 1 19 := ⟨by decide +kernel, rfl⟩
theorem d_M_known_19 : am_D y_M_known.2.2.1 19 (.iconst 1) 1 20 := ⟨by decide +kernel, rfl⟩
theorem d_M_known_20 : am_D y_M_known.2.2.1 20 (.isub) 1 21 := ⟨by decide +kernel, rfl⟩
theorem d_M_known_21 : am_D y_M_known.2.2.1 21 (.goto 4) 3 24 := ⟨by decide +kernel, rfl⟩
theorem d_M_known_24 : am_D y_M_known.2.2.1 24 (.iconst (-1)) 1 25 := ⟨by decide +kernel, rfl⟩
theorem d_M_known_25 : am_D y_M_known.2.2.1 25 (.ireturn) 1 26 := ⟨by decide +kernel, rfl⟩
theorem d_M_place_0 : am_D y_M_place.2.2.1 0 (.aload_n 0) 1 1 := ⟨by decide +kernel, rfl⟩
theorem d_M_place_1 : am_D y_M_place.2.2.1 1 (.iload_n 1) 1 2 := ⟨by decide +kernel, rfl⟩
theorem d_M_place_2 : am_D y_M_place.2.2.1 2 (.invokevirtual 177) 3 5 := ⟨by decide +kernel, rfl⟩
theorem d_M_place_5 : am_D y_M_place.2.2.1 5 (.ifCond .eq 14) 3 8 := ⟨by decide +kernel, rfl⟩
theorem d_M_place_8 : am_D y_M_place.2.2.1 8 (.aload_n 0) 1 9 := ⟨by decide +kernel, rfl⟩
theorem d_M_place_9 : am_D y_M_place.2.2.1 9 (.getfield 86) 3 12 := ⟨by decide +kernel, rfl⟩
theorem d_M_place_12 : am_D y_M_place.2.2.1 12 (.iload_n 1) 1 13 := ⟨by decide +kernel, rfl⟩
theorem d_M_place_13 : am_D y_M_place.2.2.1 13 (.iaload) 1 14 := ⟨by decide +kernel, rfl⟩
theorem d_M_place_14 : am_D y_M_place.2.2.1 14 (.iconst 1) 1 15 := ⟨by decide +kernel, rfl⟩
theorem d_M_place_15 : am_D y_M_place.2.2.1 15 (.isub) 1 16 := ⟨by decide +kernel, rfl⟩
theorem d_M_place_16 : am_D y_M_place.2.2.1 16 (.goto 4) 3 19 := ⟨by decide +kernel, rfl⟩
theorem d_M_place_19 : am_D y_M_place.2.2.1 19 (.iconst (-1)) 1 20 := ⟨by decide +kernel, rfl⟩
theorem d_M_place_20 : am_D y_M_place.2.2.1 20 (.ireturn) 1 21 := ⟨by decide +kernel, rfl⟩
theorem d_M_course_0 : am_D y_M_course.2.2.1 0 (.iload_n 1) 1 1 := ⟨by decide +kernel, rfl⟩
theorem d_M_course_1 : am_D y_M_course.2.2.1 1 (.ifCond .lt 23) 3 4 := ⟨by decide +kernel, rfl⟩
theorem d_M_course_4 : am_D y_M_course.2.2.1 4 (.iload_n 1) 1 5 := ⟨by decide +kernel, rfl⟩
theorem d_M_course_5 : am_D y_M_course.2.2.1 5 (.bipush 6) 2 7 := ⟨by decide +kernel, rfl⟩
theorem d_M_course_7 : am_D y_M_course.2.2.1 7 (.if_icmp .ge 17) 3 10 := ⟨by decide +kernel, rfl⟩
theorem d_M_course_10 : am_D y_M_course.2.2.1 10 (.iload_n 2) 1 11 := ⟨by decide +kernel, rfl⟩
theorem d_M_course_11 : am_D y_M_course.2.2.1 11 (.ifCond .lt 13) 3 14 := ⟨by decide +kernel, rfl⟩
theorem d_M_course_14 : am_D y_M_course.2.2.1 14 (.iload_n 2) 1 15 := ⟨by decide +kernel, rfl⟩
theorem d_M_course_15 : am_D y_M_course.2.2.1 15 (.bipush 6) 2 17 := ⟨by decide +kernel, rfl⟩
theorem d_M_course_17 : am_D y_M_course.2.2.1 17 (.if_icmp .ge 7) 3 20 := ⟨by decide +kernel, rfl⟩
theorem d_M_course_20 : am_D y_M_course.2.2.1 20 (.iconst 1) 1 21 := ⟨by decide +kernel, rfl⟩
theorem d_M_course_21 : am_D y_M_course.2.2.1 21 (.goto 4) 3 24 := ⟨by decide +kernel, rfl⟩
theorem d_M_course_24 : am_D y_M_course.2.2.1 24 (.iconst 0) 1 25 := ⟨by decide +kernel, rfl⟩
theorem d_M_course_25 : am_D y_M_course.2.2.1 25 (.istore 4) 2 27 := ⟨by decide +kernel, rfl⟩
theorem d_M_course_27 : am_D y_M_course.2.2.1 27 (.iload 4) 2 29 := ⟨by decide +kernel, rfl⟩
theorem d_M_course_29 : am_D y_M_course.2.2.1 29 (.ifCond .eq 16) 3 32 := ⟨by decide +kernel, rfl⟩
theorem d_M_course_32 : am_D y_M_course.2.2.1 32 (.aload_n 0) 1 33 := ⟨by decide +kernel, rfl⟩
theorem d_M_course_33 : am_D y_M_course.2.2.1 33 (.bipush 6) 2 35 := ⟨by decide +kernel, rfl⟩
theorem d_M_course_35 : am_D y_M_course.2.2.1 35 (.iload_n 1) 1 36 := ⟨by decide +kernel, rfl⟩
theorem d_M_course_36 : am_D y_M_course.2.2.1 36 (.imul) 1 37 := ⟨by decide +kernel, rfl⟩
theorem d_M_course_37 : am_D y_M_course.2.2.1 37 (.iload_n 2) 1 38 := ⟨by decide +kernel, rfl⟩
theorem d_M_course_38 : am_D y_M_course.2.2.1 38 (.iadd) 1 39 := ⟨by decide +kernel, rfl⟩
theorem d_M_course_39 : am_D y_M_course.2.2.1 39 (.invokevirtual 227) 3 42 := ⟨by decide +kernel, rfl⟩
theorem d_M_course_42 : am_D y_M_course.2.2.1 42 (.goto 4) 3 45 := ⟨by decide +kernel, rfl⟩
theorem d_M_course_45 : am_D y_M_course.2.2.1 45 (.iconst (-1)) 1 46 := ⟨by decide +kernel, rfl⟩
theorem d_M_course_46 : am_D y_M_course.2.2.1 46 (.istore 5) 2 48 := ⟨by decide +kernel, rfl⟩
theorem d_M_course_48 : am_D y_M_course.2.2.1 48 (.iload 5) 2 50 := ⟨by decide +kernel, rfl⟩
theorem d_M_course_50 : am_D y_M_course.2.2.1 50 (.ifCond .lt 20) 3 53 := ⟨by decide +kernel, rfl⟩
theorem d_M_course_53 : am_D y_M_course.2.2.1 53 (.iload_n 3) 1 54 := ⟨by decide +kernel, rfl⟩
theorem d_M_course_54 : am_D y_M_course.2.2.1 54 (.bipush (-2)) 2 56 := ⟨by decide +kernel, rfl⟩
theorem d_M_course_56 : am_D y_M_course.2.2.1 56 (.if_icmp .lt 14) 3 59 := ⟨by decide +kernel, rfl⟩
theorem d_M_course_59 : am_D y_M_course.2.2.1 59 (.iload_n 3) 1 60 := ⟨by decide +kernel, rfl⟩
theorem d_M_course_60 : am_D y_M_course.2.2.1 60 (.aload_n 0) 1 61 := ⟨by decide +kernel, rfl⟩
theorem d_M_course_61 : am_D y_M_course.2.2.1 61 (.getfield 104) 3 64 := ⟨by decide +kernel, rfl⟩
theorem d_M_course_64 : am_D y_M_course.2.2.1 64 (.iload 5) 2 66 := ⟨by decide +kernel, rfl⟩
theorem d_M_course_66 : am_D y_M_course.2.2.1 66 (.iaload) 1 67 := ⟨by decide +kernel, rfl⟩
theorem d_M_course_67 : am_D y_M_course.2.2.1 67 (.if_icmp .lt 5) 3 70 := ⟨by decide +kernel, rfl⟩
theorem d_M_course_70 : am_D y_M_course.2.2.1 70 (.iconst (-1)) 1 71 := ⟨by decide +kernel, rfl⟩
theorem d_M_course_71 : am_D y_M_course.2.2.1 71 (.ireturn) 1 72 := ⟨by decide +kernel, rfl⟩
theorem d_M_course_72 : am_D y_M_course.2.2.1 72 (.iload_n 3) 1 73 := ⟨by decide +kernel, rfl⟩
theorem d_M_course_73 : am_D y_M_course.2.2.1 73 (.iconst (-1)) 1 74 := ⟨by decide +kernel, rfl⟩
theorem d_M_course_74 : am_D y_M_course.2.2.1 74 (.if_icmp .ne 13) 3 77 := ⟨by decide +kernel, rfl⟩
theorem d_M_course_77 : am_D y_M_course.2.2.1 77 (.aload_n 0) 1 78 := ⟨by decide +kernel, rfl⟩
theorem d_M_course_78 : am_D y_M_course.2.2.1 78 (.getfield 92) 3 81 := ⟨by decide +kernel, rfl⟩
theorem d_M_course_81 : am_D y_M_course.2.2.1 81 (.iload 5) 2 83 := ⟨by decide +kernel, rfl⟩
theorem d_M_course_83 : am_D y_M_course.2.2.1 83 (.iaload) 1 84 := ⟨by decide +kernel, rfl⟩
theorem d_M_course_84 : am_D y_M_course.2.2.1 84 (.goto 46) 3 87 := ⟨by decide +kernel, rfl⟩
theorem d_M_course_87 : am_D y_M_course.2.2.1 87 (.iload_n 3) 1 88 := ⟨by decide +kernel, rfl⟩
theorem d_M_course_88 : am_D y_M_course.2.2.1 88 (.bipush (-2)) 2 90 := ⟨by decide +kernel, rfl⟩
theorem d_M_course_90 : am_D y_M_course.2.2.1 90 (.if_icmp .ne 27) 3 93 := ⟨by decide +kernel, rfl⟩
theorem d_M_course_93 : am_D y_M_course.2.2.1 93 (.aload_n 0) 1 94 := ⟨by decide +kernel, rfl⟩
theorem d_M_course_94 : am_D y_M_course.2.2.1 94 (.getfield 110) 3 97 := ⟨by decide +kernel, rfl⟩
theorem d_M_course_97 : am_D y_M_course.2.2.1 97 (.iload 5) 2 99 := ⟨by decide +kernel, rfl⟩
theorem d_M_course_99 : am_D y_M_course.2.2.1 99 (.baload) 1 100 := ⟨by decide +kernel, rfl⟩
theorem d_M_course_100 : am_D y_M_course.2.2.1 100 (.ifCond .eq 13) 3 103 := ⟨by decide +kernel, rfl⟩
theorem d_M_course_103 : am_D y_M_course.2.2.1 103 (.aload_n 0) 1 104 := ⟨by decide +kernel, rfl⟩
theorem d_M_course_104 : am_D y_M_course.2.2.1 104 (.getfield 113) 3 107 := ⟨by decide +kernel, rfl⟩
theorem d_M_course_107 : am_D y_M_course.2.2.1 107 (.iload 5) 2 109 := ⟨by decide +kernel, rfl⟩
theorem d_M_course_109 : am_D y_M_course.2.2.1 109 (.iaload) 1 110 := ⟨by decide +kernel, rfl⟩
theorem d_M_course_110 : am_D y_M_course.2.2.1 110 (.goto 20) 3 113 := ⟨by decide +kernel, rfl⟩
theorem d_M_course_113 : am_D y_M_course.2.2.1 113 (.iconst 0) 1 114 := ⟨by decide +kernel, rfl⟩
theorem d_M_course_114 : am_D y_M_course.2.2.1 114 (.goto 16) 3 117 := ⟨by decide +kernel, rfl⟩
theorem d_M_course_117 : am_D y_M_course.2.2.1 117 (.aload_n 0) 1 118 := ⟨by decide +kernel, rfl⟩
theorem d_M_course_118 : am_D y_M_course.2.2.1 118 (.getfield 107) 3 121 := ⟨by decide +kernel, rfl⟩
theorem d_M_course_121 : am_D y_M_course.2.2.1 121 (.iconst 5) 1 122 := ⟨by decide +kernel, rfl⟩
theorem d_M_course_122 : am_D y_M_course.2.2.1 122 (.iload 5) 2 124 := ⟨by decide +kernel, rfl⟩
theorem d_M_course_124 : am_D y_M_course.2.2.1 124 (.imul) 1 125 := ⟨by decide +kernel, rfl⟩
theorem d_M_course_125 : am_D y_M_course.2.2.1 125 (.iload_n 3) 1 126 := ⟨by decide +kernel, rfl⟩
theorem d_M_course_126 : am_D y_M_course.2.2.1 126 (.iadd) 1 127 := ⟨by decide +kernel, rfl⟩
theorem d_M_course_127 : am_D y_M_course.2.2.1 127 (.iaload) 1 128 := ⟨by decide +kernel, rfl⟩
theorem d_M_course_128 : am_D y_M_course.2.2.1 128 (.iconst 5) 1 129 := ⟨by decide +kernel, rfl⟩
theorem d_M_course_129 : am_D y_M_course.2.2.1 129 (.idiv) 1 130 := ⟨by decide +kernel, rfl⟩
theorem d_M_course_130 : am_D y_M_course.2.2.1 130 (.ireturn) 1 131 := ⟨by decide +kernel, rfl⟩
end
section
theorem pl_FF : plainName "FlowFabric" = true := by decide +kernel
theorem pl_Nd : plainName "FlowFabric$Node" = true := by decide +kernel
theorem pl_Pt : plainName "FlowFabric$Port" = true := by decide +kernel
theorem pl_Ho : plainName "FlowFabric$Host" = true := by decide +kernel
theorem pl_Ct : plainName "FlowFabric$Controller" = true := by decide +kernel
theorem pl_Co : plainName "FlowFabric$Course" = true := by decide +kernel
theorem pl_Dg : plainName "FlowFabric$Datagram" = true := by decide +kernel
theorem pl_Fr : plainName "FlowFabric$Frame" = true := by decide +kernel
theorem pl_Gd : plainName "FlowFabric$Guard" = true := by decide +kernel
theorem pl_Ms : plainName "FlowFabric$Message" = true := by decide +kernel
theorem pl_Rl : plainName "FlowFabric$Rule" = true := by decide +kernel
theorem pl_M : plainName "FlowFabricModel" = true := by decide +kernel
theorem pl_Lw : plainName "FlowFabricLaw" = true := by decide +kernel
theorem pl_FF_new : plainFor ⟨y_FF_new.1, y_FF_new.2.1, "(III)V"⟩ = true := plainFor_of_name pl_FF
theorem pl_FF_within : plainFor ⟨y_FF_within.1, y_FF_within.2.1, "(III)I"⟩ = true := plainFor_of_name pl_FF
theorem pl_Mt_min : plainFor ⟨y_Mt_min.1, y_Mt_min.2.1, "(II)I"⟩ = true := by decide +kernel
theorem pl_Mt_max : plainFor ⟨y_Mt_max.1, y_Mt_max.2.1, "(II)I"⟩ = true := by decide +kernel
theorem pl_Nd_new : plainFor ⟨y_Nd_new.1, y_Nd_new.2.1, "(II)V"⟩ = true := plainFor_of_name pl_Nd
theorem pl_Pt_new : plainFor ⟨y_Pt_new.1, y_Pt_new.2.1, "()V"⟩ = true := plainFor_of_name pl_Pt
theorem pl_AL_new : plainFor ⟨y_AL_new.1, y_AL_new.2.1, "()V"⟩ = true := by decide +kernel
theorem pl_Al_new : plainFor ⟨y_Al_new.1, y_Al_new.2.1, "()V"⟩ = true := by decide +kernel
theorem pl_Ac_new : plainFor ⟨y_Ac_new.1, y_Ac_new.2.1, "()V"⟩ = true := by decide +kernel
theorem pl_Ct_new : plainFor ⟨y_Ct_new.1, y_Ct_new.2.1, "([LFlowFabric$Node;)V"⟩ = true := plainFor_of_name pl_Ct
theorem pl_As_fill : plainFor ⟨y_As_fill.1, y_As_fill.2.1, "([II)V"⟩ = true := by decide +kernel
theorem pl_FF_attach : plainFor ⟨y_FF_attach.1, y_FF_attach.2.1, "(II)I"⟩ = true := plainFor_of_name pl_FF
theorem pl_FF_isPort : plainFor ⟨y_FF_isPort.1, y_FF_isPort.2.1, "(II)Z"⟩ = true := plainFor_of_name pl_FF
theorem pl_FF_isSwitch : plainFor ⟨y_FF_isSwitch.1, y_FF_isSwitch.2.1, "(I)Z"⟩ = true := plainFor_of_name pl_FF
theorem pl_Pt_isFree : plainFor ⟨y_Pt_isFree.1, y_Pt_isFree.2.1, "()Z"⟩ = true := plainFor_of_name pl_Pt
theorem pl_Ho_new : plainFor ⟨y_Ho_new.1, y_Ho_new.2.1, "(III)V"⟩ = true := plainFor_of_name pl_Ho
theorem pl_FF_link : plainFor ⟨y_FF_link.1, y_FF_link.2.1, "(IIII)Z"⟩ = true := plainFor_of_name pl_FF
theorem pl_FF_endOf : plainFor ⟨y_FF_endOf.1, y_FF_endOf.2.1, "(II)I"⟩ = true := plainFor_of_name pl_FF
theorem pl_Pt_join : plainFor ⟨y_Pt_join.1, y_Pt_join.2.1, "(I)V"⟩ = true := plainFor_of_name pl_Pt
theorem pl_FF_turn : plainFor ⟨y_FF_turn.1, y_FF_turn.2.1, "(IIZ)Z"⟩ = true := plainFor_of_name pl_FF
theorem pl_FF_isEnd : plainFor ⟨y_FF_isEnd.1, y_FF_isEnd.2.1, "(II)Z"⟩ = true := plainFor_of_name pl_FF
theorem pl_FF_switchOf : plainFor ⟨y_FF_switchOf.1, y_FF_switchOf.2.1, "(I)I"⟩ = true := plainFor_of_name pl_FF
theorem pl_Nd_holdsLinks : plainFor ⟨y_Nd_holdsLinks.1, y_Nd_holdsLinks.2.1, "()Z"⟩ = true := plainFor_of_name pl_Nd
theorem pl_AL_size : plainFor ⟨y_AL_size.1, y_AL_size.2.1, "()I"⟩ = true := by decide +kernel
theorem pl_Nd_turnPort : plainFor ⟨y_Nd_turnPort.1, y_Nd_turnPort.2.1, "(IZ)V"⟩ = true := plainFor_of_name pl_Nd
theorem pl_AL_clear : plainFor ⟨y_AL_clear.1, y_AL_clear.2.1, "()V"⟩ = true := by decide +kernel
theorem pl_Ms_ofValue : plainFor ⟨y_Ms_ofValue.1, y_Ms_ofValue.2.1, "(II)LFlowFabric$Message;"⟩ = true := plainFor_of_name pl_Ms
theorem pl_Ms_new : plainFor ⟨y_Ms_new.1, y_Ms_new.2.1, "(IIIII)V"⟩ = true := plainFor_of_name pl_Ms
theorem pl_AL_add : plainFor ⟨y_AL_add.1, y_AL_add.2.1, "(Ljava/lang/Object;)Z"⟩ = true := by decide +kernel
theorem pl_AL_add2 : plainFor ⟨y_AL_add2.1, y_AL_add2.2.1, "(Ljava/lang/Object;[Ljava/lang/Object;I)V"⟩ = true := by decide +kernel
theorem pl_AL_grow : plainFor ⟨y_AL_grow.1, y_AL_grow.2.1, "()[Ljava/lang/Object;"⟩ = true := by decide +kernel
theorem pl_AL_grow2 : plainFor ⟨y_AL_grow2.1, y_AL_grow2.2.1, "(I)[Ljava/lang/Object;"⟩ = true := by decide +kernel
theorem pl_Sp_newLength : plainFor ⟨y_Sp_newLength.1, y_Sp_newLength.2.1, "(III)I"⟩ = true := by decide +kernel
theorem pl_As_copyOf : plainFor ⟨y_As_copyOf.1, y_As_copyOf.2.1, "([Ljava/lang/Object;I)[Ljava/lang/Object;"⟩ = true := by decide +kernel
theorem pl_As_copyOf2 : plainFor ⟨y_As_copyOf2.1, y_As_copyOf2.2.1, "([Ljava/lang/Object;ILjava/lang/Class;)[Ljava/lang/Object;"⟩ = true := by decide +kernel
theorem pl_FF_portOf : plainFor ⟨y_FF_portOf.1, y_FF_portOf.2.1, "(I)I"⟩ = true := plainFor_of_name pl_FF
theorem pl_FF_guard : plainFor ⟨y_FF_guard.1, y_FF_guard.2.1, "(IIII)I"⟩ = true := plainFor_of_name pl_FF
theorem pl_Gd_isMatch : plainFor ⟨y_Gd_isMatch.1, y_Gd_isMatch.2.1, "(I)Z"⟩ = true := plainFor_of_name pl_Gd
theorem pl_Gd_new : plainFor ⟨y_Gd_new.1, y_Gd_new.2.1, "(III)V"⟩ = true := plainFor_of_name pl_Gd
theorem pl_FF_unguard : plainFor ⟨y_FF_unguard.1, y_FF_unguard.2.1, "(II)I"⟩ = true := plainFor_of_name pl_FF
theorem pl_FF_isGuard : plainFor ⟨y_FF_isGuard.1, y_FF_isGuard.2.1, "(II)Z"⟩ = true := plainFor_of_name pl_FF
theorem pl_AL_remove : plainFor ⟨y_AL_remove.1, y_AL_remove.2.1, "(I)Ljava/lang/Object;"⟩ = true := by decide +kernel
theorem pl_Ob_checkIndex : plainFor ⟨y_Ob_checkIndex.1, y_Ob_checkIndex.2.1, "(II)I"⟩ = true := by decide +kernel
theorem pl_Pr_checkIndex : plainFor ⟨y_Pr_checkIndex.1, y_Pr_checkIndex.2.1, "(IILjava/util/function/BiFunction;)I"⟩ = true := by decide +kernel
theorem pl_AL_fastRemove : plainFor ⟨y_AL_fastRemove.1, y_AL_fastRemove.2.1, "([Ljava/lang/Object;I)V"⟩ = true := by decide +kernel
theorem pl_FF_send : plainFor ⟨y_FF_send.1, y_FF_send.2.1, "(III)Z"⟩ = true := plainFor_of_name pl_FF
theorem pl_FF_isHost : plainFor ⟨y_FF_isHost.1, y_FF_isHost.2.1, "(I)Z"⟩ = true := plainFor_of_name pl_FF
theorem pl_Dg_new : plainFor ⟨y_Dg_new.1, y_Dg_new.2.1, "(III)V"⟩ = true := plainFor_of_name pl_Dg
theorem pl_Nd_comeIn : plainFor ⟨y_Nd_comeIn.1, y_Nd_comeIn.2.1, "(LFlowFabric$Datagram;II)V"⟩ = true := plainFor_of_name pl_Nd
theorem pl_Nd_strongestGuard : plainFor ⟨y_Nd_strongestGuard.1, y_Nd_strongestGuard.2.1, "(LFlowFabric$Datagram;I)LFlowFabric$Guard;"⟩ = true := plainFor_of_name pl_Nd
theorem pl_AL_get : plainFor ⟨y_AL_get.1, y_AL_get.2.1, "(I)Ljava/lang/Object;"⟩ = true := by decide +kernel
theorem pl_AL_elementData : plainFor ⟨y_AL_elementData.1, y_AL_elementData.2.1, "(I)Ljava/lang/Object;"⟩ = true := by decide +kernel
theorem pl_Gd_matches : plainFor ⟨y_Gd_matches.1, y_Gd_matches.2.1, "(LFlowFabric$Datagram;I)Z"⟩ = true := plainFor_of_name pl_Gd
theorem pl_Gd_fits : plainFor ⟨y_Gd_fits.1, y_Gd_fits.2.1, "(II)Z"⟩ = true := plainFor_of_name pl_Gd
theorem pl_Fr_ofDatagram : plainFor ⟨y_Fr_ofDatagram.1, y_Fr_ofDatagram.2.1, "(LFlowFabric$Datagram;)LFlowFabric$Frame;"⟩ = true := plainFor_of_name pl_Fr
theorem pl_Fr_new : plainFor ⟨y_Fr_new.1, y_Fr_new.2.1, "(LFlowFabric$Datagram;I)V"⟩ = true := plainFor_of_name pl_Fr
theorem pl_Pt_sendOut : plainFor ⟨y_Pt_sendOut.1, y_Pt_sendOut.2.1, "(LFlowFabric$Frame;)V"⟩ = true := plainFor_of_name pl_Pt
theorem pl_Ho_take : plainFor ⟨y_Ho_take.1, y_Ho_take.2.1, "(LFlowFabric$Datagram;)V"⟩ = true := plainFor_of_name pl_Ho
theorem pl_Nd_comeToRules : plainFor ⟨y_Nd_comeToRules.1, y_Nd_comeToRules.2.1, "(LFlowFabric$Datagram;II)V"⟩ = true := plainFor_of_name pl_Nd
theorem pl_Nd_ruleIndex : plainFor ⟨y_Nd_ruleIndex.1, y_Nd_ruleIndex.2.1, "(II)I"⟩ = true := plainFor_of_name pl_Nd
theorem pl_Ms_ofDatagram : plainFor ⟨y_Ms_ofDatagram.1, y_Ms_ofDatagram.2.1, "(IILFlowFabric$Datagram;)LFlowFabric$Message;"⟩ = true := plainFor_of_name pl_Ms
theorem pl_Nd_addIfOpen : plainFor ⟨y_Nd_addIfOpen.1, y_Nd_addIfOpen.2.1, "(LFlowFabric$Message;)V"⟩ = true := plainFor_of_name pl_Nd
theorem pl_FF_carry : plainFor ⟨y_FF_carry.1, y_FF_carry.2.1, "(II)Z"⟩ = true := plainFor_of_name pl_FF
theorem pl_AL_isEmpty : plainFor ⟨y_AL_isEmpty.1, y_AL_isEmpty.2.1, "()Z"⟩ = true := by decide +kernel
theorem pl_Nd_receive : plainFor ⟨y_Nd_receive.1, y_Nd_receive.2.1, "(LFlowFabric$Frame;II)V"⟩ = true := plainFor_of_name pl_Nd
theorem pl_Ms_ofProbe : plainFor ⟨y_Ms_ofProbe.1, y_Ms_ofProbe.2.1, "(II)LFlowFabric$Message;"⟩ = true := plainFor_of_name pl_Ms
theorem pl_FF_obey : plainFor ⟨y_FF_obey.1, y_FF_obey.2.1, "(I)I"⟩ = true := plainFor_of_name pl_FF
theorem pl_Nd_carryOut : plainFor ⟨y_Nd_carryOut.1, y_Nd_carryOut.2.1, "(LFlowFabric$Message;I)V"⟩ = true := plainFor_of_name pl_Nd
theorem pl_Nd_putRule : plainFor ⟨y_Nd_putRule.1, y_Nd_putRule.2.1, "(LFlowFabric$Message;I)V"⟩ = true := plainFor_of_name pl_Nd
theorem pl_Nd_cutRule : plainFor ⟨y_Nd_cutRule.1, y_Nd_cutRule.2.1, "(II)V"⟩ = true := plainFor_of_name pl_Nd
theorem pl_Ms_ofPair : plainFor ⟨y_Ms_ofPair.1, y_Ms_ofPair.2.1, "(IIII)LFlowFabric$Message;"⟩ = true := plainFor_of_name pl_Ms
theorem pl_Rl_new : plainFor ⟨y_Rl_new.1, y_Rl_new.2.1, "(IIII)V"⟩ = true := plainFor_of_name pl_Rl
theorem pl_Ms_toDatagram : plainFor ⟨y_Ms_toDatagram.1, y_Ms_toDatagram.2.1, "()LFlowFabric$Datagram;"⟩ = true := plainFor_of_name pl_Ms
theorem pl_Nd_sendOutAt : plainFor ⟨y_Nd_sendOutAt.1, y_Nd_sendOutAt.2.1, "(ILFlowFabric$Datagram;)V"⟩ = true := plainFor_of_name pl_Nd
theorem pl_Nd_sendProbes : plainFor ⟨y_Nd_sendProbes.1, y_Nd_sendProbes.2.1, "()V"⟩ = true := plainFor_of_name pl_Nd
theorem pl_Fr_ofProbe : plainFor ⟨y_Fr_ofProbe.1, y_Fr_ofProbe.2.1, "(I)LFlowFabric$Frame;"⟩ = true := plainFor_of_name pl_Fr
theorem pl_FF_report : plainFor ⟨y_FF_report.1, y_FF_report.2.1, "(I)I"⟩ = true := plainFor_of_name pl_FF
theorem pl_Ct_handle : plainFor ⟨y_Ct_handle.1, y_Ct_handle.2.1, "(ILFlowFabric$Message;)V"⟩ = true := plainFor_of_name pl_Ct
theorem pl_Ct_handleMiss : plainFor ⟨y_Ct_handleMiss.1, y_Ct_handleMiss.2.1, "(IILFlowFabric$Datagram;)V"⟩ = true := plainFor_of_name pl_Ct
theorem pl_Ct_courseOf : plainFor ⟨y_Ct_courseOf.1, y_Ct_courseOf.2.1, "(II)LFlowFabric$Course;"⟩ = true := plainFor_of_name pl_Ct
theorem pl_Ct_clearCourse : plainFor ⟨y_Ct_clearCourse.1, y_Ct_clearCourse.2.1, "(LFlowFabric$Course;)V"⟩ = true := plainFor_of_name pl_Ct
theorem pl_Ct_orderOuts : plainFor ⟨y_Ct_orderOuts.1, y_Ct_orderOuts.2.1, "(IILFlowFabric$Datagram;)V"⟩ = true := plainFor_of_name pl_Ct
theorem pl_Ct_makeCourse : plainFor ⟨y_Ct_makeCourse.1, y_Ct_makeCourse.2.1, "(LFlowFabric$Datagram;)V"⟩ = true := plainFor_of_name pl_Ct
theorem pl_Ct_findWay : plainFor ⟨y_Ct_findWay.1, y_Ct_findWay.2.1, "(II)[I"⟩ = true := plainFor_of_name pl_Ct
theorem pl_Ct_countSteps : plainFor ⟨y_Ct_countSteps.1, y_Ct_countSteps.2.1, "(I)V"⟩ = true := plainFor_of_name pl_Ct
theorem pl_Ct_nextEnd : plainFor ⟨y_Ct_nextEnd.1, y_Ct_nextEnd.2.1, "(I)I"⟩ = true := plainFor_of_name pl_Ct
theorem pl_Co_new : plainFor ⟨y_Co_new.1, y_Co_new.2.1, "(IILFlowFabric$Datagram;)V"⟩ = true := plainFor_of_name pl_Co
theorem pl_Co_beginLaying : plainFor ⟨y_Co_beginLaying.1, y_Co_beginLaying.2.1, "([I)V"⟩ = true := plainFor_of_name pl_Co
theorem pl_Ct_leadAhead : plainFor ⟨y_Ct_leadAhead.1, y_Ct_leadAhead.2.1, "(LFlowFabric$Course;)V"⟩ = true := plainFor_of_name pl_Ct
theorem pl_Ct_handleSeen : plainFor ⟨y_Ct_handleSeen.1, y_Ct_handleSeen.2.1, "(II)V"⟩ = true := plainFor_of_name pl_Ct
theorem pl_Co_endsWith : plainFor ⟨y_Co_endsWith.1, y_Co_endsWith.2.1, "(I)Z"⟩ = true := plainFor_of_name pl_Co
theorem pl_Co_isLayingOrLaid : plainFor ⟨y_Co_isLayingOrLaid.1, y_Co_isLayingOrLaid.2.1, "()Z"⟩ = true := plainFor_of_name pl_Co
theorem pl_Ct_handleDone : plainFor ⟨y_Ct_handleDone.1, y_Ct_handleDone.2.1, "(I)V"⟩ = true := plainFor_of_name pl_Ct
theorem pl_Ct_countDone : plainFor ⟨y_Ct_countDone.1, y_Ct_countDone.2.1, "(LFlowFabric$Course;I)V"⟩ = true := plainFor_of_name pl_Ct
theorem pl_Ct_finishLaying : plainFor ⟨y_Ct_finishLaying.1, y_Ct_finishLaying.2.1, "(LFlowFabric$Course;)V"⟩ = true := plainFor_of_name pl_Ct
theorem pl_Ct_handleNoRoom : plainFor ⟨y_Ct_handleNoRoom.1, y_Ct_handleNoRoom.2.1, "(II)V"⟩ = true := plainFor_of_name pl_Ct
theorem pl_Ct_handleGone : plainFor ⟨y_Ct_handleGone.1, y_Ct_handleGone.2.1, "(III)V"⟩ = true := plainFor_of_name pl_Ct
theorem pl_Co_passes : plainFor ⟨y_Co_passes.1, y_Co_passes.2.1, "(I)Z"⟩ = true := plainFor_of_name pl_Co
theorem pl_Ct_handleDown : plainFor ⟨y_Ct_handleDown.1, y_Ct_handleDown.2.1, "(I)V"⟩ = true := plainFor_of_name pl_Ct
theorem pl_Co_leadsOutOf : plainFor ⟨y_Co_leadsOutOf.1, y_Co_leadsOutOf.2.1, "(I)Z"⟩ = true := plainFor_of_name pl_Co
theorem pl_FF_probe : plainFor ⟨y_FF_probe.1, y_FF_probe.2.1, "()Z"⟩ = true := plainFor_of_name pl_FF
theorem pl_FF_tick : plainFor ⟨y_FF_tick.1, y_FF_tick.2.1, "()I"⟩ = true := plainFor_of_name pl_FF
theorem pl_Nd_dropOldRules : plainFor ⟨y_Nd_dropOldRules.1, y_Nd_dropOldRules.2.1, "(II)I"⟩ = true := plainFor_of_name pl_Nd
theorem pl_Rl_isOld : plainFor ⟨y_Rl_isOld.1, y_Rl_isOld.2.1, "(II)Z"⟩ = true := plainFor_of_name pl_Rl
theorem pl_FF_waiting : plainFor ⟨y_FF_waiting.1, y_FF_waiting.2.1, "(II)I"⟩ = true := plainFor_of_name pl_FF
theorem pl_FF_rule : plainFor ⟨y_FF_rule.1, y_FF_rule.2.1, "(IIII)I"⟩ = true := plainFor_of_name pl_FF
theorem pl_FF_hits : plainFor ⟨y_FF_hits.1, y_FF_hits.2.1, "(II)I"⟩ = true := plainFor_of_name pl_FF
theorem pl_FF_taken : plainFor ⟨y_FF_taken.1, y_FF_taken.2.1, "(II)I"⟩ = true := plainFor_of_name pl_FF
theorem pl_FF_known : plainFor ⟨y_FF_known.1, y_FF_known.2.1, "(II)I"⟩ = true := plainFor_of_name pl_FF
theorem pl_FF_place : plainFor ⟨y_FF_place.1, y_FF_place.2.1, "(I)I"⟩ = true := plainFor_of_name pl_FF
theorem pl_FF_course : plainFor ⟨y_FF_course.1, y_FF_course.2.1, "(III)I"⟩ = true := plainFor_of_name pl_FF
theorem pl_Lw_cell : plainFor ⟨y_Lw_cell.1, y_Lw_cell.2.1, "([II)I"⟩ = true := plainFor_of_name pl_Lw
theorem pl_M_new : plainFor ⟨y_M_new.1, y_M_new.2.1, "(III)V"⟩ = true := plainFor_of_name pl_M
theorem pl_M_between : plainFor ⟨y_M_between.1, y_M_between.2.1, "(III)I"⟩ = true := plainFor_of_name pl_M
theorem pl_M_attach : plainFor ⟨y_M_attach.1, y_M_attach.2.1, "(II)I"⟩ = true := plainFor_of_name pl_M
theorem pl_M_isPort : plainFor ⟨y_M_isPort.1, y_M_isPort.2.1, "(II)Z"⟩ = true := plainFor_of_name pl_M
theorem pl_M_isSwitch : plainFor ⟨y_M_isSwitch.1, y_M_isSwitch.2.1, "(I)Z"⟩ = true := plainFor_of_name pl_M
theorem pl_M_link : plainFor ⟨y_M_link.1, y_M_link.2.1, "(IIII)Z"⟩ = true := plainFor_of_name pl_M
theorem pl_M_join : plainFor ⟨y_M_join.1, y_M_join.2.1, "(II)V"⟩ = true := plainFor_of_name pl_M
theorem pl_M_turn : plainFor ⟨y_M_turn.1, y_M_turn.2.1, "(IIZ)Z"⟩ = true := plainFor_of_name pl_M
theorem pl_M_tell : plainFor ⟨y_M_tell.1, y_M_tell.2.1, "(IIIIII)V"⟩ = true := plainFor_of_name pl_M
theorem pl_M_add : plainFor ⟨y_M_add.1, y_M_add.2.1, "(IIIIII)V"⟩ = true := plainFor_of_name pl_M
theorem pl_M_guard : plainFor ⟨y_M_guard.1, y_M_guard.2.1, "(IIII)I"⟩ = true := plainFor_of_name pl_M
theorem pl_M_hits : plainFor ⟨y_M_hits.1, y_M_hits.2.1, "(II)I"⟩ = true := plainFor_of_name pl_M
theorem pl_M_isGuard : plainFor ⟨y_M_isGuard.1, y_M_isGuard.2.1, "(II)Z"⟩ = true := plainFor_of_name pl_M
theorem pl_M_unguard : plainFor ⟨y_M_unguard.1, y_M_unguard.2.1, "(II)I"⟩ = true := plainFor_of_name pl_M
theorem pl_M_send : plainFor ⟨y_M_send.1, y_M_send.2.1, "(III)Z"⟩ = true := plainFor_of_name pl_M
theorem pl_M_isHost : plainFor ⟨y_M_isHost.1, y_M_isHost.2.1, "(I)Z"⟩ = true := plainFor_of_name pl_M
theorem pl_M_comesIn : plainFor ⟨y_M_comesIn.1, y_M_comesIn.2.1, "(IIIII)V"⟩ = true := plainFor_of_name pl_M
theorem pl_M_matches : plainFor ⟨y_M_matches.1, y_M_matches.2.1, "(IIII)Z"⟩ = true := plainFor_of_name pl_M
theorem pl_M_out : plainFor ⟨y_M_out.1, y_M_out.2.1, "(IIII)V"⟩ = true := plainFor_of_name pl_M
theorem pl_M_toRules : plainFor ⟨y_M_toRules.1, y_M_toRules.2.1, "(IIIII)V"⟩ = true := plainFor_of_name pl_M
theorem pl_M_ruleAt : plainFor ⟨y_M_ruleAt.1, y_M_ruleAt.2.1, "(II)I"⟩ = true := plainFor_of_name pl_M
theorem pl_M_carry : plainFor ⟨y_M_carry.1, y_M_carry.2.1, "(II)Z"⟩ = true := plainFor_of_name pl_M
theorem pl_M_obey : plainFor ⟨y_M_obey.1, y_M_obey.2.1, "(I)I"⟩ = true := plainFor_of_name pl_M
theorem pl_M_take : plainFor ⟨y_M_take.1, y_M_take.2.1, "(I)V"⟩ = true := plainFor_of_name pl_M
theorem pl_M_put : plainFor ⟨y_M_put.1, y_M_put.2.1, "(III)V"⟩ = true := plainFor_of_name pl_M
theorem pl_M_removeRule : plainFor ⟨y_M_removeRule.1, y_M_removeRule.2.1, "(II)V"⟩ = true := plainFor_of_name pl_M
theorem pl_M_probe : plainFor ⟨y_M_probe.1, y_M_probe.2.1, "()Z"⟩ = true := plainFor_of_name pl_M
theorem pl_M_order : plainFor ⟨y_M_order.1, y_M_order.2.1, "(IIIIII)V"⟩ = true := plainFor_of_name pl_M
theorem pl_M_tick : plainFor ⟨y_M_tick.1, y_M_tick.2.1, "()I"⟩ = true := plainFor_of_name pl_M
theorem pl_M_report : plainFor ⟨y_M_report.1, y_M_report.2.1, "(I)I"⟩ = true := plainFor_of_name pl_M
theorem pl_M_missed : plainFor ⟨y_M_missed.1, y_M_missed.2.1, "(IIIII)V"⟩ = true := plainFor_of_name pl_M
theorem pl_M_courseOf : plainFor ⟨y_M_courseOf.1, y_M_courseOf.2.1, "(I)I"⟩ = true := plainFor_of_name pl_M
theorem pl_M_keep : plainFor ⟨y_M_keep.1, y_M_keep.2.1, "(II)V"⟩ = true := plainFor_of_name pl_M
theorem pl_M_clear : plainFor ⟨y_M_clear.1, y_M_clear.2.1, "(I)V"⟩ = true := plainFor_of_name pl_M
theorem pl_M_flood : plainFor ⟨y_M_flood.1, y_M_flood.2.1, "(IIIII)V"⟩ = true := plainFor_of_name pl_M
theorem pl_M_search : plainFor ⟨y_M_search.1, y_M_search.2.1, "(I)Z"⟩ = true := plainFor_of_name pl_M
theorem pl_M_isWay : plainFor ⟨y_M_isWay.1, y_M_isWay.2.1, "(IIII)Z"⟩ = true := plainFor_of_name pl_M
theorem pl_M_leads : plainFor ⟨y_M_leads.1, y_M_leads.2.1, "(II)I"⟩ = true := plainFor_of_name pl_M
theorem pl_M_lay : plainFor ⟨y_M_lay.1, y_M_lay.2.1, "(I)V"⟩ = true := plainFor_of_name pl_M
theorem pl_M_lead : plainFor ⟨y_M_lead.1, y_M_lead.2.1, "(II)V"⟩ = true := plainFor_of_name pl_M
theorem pl_M_seen : plainFor ⟨y_M_seen.1, y_M_seen.2.1, "(II)V"⟩ = true := plainFor_of_name pl_M
theorem pl_M_portOf : plainFor ⟨y_M_portOf.1, y_M_portOf.2.1, "(II)I"⟩ = true := plainFor_of_name pl_M
theorem pl_M_done : plainFor ⟨y_M_done.1, y_M_done.2.1, "(I)V"⟩ = true := plainFor_of_name pl_M
theorem pl_M_cleared : plainFor ⟨y_M_cleared.1, y_M_cleared.2.1, "(I)V"⟩ = true := plainFor_of_name pl_M
theorem pl_M_drop : plainFor ⟨y_M_drop.1, y_M_drop.2.1, "(I)V"⟩ = true := plainFor_of_name pl_M
theorem pl_M_led : plainFor ⟨y_M_led.1, y_M_led.2.1, "(I)V"⟩ = true := plainFor_of_name pl_M
theorem pl_M_down : plainFor ⟨y_M_down.1, y_M_down.2.1, "(I)V"⟩ = true := plainFor_of_name pl_M
theorem pl_M_passes : plainFor ⟨y_M_passes.1, y_M_passes.2.1, "(II)Z"⟩ = true := plainFor_of_name pl_M
theorem pl_M_waiting : plainFor ⟨y_M_waiting.1, y_M_waiting.2.1, "(II)I"⟩ = true := plainFor_of_name pl_M
theorem pl_M_rule : plainFor ⟨y_M_rule.1, y_M_rule.2.1, "(IIII)I"⟩ = true := plainFor_of_name pl_M
theorem pl_M_taken : plainFor ⟨y_M_taken.1, y_M_taken.2.1, "(II)I"⟩ = true := plainFor_of_name pl_M
theorem pl_M_known : plainFor ⟨y_M_known.1, y_M_known.2.1, "(II)I"⟩ = true := plainFor_of_name pl_M
theorem pl_M_place : plainFor ⟨y_M_place.1, y_M_place.2.1, "(I)I"⟩ = true := plainFor_of_name pl_M
theorem pl_M_course : plainFor ⟨y_M_course.1, y_M_course.2.1, "(III)I"⟩ = true := plainFor_of_name pl_M
end
section
/-! the JDK's methods: contracts -/
theorem am_k0 : ∀ u ∈ ([] : List Value), u.category = 1 := fun _ h => by cases h
theorem am_k1 {v : Value} {vs : List Value} (h : v.category = 1) (hs : ∀ u ∈ vs, u.category = 1) : ∀ u ∈ v :: vs, u.category = 1 := List.forall_mem_cons.mpr ⟨h, hs⟩
theorem am_Mof {g : am_G} {y : am_N} {desc : String} {d lo : Nat} {vs : List Value} {S : am_S} {post : Option Value → am_S → Prop} {L0 : List (Option Value)} (hy : plainFor ⟨y.1, y.2.1, desc⟩ = true) (hc : ∀ v ∈ vs, v.category = 1) (hl : vs.length ≤ y.2.2.2.1) (hL : am_L0 vs y.2.2.2.1 = L0)
    (h : am_W g y d lo post 0 L0 [] S) : am_M g y desc d lo vs S post := by
  subst hL
  obtain ⟨v, S', h1, h2, h3, h4⟩ := h
  refine ⟨v, S', h1, h2, ?_, h4⟩
  unfold am_N0
  refine va_MetF (cc := y.2.2.1) (maxL := y.2.2.2.1) (ret := y.2.2.2.2) hy rfl ?_
  intro p e s m args below meth c s₁ B hml hv
  obtain ⟨rfl, hT, hR⟩ := hv
  rw [entry_eq m vs hc]
  exact h3 p e s m _ below meth c s.heap [] 0 0 _ _ _ ⟨B.exec, B.bytes, hml, B.returns, B.notSynchronized, findClass_of_methodNamed B.named, (name_of_methodNamed B.named B.method).1, hT, by omega, by omega, (fun _ h => by cases h), hR, am_L.entry vs hc hl⟩
theorem gm_Mof {σ : Type} {P : σ → am_S → Prop} {X : Nat → Prop} {g : am_G} {y : am_N} {desc : String} {d lo : Nat} {vs : List Value} {s : σ} {post : Option Value → σ → Prop} {L0 : List (Option Value)} (hy : plainFor ⟨y.1, y.2.1, desc⟩ = true) (hc : ∀ v ∈ vs, v.category = 1) (hl : vs.length ≤ y.2.2.2.1) (hL : am_L0 vs y.2.2.2.1 = L0) (h : gm_W P X g y d lo post 0 L0 [] s) : gm_M P X g y desc d lo vs post s := fun S hS => am_Mof hy hc hl hL (h S hS)
/-- the static that ArrayList's empty lists share -/
def am_gE (g : am_G) (e : Nat) : Prop := ("java/util/ArrayList", "DEFAULTCAPACITY_EMPTY_ELEMENTDATA", "[Ljava/lang/Object;", Value.ref e) ∈ g.sta
/-- a list of the JDK: its object w with the tag t, its array with the tag t + 1 (or the shared empty one, e), the addresses that it holds -/
def am_li (e : Nat) (S : am_S) (t w : Nat) (as : List Nat) : Prop := ∃ (mc : Int32) (ea ta : Nat) (vs : List Value), S.1 w = some (t, .inr (am_cAL, [.int mc, .ref ea, .int (nI as.length)])) ∧ S.1 ea = some (ta, .inl (am_kO, as.map Value.ref ++ vs)) ∧ as.length ≤ 60 ∧ as.length + vs.length ≤ 90 ∧ ((ta = t + 1 ∧ 1 ≤ as.length + vs.length) ∨ (ta = 0 ∧ ea = e ∧ as = [] ∧ vs = []))
/-- what a call of a list may change -/
def am_lX (t : Nat) : Nat → Prop := fun u => u = t ∨ u = t + 1
section JDK
variable {g : am_G} {S : am_S} {e t w : Nat} {as : List Nat}

theorem jd_max (x z : Int32) : am_M g y_Mt_max "(II)I" 0 0 [.int x, .int z] S (fun v S' => v = some (.int (if x < z then z else x)) ∧ S' = S) := by
  refine am_Mof (L0 := [some (.int x), some (.int z)]) pl_Mt_max (am_k1 rfl (am_k1 rfl am_k0)) (Nat.le_of_ble_eq_true rfl) rfl ?_
  refine am_iload_n d_Mt_max_0 rfl ?_
  refine am_iload_n d_Mt_max_1 rfl ?_
  refine am_icmp_lt (tgt := 9) d_Mt_max_2 (by decide) (fun q => ?_) (fun q => ?_)
  · refine am_iload_n d_Mt_max_9 rfl ?_
    refine am_iret d_Mt_max_10 rfl rfl ?_
    exact ⟨by rw [if_pos q], rfl⟩
  · refine am_iload_n d_Mt_max_5 rfl ?_
    refine am_goto (tgt := 10) d_Mt_max_6 (by decide) ?_
    refine am_iret d_Mt_max_10 rfl rfl ?_
    exact ⟨by rw [if_neg q], rfl⟩
theorem jd_min (x z : Int32) : am_M g y_Mt_min "(II)I" 0 0 [.int x, .int z] S (fun v S' => v = some (.int (if z < x then z else x)) ∧ S' = S) := by
  refine am_Mof (L0 := [some (.int x), some (.int z)]) pl_Mt_min (am_k1 rfl (am_k1 rfl am_k0)) (Nat.le_of_ble_eq_true rfl) rfl ?_
  refine am_iload_n d_Mt_min_0 rfl ?_
  refine am_iload_n d_Mt_min_1 rfl ?_
  refine am_icmp_gt (tgt := 9) d_Mt_min_2 (by decide) (fun q => ?_) (fun q => ?_)
  · refine am_iload_n d_Mt_min_9 rfl ?_
    refine am_iret d_Mt_min_10 rfl rfl ?_
    exact ⟨by rw [if_pos q], rfl⟩
  · refine am_iload_n d_Mt_min_5 rfl ?_
    refine am_goto (tgt := 10) d_Mt_min_6 (by decide) ?_
    refine am_iret d_Mt_min_10 rfl rfl ?_
    exact ⟨by rw [if_neg q], rfl⟩
theorem jd_pci {k n : Nat} (h : k < n) (hn : n < 2 ^ 31) : am_M g y_Pr_checkIndex "(IILjava/util/function/BiFunction;)I" 0 0 [.int (nI k), .int (nI n), .null] S (fun v S' => v = some (.int (nI k)) ∧ S' = S) := by
  refine am_Mof (L0 := [some (.int (nI k)), some (.int (nI n)), some (.null)]) pl_Pr_checkIndex (am_k1 rfl (am_k1 rfl (am_k1 rfl am_k0))) (Nat.le_of_ble_eq_true rfl) rfl ?_
  refine am_iload_n d_Pr_checkIndex_0 rfl ?_
  refine am_if_ltN (tgt := 9) d_Pr_checkIndex_1 (by decide) (by omega) (fun q => absurd q (by omega)) (fun _ => ?_)
  refine am_iload_n d_Pr_checkIndex_4 rfl ?_
  refine am_iload_n d_Pr_checkIndex_5 rfl ?_
  refine am_icmp_ltN (tgt := 16) d_Pr_checkIndex_6 (by decide) (by omega) (by omega) (fun _ => ?_) (fun q => absurd h (by omega))
  refine am_iload_n d_Pr_checkIndex_16 rfl ?_
  refine am_iret d_Pr_checkIndex_17 rfl rfl ?_
  exact ⟨rfl, rfl⟩
theorem jd_oci {k n : Nat} (h : k < n) (hn : n < 2 ^ 31) : am_M g y_Ob_checkIndex "(II)I" 1 22 [.int (nI k), .int (nI n)] S (fun v S' => v = some (.int (nI k)) ∧ S' = S) := by
  refine am_Mof (L0 := [some (.int (nI k)), some (.int (nI n))]) pl_Ob_checkIndex (am_k1 rfl (am_k1 rfl am_k0)) (Nat.le_of_ble_eq_true rfl) rfl ?_
  refine am_iload_n d_Ob_checkIndex_0 rfl ?_
  refine am_iload_n d_Ob_checkIndex_1 rfl ?_
  refine am_null d_Ob_checkIndex_2 ?_
  refine am_cS d_Ob_checkIndex_3 s_Ob_105 (vs := [.int (nI k), .int (nI n), .null]) (st := []) rfl rfl (by decide) (Nat.le_of_ble_eq_true rfl) (jd_pci h hn) ?_
  rintro v S1 ⟨rfl, rfl⟩
  refine am_iret d_Ob_checkIndex_6 rfl rfl ?_
  exact ⟨rfl, rfl⟩
theorem al_size (h : am_li e S t w as) : am_M g y_AL_size "()I" 0 0 [.ref w] S (fun v S' => v = some (.int (nI as.length)) ∧ S' = S) := by
  obtain ⟨mc, ea, ta, vs, h1, h2, h3, h4, h5⟩ := h
  refine am_Mof (L0 := [some (.ref w)]) pl_AL_size (am_k1 rfl am_k0) (Nat.le_of_ble_eq_true rfl) rfl ?_
  refine am_aload_n d_AL_size_0 rfl (by first | exact am_rvR _ | exact am_rvN | assumption) ?_
  refine am_get d_AL_size_1 f_AL_48 (by first | assumption | exact am_up_at _ _ _ _) (by rfl) ?_
  refine am_iret d_AL_size_4 rfl rfl ?_
  exact ⟨rfl, rfl⟩
theorem al_isEmpty (h : am_li e S t w as) : am_M g y_AL_isEmpty "()Z" 0 0 [.ref w] S (fun v S' => v = some (.int (am_b as.isEmpty)) ∧ S' = S) := by
  obtain ⟨mc, ea, ta, vs, h1, h2, h3, h4, h5⟩ := h
  refine am_Mof (L0 := [some (.ref w)]) pl_AL_isEmpty (am_k1 rfl am_k0) (Nat.le_of_ble_eq_true rfl) rfl ?_
  refine am_aload_n d_AL_isEmpty_0 rfl (by first | exact am_rvR _ | exact am_rvN | assumption) ?_
  refine am_get d_AL_isEmpty_1 f_AL_48 (by first | assumption | exact am_up_at _ _ _ _) (by rfl) ?_
  first | refine am_if_neB (tgt := 11) d_AL_isEmpty_4 (by decide) (fun q1 => ?_) (fun q1 => ?_) | refine am_if_neN (tgt := 11) d_AL_isEmpty_4 (by decide) (by omega) (fun q1 => ?_) (fun q1 => ?_) | refine am_if_ne (tgt := 11) d_AL_isEmpty_4 (by decide) (fun q1 => ?_) (fun q1 => ?_)
  · refine am_iconst (v := nI 0) d_AL_isEmpty_11 (by decide) ?_
    refine am_iret d_AL_isEmpty_12 rfl (by first | rfl | exact am_b_nar _) ?_
    exact ⟨by cases as <;> first | rfl | exact absurd rfl q1 | (simp at q1), rfl⟩
  · refine am_iconst (v := nI 1) d_AL_isEmpty_7 (by decide) ?_
    refine am_goto (tgt := 12) d_AL_isEmpty_8 (by decide) ?_
    refine am_iret d_AL_isEmpty_12 rfl (by first | rfl | exact am_b_nar _) ?_
    exact ⟨by cases as <;> first | rfl | exact absurd rfl q1 | (simp at q1), rfl⟩
theorem al_el {k a : Nat} (h : am_li e S t w as) (ha : as[k]? = some a) : am_M g y_AL_elementData "(I)Ljava/lang/Object;" 0 0 [.ref w, .int (nI k)] S (fun v S' => v = some (.ref a) ∧ S' = S) := by
  obtain ⟨mc, ea, ta, vs, h1, h2, h3, h4, h5⟩ := h
  refine am_Mof (L0 := [some (.ref w), some (.int (nI k))]) pl_AL_elementData (am_k1 rfl (am_k1 rfl am_k0)) (Nat.le_of_ble_eq_true rfl) rfl ?_
  have hk := (List.getElem?_eq_some_iff.mp ha).1
  refine am_aload_n d_AL_elementData_0 rfl (by first | exact am_rvR _ | exact am_rvN | assumption) ?_
  refine am_get d_AL_elementData_1 f_AL_9 (by first | assumption | exact am_up_at _ _ _ _) (by rfl) ?_
  refine am_iload_n d_AL_elementData_4 rfl ?_
  refine am_aald d_AL_elementData_5 am_kO_ok rfl h2 rfl (by rw [List.getElem?_append_left (by simpa using hk), List.getElem?_map, ha]; rfl) (by simp; omega) ?_
  refine am_aret d_AL_elementData_6 rfl (by first | exact Or.inl ⟨_, rfl⟩ | exact Or.inr ⟨_, rfl⟩) (by first | exact am_rvR _ | exact am_rvN | assumption) ?_
  exact ⟨rfl, rfl⟩
theorem al_get {k a : Nat} (h : am_li e S t w as) (ha : as[k]? = some a) : am_M g y_AL_get "(I)Ljava/lang/Object;" 2 43 [.ref w, .int (nI k)] S (fun v S' => v = some (.ref a) ∧ S' = S) := by
  refine am_Mof (L0 := [some (.ref w), some (.int (nI k))]) pl_AL_get (am_k1 rfl (am_k1 rfl am_k0)) (Nat.le_of_ble_eq_true rfl) rfl ?_
  have hk := (List.getElem?_eq_some_iff.mp ha).1
  have h0 := h
  obtain ⟨mc, ea, ta, vs, h1, h2, h3, h4, h5⟩ := h
  refine am_iload_n d_AL_get_0 rfl ?_
  refine am_aload_n d_AL_get_1 rfl (by first | exact am_rvR _ | exact am_rvN | assumption) ?_
  refine am_get d_AL_get_2 f_AL_48 (by first | assumption | exact am_up_at _ _ _ _) (by rfl) ?_
  refine am_cS d_AL_get_5 s_AL_118 (vs := [.int (nI k), .int (nI as.length)]) (st := []) rfl rfl (by decide) (Nat.le_of_ble_eq_true rfl) (jd_oci hk (by omega)) ?_
  rintro v S1 ⟨rfl, rfl⟩
  refine am_pop d_AL_get_8 rfl ?_
  refine am_aload_n d_AL_get_9 rfl (by first | exact am_rvR _ | exact am_rvN | assumption) ?_
  refine am_iload_n d_AL_get_10 rfl ?_
  refine am_cV d_AL_get_11 v_AL_123 (vs := [.int (nI k)]) (st := []) rfl rfl (by decide) (Nat.le_of_ble_eq_true rfl) h1 (al_el h0 ha) ?_
  rintro v S1 ⟨rfl, rfl⟩
  refine am_aret d_AL_get_14 rfl (by first | exact Or.inl ⟨_, rfl⟩ | exact Or.inr ⟨_, rfl⟩) (by first | exact am_rvR _ | exact am_rvN | assumption) ?_
  exact ⟨rfl, rfl⟩
end JDK
end
section
/-! lists of the JDK that change -/
theorem o_hi : Cond.instanceMethod Lib.objectInit ∈ am_wz := am_in1 28 rfl rfl
theorem o_hc : Cond.code Lib.objectInit ⟨#[0xb1]⟩ 1 none ∈ am_wz := am_in1 29 rfl rfl
theorem o_FF_1 : Cond.methodLink "FlowFabric" 1 Lib.objectInit ∈ am_wz := am_in1 27 rfl rfl
theorem o_Nd_3 : Cond.methodLink "FlowFabric$Node" 3 Lib.objectInit ∈ am_wz := am_in1 45 rfl rfl
theorem o_Pt_3 : Cond.methodLink "FlowFabric$Port" 3 Lib.objectInit ∈ am_wz := am_in1 52 rfl rfl
theorem o_Ac_1 : Cond.methodLink "java/util/AbstractCollection" 1 Lib.objectInit ∈ am_wz := am_in1 64 rfl rfl
theorem o_Ct_3 : Cond.methodLink "FlowFabric$Controller" 3 Lib.objectInit ∈ am_wz := am_in1 136 rfl rfl
theorem o_Ho_3 : Cond.methodLink "FlowFabric$Host" 3 Lib.objectInit ∈ am_wz := am_in1 207 rfl rfl
theorem o_Ms_3 : Cond.methodLink "FlowFabric$Message" 3 Lib.objectInit ∈ am_wz := am_in2 40 rfl rfl
theorem o_Gd_3 : Cond.methodLink "FlowFabric$Guard" 3 Lib.objectInit ∈ am_wz := am_in2 138 rfl rfl
theorem o_Dg_1 : Cond.methodLink "FlowFabric$Datagram" 1 Lib.objectInit ∈ am_wz := am_in2 193 rfl rfl
theorem o_Fr_3 : Cond.methodLink "FlowFabric$Frame" 3 Lib.objectInit ∈ am_wz := am_in3 9 rfl rfl
theorem o_Rl_3 : Cond.methodLink "FlowFabric$Rule" 3 Lib.objectInit ∈ am_wz := am_in3 88 rfl rfl
theorem o_Co_3 : Cond.methodLink "FlowFabric$Course" 3 Lib.objectInit ∈ am_wz := am_in3 189 rfl rfl
theorem o_M_1 : Cond.methodLink "FlowFabricModel" 1 Lib.objectInit ∈ am_wz := am_in4 99 rfl rfl
theorem o_cn : Cond.native arraycopyName ∈ am_wz := am_in2 119 rfl rfl
theorem o_cs : Cond.static arraycopyName ∈ am_wz := am_in2 118 rfl rfl
theorem o_ci : Cond.initialized "java/lang/System" ∈ am_wz := am_in1 14 rfl rfl
theorem o_c_As : Cond.methodLink "java/util/Arrays" 150 arraycopyName ∈ am_wz := am_in2 117 rfl rfl
theorem o_c_AL : Cond.methodLink "java/util/ArrayList" 112 arraycopyName ∈ am_wz := am_in2 179 rfl rfl
theorem o_gl : Cond.methodLink "java/util/Arrays" 86 ⟨"java/lang/Object", "getClass", "()Ljava/lang/Class;"⟩ ∈ am_wz := am_in2 93 rfl rfl
theorem o_gs : Cond.selects "[Ljava/lang/Object;" ⟨"java/lang/Object", "getClass", "()Ljava/lang/Class;"⟩ ⟨"java/lang/Object", "getClass", "()Ljava/lang/Class;"⟩ ∈ am_wz := am_in5 209 rfl rfl
theorem o_gi : Cond.instanceMethod ⟨"java/lang/Object", "getClass", "()Ljava/lang/Class;"⟩ ∈ am_wz := am_in2 94 rfl rfl
theorem o_gn : Cond.native ⟨"java/lang/Object", "getClass", "()Ljava/lang/Class;"⟩ ∈ am_wz := am_in2 109 rfl rfl
theorem o_lc : Cond.classLink "java/util/Arrays" 110 "[Ljava/lang/Object;" ∈ am_wz := am_in2 113 rfl rfl
theorem o_ld : Cond.constant "jdk/internal/util/ArraysSupport" 200 (2147483639) ∈ am_wz := am_in2 86 rfl rfl
theorem o_st : Cond.fieldLink "java/util/ArrayList" 39 "java/util/ArrayList" "DEFAULTCAPACITY_EMPTY_ELEMENTDATA" "[Ljava/lang/Object;" ∈ am_wz := am_in1 65 rfl rfl
theorem am_up_id {S : am_S} {a t : Nat} {x : am_K} (h : S.1 a = some (t, x)) : am_up S a t x = S := by
  unfold am_up
  refine Prod.ext ?_ rfl
  funext q
  by_cases e : q = a
  · subst e; simp [h]
  · simp [e]
/-- the elements of a list: objects, of other tags than the list's -/
def al_els (S : am_S) (t : Nat) (as : List Nat) : Prop := ∀ a ∈ as, ∃ (tb ci : Nat) (q : vw_C) (fs : List Value), S.1 a = some (tb, .inr (ci, fs)) ∧ am_cl[ci]? = some q ∧ (q.1, "java/lang/Object") ∈ am_nC ∧ tb ≠ t ∧ tb ≠ t + 1
theorem al_els.obj {S : am_S} {t : Nat} {as : List Nat} (h : al_els S t as) (vs : List Value) {i : Nat} (hi : i < as.length) : am_obj S ((as.map Value.ref ++ vs).getD i .null) := by
  have e : (as.map Value.ref ++ vs).getD i .null = .ref as[i] := by simp [List.getD_eq_getElem?_getD, List.getElem?_append_left, hi]
  obtain ⟨tb, ci, q, fs, h1, h2, h3, -⟩ := h _ (List.getElem_mem hi)
  exact Or.inr ⟨_, tb, ci, q, fs, e, h1, h2, h3⟩
theorem al_els.fr {S S' : am_S} {t : Nat} {as : List Nat} (h : al_els S t as) (hf : am_fr (am_lX t) S S') : al_els S' t as := by
  intro a ha
  obtain ⟨tb, ci, q, fs, h1, h2, h3, h4, h5⟩ := h a ha
  exact ⟨tb, ci, q, fs, hf.keep h1 (fun z => by rcases z with z | z <;> omega), h2, h3, h4, h5⟩
theorem al_cpy {xs : List Value} {m : Nat} (h : xs.length ≤ m) : am_cpy xs (List.replicate m .null) 0 0 xs.length = xs ++ List.replicate (m - xs.length) .null := by
  apply List.ext_getElem
  · simp [am_cpy]; omega
  · intro i h1 h2
    simp [am_cpy] at h1
    simp only [am_cpy, List.getElem_map, List.getElem_range, List.getElem_append]
    by_cases hi : i < xs.length
    · simp [hi]
    · simp [hi, h1]
section JDL
variable {g : am_G} {S : am_S} {e t w : Nat} {as : List Nat}

theorem jd_ac  : am_M g y_Ac_new "()V" 1 14 [.ref w] S (fun v S' => v = none ∧ S' = S) := by
  refine am_Mof (L0 := [some (.ref w)]) pl_Ac_new (am_k1 rfl am_k0) (Nat.le_of_ble_eq_true rfl) rfl ?_
  refine am_aload_n d_Ac_new_0 rfl (by first | exact am_rvR _ | exact am_rvN | assumption) ?_
  refine am_objInit d_Ac_new_1 o_Ac_1 o_hi o_hc (by decide) (Nat.le_of_ble_eq_true rfl) ?_
  refine am_vret d_Ac_new_4 rfl ?_
  exact ⟨rfl, rfl⟩
theorem jd_al (h : S.1 w = some (t, .inr (am_cAL, [.int 0, .null, .int 0]))) (ht : t ≠ 0) : am_M g y_Al_new "()V" 2 34 [.ref w] S (fun v S' => v = none ∧ S' = S) := by
  refine am_Mof (L0 := [some (.ref w)]) pl_Al_new (am_k1 rfl am_k0) (Nat.le_of_ble_eq_true rfl) rfl ?_
  refine am_aload_n d_Al_new_0 rfl (by first | exact am_rvR _ | exact am_rvN | assumption) ?_
  refine am_cI (b := w) d_Al_new_1 i_Al_1 (vs := []) (st := []) rfl rfl (by decide) (Nat.le_of_ble_eq_true rfl) (jd_ac) ?_
  rintro v S1 ⟨rfl, rfl⟩
  refine am_aload_n d_Al_new_4 rfl (by first | exact am_rvR _ | exact am_rvN | assumption) ?_
  refine am_iconst (v := nI 0) d_Al_new_5 (by decide) ?_
  refine am_put _ d_Al_new_6 f_Al_7 (p_Al_7 _) (by first | assumption | exact am_up_at _ _ _ _) (by first | decide | omega) (by first | rfl | exact am_b_nar _) (by first | rfl | exact am_b_fit _) ?_
  refine am_vret d_Al_new_9 rfl ?_
  exact ⟨rfl, am_up_id h⟩
theorem al_new (h : S.1 w = some (t, .inr (am_cAL, [.int 0, .null, .int 0]))) (ht : t ≠ 0) (he : am_gE g e) : am_M g y_AL_new "()V" 3 54 [.ref w] S (fun v S' => v = none ∧ S' = am_up S w t (.inr (am_cAL, [.int 0, .ref e, .int 0]))) := by
  refine am_Mof (L0 := [some (.ref w)]) pl_AL_new (am_k1 rfl am_k0) (Nat.le_of_ble_eq_true rfl) rfl ?_
  refine am_aload_n d_AL_new_0 rfl (by first | exact am_rvR _ | exact am_rvN | assumption) ?_
  refine am_cI (b := w) d_AL_new_1 i_AL_1 (vs := []) (st := []) rfl rfl (by decide) (Nat.le_of_ble_eq_true rfl) (jd_al h ht) ?_
  rintro v S1 ⟨rfl, rfl⟩
  refine am_aload_n d_AL_new_4 rfl (by first | exact am_rvR _ | exact am_rvN | assumption) ?_
  refine am_gets d_AL_new_5 o_st (Or.inl rfl) he ?_
  refine am_put _ d_AL_new_8 f_AL_9 (p_AL_9 _) (by first | assumption | exact am_up_at _ _ _ _) (by first | decide | omega) (by first | rfl | exact am_b_nar _) (by first | rfl | exact am_b_fit _) ?_
  refine am_vret d_AL_new_11 rfl ?_
  exact ⟨rfl, rfl⟩
theorem jd_nl {a b c : Nat} (h : a + max b c ≤ 1000) (h0 : 0 < a + max b c) : am_M g y_Sp_newLength "(III)I" 1 21 [.int (nI a), .int (nI b), .int (nI c)] S (fun v S' => v = some (.int (nI (a + max b c))) ∧ S' = S) := by
  refine am_Mof (L0 := [some (.int (nI a)), some (.int (nI b)), some (.int (nI c)), none]) pl_Sp_newLength (am_k1 rfl (am_k1 rfl (am_k1 rfl am_k0))) (Nat.le_of_ble_eq_true rfl) rfl ?_
  have hm : (if nI b < nI c then nI c else nI b) = nI (max b c) := by
    by_cases q : b < c
    · rw [if_pos ((nI_ltI (by omega) (by omega)).mpr q)]; congr 1; omega
    · rw [if_neg (fun z => q ((nI_ltI (by omega) (by omega)).mp z))]; congr 1; omega
  refine am_iload_n d_Sp_newLength_0 rfl ?_
  refine am_iload_n d_Sp_newLength_1 rfl ?_
  refine am_iload_n d_Sp_newLength_2 rfl ?_
  refine am_cS d_Sp_newLength_3 s_Sp_194 (vs := [.int (nI b), .int (nI c)]) (st := [.int (nI a)]) rfl rfl (by decide) (Nat.le_of_ble_eq_true rfl) (jd_max _ _) ?_
  rintro v S1 ⟨rfl, rfl⟩
  rw [hm]
  first | refine am_iaddN d_Sp_newLength_6 ?_ | refine am_iadd d_Sp_newLength_6 ?_
  refine am_istore_n (L1 := [_, _, _, _]) d_Sp_newLength_7 (by decide) rfl ?_
  refine am_iconst (v := nI 0) d_Sp_newLength_8 (by decide) ?_
  refine am_iload_n d_Sp_newLength_9 rfl ?_
  refine am_icmp_geN (tgt := 21) d_Sp_newLength_10 (by decide) (by omega) (by omega) (fun q => absurd q (by omega)) (fun _ => ?_)
  refine am_iload_n d_Sp_newLength_13 rfl ?_
  refine am_ldc (v := nI 2147483639) d_Sp_newLength_14 o_ld ?_
  refine am_icmp_gtN (tgt := 21) d_Sp_newLength_16 (by decide) (by omega) (by omega) (fun q => absurd q (by omega)) (fun _ => ?_)
  refine am_iload_n d_Sp_newLength_19 rfl ?_
  refine am_iret d_Sp_newLength_20 rfl rfl ?_
  exact ⟨rfl, rfl⟩
theorem jd_cp2 (o : am_ok S) (tg : Nat) (htg : tg ≠ 0) {a ta m : Nat} (ha : S.1 a = some (ta, .inl (am_kO, as.map Value.ref))) (hm : as.length ≤ m) (hm2 : m ≤ 1000) (hel : al_els S t as) : am_M g y_As_copyOf2 "([Ljava/lang/Object;ILjava/lang/Class;)[Ljava/lang/Object;" 1 21 [.ref a, .int (nI m), .ref g.mir] S (fun v S' => v = some (.ref S.2.1) ∧ S' = am_mk S tg m (.inl (am_kO, as.map Value.ref ++ List.replicate (m - as.length) .null))) := by
  refine am_Mof (L0 := [some (.ref a), some (.int (nI m)), some (.ref g.mir), none]) pl_As_copyOf2 (am_k1 rfl (am_k1 rfl (am_k1 rfl am_k0))) (Nat.le_of_ble_eq_true rfl) rfl ?_
  refine am_aload_n d_As_copyOf2_0 rfl (by first | exact am_rvR _ | exact am_rvN | assumption) ?_
  refine am_ldcM d_As_copyOf2_1 o_lc ?_
  refine am_acmp_ne (rx := some g.mir) (ry := some g.mir) (tgt := 13) d_As_copyOf2_3 (by decide) (fun q => absurd rfl q) (fun _ => ?_)
  refine am_iload_n d_As_copyOf2_6 rfl ?_
  refine am_newq (t := am_kO) (N := m) tg d_As_copyOf2_7 am_kO_ok k_As_2 (by decide) (nI_pos (by omega)) (nI_clamp (by omega)) (by omega) ?_
  have ha1 := am_mk_old (t := tg) (n := m) (x := .inl (am_kO, List.replicate m .null)) ha o
  have hb1 := am_mk_at S tg m (.inl (am_kO, List.replicate m .null))
  refine am_goto (tgt := 24) d_As_copyOf2_10 (by decide) ?_
  refine am_astore_n (L1 := [_, _, _, _]) d_As_copyOf2_24 (by decide) (by first | exact am_rvR _ | exact am_rvN | assumption) rfl ?_
  refine am_aload_n d_As_copyOf2_25 rfl (by first | exact am_rvR _ | exact am_rvN | assumption) ?_
  refine am_iconst (v := nI 0) d_As_copyOf2_26 (by decide) ?_
  refine am_aload_n d_As_copyOf2_27 rfl (by first | exact am_rvR _ | exact am_rvN | assumption) ?_
  refine am_iconst (v := nI 0) d_As_copyOf2_28 (by decide) ?_
  refine am_aload_n d_As_copyOf2_29 rfl (by first | exact am_rvR _ | exact am_rvN | assumption) ?_
  refine am_alen (v := nI as.length) d_As_copyOf2_30 am_kO_ok ha1 (by simp; rfl) ?_
  refine am_iload_n d_As_copyOf2_31 rfl ?_
  refine am_cS d_As_copyOf2_32 s_As_304 (vs := [.int (nI as.length), .int (nI m)]) (st := [.int (nI 0), .ref S.2.1, .int (nI 0), .ref a]) rfl rfl (by decide) (Nat.le_of_ble_eq_true rfl) (jd_min _ _) ?_
  rintro v S1 ⟨rfl, rfl⟩
  rw [if_neg (nI_nlt hm (by omega))]
  refine am_copy (sp := 0) (dp := 0) (N := as.length) d_As_copyOf2_35 o_c_As o_cn o_cs o_ci am_kO_ok ha1 hb1 htg (by simp) (by simp; omega) (by simp; omega) (by simp; omega) (fun i hi => ?_) (by decide) (Nat.le_of_ble_eq_true rfl) ?_
  · have h2 := hel.obj [] hi
    rw [List.append_nil] at h2
    rw [Nat.zero_add]
    rcases h2 with h2 | ⟨b, tb, ci, q, fs, h3, h4, h5⟩
    · exact Or.inl h2
    · exact Or.inr ⟨b, tb, ci, q, fs, h3, am_mk_old h4 o, h5⟩
  rw [am_up_mk]
  have ec := al_cpy (xs := as.map Value.ref) (m := m) (by simpa using hm)
  rw [List.length_map] at ec
  rw [ec]
  refine am_aload_n d_As_copyOf2_38 rfl (by first | exact am_rvR _ | exact am_rvN | assumption) ?_
  refine am_aret d_As_copyOf2_39 rfl (by first | exact Or.inl ⟨_, rfl⟩ | exact Or.inr ⟨_, rfl⟩) (by first | exact am_rvR _ | exact am_rvN | assumption) ?_
  exact ⟨rfl, rfl⟩
theorem jd_cp (o : am_ok S) (tg : Nat) (htg : tg ≠ 0) {a ta m : Nat} (ha : S.1 a = some (ta, .inl (am_kO, as.map Value.ref))) (hm : as.length ≤ m) (hm2 : m ≤ 1000) (hel : al_els S t as) : am_M g y_As_copyOf "([Ljava/lang/Object;I)[Ljava/lang/Object;" 2 44 [.ref a, .int (nI m)] S (fun v S' => v = some (.ref S.2.1) ∧ S' = am_mk S tg m (.inl (am_kO, as.map Value.ref ++ List.replicate (m - as.length) .null))) := by
  refine am_Mof (L0 := [some (.ref a), some (.int (nI m))]) pl_As_copyOf (am_k1 rfl (am_k1 rfl am_k0)) (Nat.le_of_ble_eq_true rfl) rfl ?_
  refine am_aload_n d_As_copyOf_0 rfl (by first | exact am_rvR _ | exact am_rvN | assumption) ?_
  refine am_iload_n d_As_copyOf_1 rfl ?_
  refine am_aload_n d_As_copyOf_2 rfl (by first | exact am_rvR _ | exact am_rvN | assumption) ?_
  refine am_getC d_As_copyOf_3 o_gl o_gs o_gi o_gn am_kO_ok ha (by decide) (Nat.le_of_ble_eq_true rfl) ?_
  refine am_cS d_As_copyOf_6 s_As_300 (vs := [.ref a, .int (nI m), .ref g.mir]) (st := []) rfl rfl (by decide) (Nat.le_of_ble_eq_true rfl) (jd_cp2 o tg htg ha hm hm2 hel) ?_
  rintro v S1 ⟨rfl, rfl⟩
  refine am_aret d_As_copyOf_9 rfl (by first | exact Or.inl ⟨_, rfl⟩ | exact Or.inr ⟨_, rfl⟩) (by first | exact am_rvR _ | exact am_rvN | assumption) ?_
  exact ⟨rfl, rfl⟩
theorem al_grow2 (o : am_ok S) (ht : t ≠ 0) (he : am_gE g e) {mc : Int32} {ea ta : Nat} (h1 : S.1 w = some (t, .inr (am_cAL, [.int mc, .ref ea, .int (nI as.length)]))) (h2 : S.1 ea = some (ta, .inl (am_kO, as.map Value.ref))) (h3 : as.length ≤ 60) (h5 : (ta = t + 1 ∧ 1 ≤ as.length) ∨ (ta = 0 ∧ ea = e ∧ as = [])) (hel : al_els S t as) : am_M g y_AL_grow2 "(I)[Ljava/lang/Object;" 3 65 [.ref w, .int (nI (as.length + 1))] S (fun v S' => ∃ m, as.length < m ∧ m ≤ 90 ∧ v = some (.ref S.2.1) ∧ S' = am_up (am_mk S (t + 1) m (.inl (am_kO, as.map Value.ref ++ List.replicate (m - as.length) .null))) w t (.inr (am_cAL, [.int mc, .ref S.2.1, .int (nI as.length)]))) := by
  refine am_Mof (L0 := [some (.ref w), some (.int (nI (as.length + 1))), none, none]) pl_AL_grow2 (am_k1 rfl (am_k1 rfl am_k0)) (Nat.le_of_ble_eq_true rfl) rfl ?_
  refine am_aload_n d_AL_grow2_0 rfl (by first | exact am_rvR _ | exact am_rvN | assumption) ?_
  refine am_get d_AL_grow2_1 f_AL_9 (by first | assumption | exact am_up_at _ _ _ _) (by rfl) ?_
  refine am_alen (v := nI as.length) d_AL_grow2_4 am_kO_ok h2 (by simp; rfl) ?_
  refine am_istore_n (L1 := [_, _, _, _]) d_AL_grow2_5 (by decide) rfl ?_
  refine am_iload_n d_AL_grow2_6 rfl ?_
  first | refine am_if_gtN (tgt := 20) d_AL_grow2_7 (by decide) (by omega) (fun q1 => ?_) (fun q1 => ?_) | refine am_if_gt (tgt := 20) d_AL_grow2_7 (by decide) (fun q1 => ?_) (fun q1 => ?_)
  · have hpos : 0 < as.length := q1
    refine am_iload_n d_AL_grow2_20 rfl ?_
    refine am_iload_n d_AL_grow2_21 rfl ?_
    refine am_iload_n d_AL_grow2_22 rfl ?_
    refine am_isubN d_AL_grow2_23 (by omega) ?_
    rw [Nat.add_sub_cancel_left]
    refine am_iload_n d_AL_grow2_24 rfl ?_
    refine am_iconst (v := nI 1) d_AL_grow2_25 (by decide) ?_
    refine am_ishr d_AL_grow2_26 ?_
    rw [pk_shrN (by omega) _ 1 (by decide)]
    refine am_cS d_AL_grow2_27 s_AL_73 (vs := [.int (nI as.length), .int (nI 1), .int (nI (as.length / 2 ^ 1))]) (st := []) rfl rfl (by decide) (Nat.le_of_ble_eq_true rfl) (jd_nl (by omega) (by omega)) ?_
    rintro v S1 ⟨rfl, rfl⟩
    refine am_istore_n (L1 := [_, _, _, _]) d_AL_grow2_30 (by decide) rfl ?_
    refine am_aload_n d_AL_grow2_31 rfl (by first | exact am_rvR _ | exact am_rvN | assumption) ?_
    refine am_aload_n d_AL_grow2_32 rfl (by first | exact am_rvR _ | exact am_rvN | assumption) ?_
    refine am_get d_AL_grow2_33 f_AL_9 (by first | assumption | exact am_up_at _ _ _ _) (by rfl) ?_
    refine am_iload_n d_AL_grow2_36 rfl ?_
    refine am_cS d_AL_grow2_37 s_AL_66 (vs := [.ref ea, .int (nI (as.length + max 1 (as.length / 2 ^ 1)))]) (st := [.ref w]) rfl rfl (by decide) (Nat.le_of_ble_eq_true rfl) (jd_cp o (t + 1) (by omega) h2 (by omega) (by omega) hel) ?_
    rintro v S1 ⟨rfl, rfl⟩
    have h1b := am_mk_old (t := t + 1) (n := as.length + max 1 (as.length / 2 ^ 1)) (x := .inl (am_kO, as.map Value.ref ++ List.replicate (as.length + max 1 (as.length / 2 ^ 1) - as.length) .null)) h1 o
    refine am_dup_x1 d_AL_grow2_40 rfl rfl ?_
    refine am_put _ d_AL_grow2_41 f_AL_9 (p_AL_9 _) (by first | assumption | exact am_up_at _ _ _ _) (by first | decide | omega) (by first | rfl | exact am_b_nar _) (by first | rfl | exact am_b_fit _) ?_
    refine am_aret d_AL_grow2_44 rfl (by first | exact Or.inl ⟨_, rfl⟩ | exact Or.inr ⟨_, rfl⟩) (by first | exact am_rvR _ | exact am_rvN | assumption) ?_
    exact ⟨as.length + max 1 (as.length / 2 ^ 1), by omega, by omega, rfl, rfl⟩
  · refine am_aload_n d_AL_grow2_10 rfl (by first | exact am_rvR _ | exact am_rvN | assumption) ?_
    refine am_get d_AL_grow2_11 f_AL_9 (by first | assumption | exact am_up_at _ _ _ _) (by rfl) ?_
    refine am_gets d_AL_grow2_14 o_st (Or.inl rfl) he ?_
    refine am_acmp_eq (rx := some ea) (ry := some e) (tgt := 45) d_AL_grow2_17 (by decide) (fun q => ?_) (fun q => ?_)
    · refine am_aload_n d_AL_grow2_45 rfl (by first | exact am_rvR _ | exact am_rvN | assumption) ?_
      refine am_bipush (v := nI 10) d_AL_grow2_46 (by decide) ?_
      refine am_iload_n d_AL_grow2_48 rfl ?_
      refine am_cS d_AL_grow2_49 s_AL_79 (vs := [.int (nI 10), .int (nI (as.length + 1))]) (st := [.ref w]) rfl rfl (by decide) (Nat.le_of_ble_eq_true rfl) (jd_max _ _) ?_
      rintro v S1 ⟨rfl, rfl⟩
      have h0 : as.length = 0 := by omega
      rw [if_neg (nI_nlt (by omega) (by omega))]
      refine am_newq (t := am_kO) (N := 10) (t + 1) d_AL_grow2_52 am_kO_ok k_AL_7 (by decide) (nI_pos (by omega)) (nI_clamp (by omega)) (by omega) ?_
      have h1b := am_mk_old (t := t + 1) (n := 10) (x := .inl (am_kO, List.replicate 10 .null)) h1 o
      refine am_dup_x1 d_AL_grow2_55 rfl rfl ?_
      refine am_put _ d_AL_grow2_56 f_AL_9 (p_AL_9 _) (by first | assumption | exact am_up_at _ _ _ _) (by first | decide | omega) (by first | rfl | exact am_b_nar _) (by first | rfl | exact am_b_fit _) ?_
      refine am_aret d_AL_grow2_59 rfl (by first | exact Or.inl ⟨_, rfl⟩ | exact Or.inr ⟨_, rfl⟩) (by first | exact am_rvR _ | exact am_rvN | assumption) ?_
      have e0 : as = [] := List.length_eq_zero_iff.mp h0
      subst e0
      exact ⟨10, by decide, by decide, rfl, rfl⟩
    · exfalso
      rcases h5 with h5 | h5
      · omega
      · exact q (congrArg some h5.2.1)
theorem al_grow (o : am_ok S) (ht : t ≠ 0) (he : am_gE g e) {mc : Int32} {ea ta : Nat} (h1 : S.1 w = some (t, .inr (am_cAL, [.int mc, .ref ea, .int (nI as.length)]))) (h2 : S.1 ea = some (ta, .inl (am_kO, as.map Value.ref))) (h3 : as.length ≤ 60) (h5 : (ta = t + 1 ∧ 1 ≤ as.length) ∨ (ta = 0 ∧ ea = e ∧ as = [])) (hel : al_els S t as) : am_M g y_AL_grow "()[Ljava/lang/Object;" 4 88 [.ref w] S (fun v S' => ∃ m, as.length < m ∧ m ≤ 90 ∧ v = some (.ref S.2.1) ∧ S' = am_up (am_mk S (t + 1) m (.inl (am_kO, as.map Value.ref ++ List.replicate (m - as.length) .null))) w t (.inr (am_cAL, [.int mc, .ref S.2.1, .int (nI as.length)]))) := by
  refine am_Mof (L0 := [some (.ref w)]) pl_AL_grow (am_k1 rfl am_k0) (Nat.le_of_ble_eq_true rfl) rfl ?_
  refine am_aload_n d_AL_grow_0 rfl (by first | exact am_rvR _ | exact am_rvN | assumption) ?_
  refine am_aload_n d_AL_grow_1 rfl (by first | exact am_rvR _ | exact am_rvN | assumption) ?_
  refine am_get d_AL_grow_2 f_AL_48 (by first | assumption | exact am_up_at _ _ _ _) (by rfl) ?_
  refine am_iconst (v := nI 1) d_AL_grow_5 (by decide) ?_
  first | refine am_iaddN d_AL_grow_6 ?_ | refine am_iadd d_AL_grow_6 ?_
  refine am_cV (b := w) d_AL_grow_7 v_AL_69 (vs := [.int (nI (as.length + 1))]) (st := []) rfl rfl (by decide) (Nat.le_of_ble_eq_true rfl) h1 (al_grow2 o ht he h1 h2 h3 h5 hel) ?_
  rintro v S1 ⟨m, m1, m2, rfl, rfl⟩
  refine am_aret d_AL_grow_10 rfl (by first | exact Or.inl ⟨_, rfl⟩ | exact Or.inr ⟨_, rfl⟩) (by first | exact am_rvR _ | exact am_rvN | assumption) ?_
  exact ⟨m, m1, m2, rfl, rfl⟩
theorem al_add2 (o : am_ok S) (ht : t ≠ 0) (he : am_gE g e) {mc : Int32} {ea ta : Nat} {vs : List Value} (h1 : S.1 w = some (t, .inr (am_cAL, [.int mc, .ref ea, .int (nI as.length)]))) (h2 : S.1 ea = some (ta, .inl (am_kO, as.map Value.ref ++ vs))) (h3 : as.length < 60) (h4 : as.length + vs.length ≤ 90) (h5 : (ta = t + 1 ∧ 1 ≤ as.length + vs.length) ∨ (ta = 0 ∧ ea = e ∧ as = [] ∧ vs = [])) (hel : al_els S t as) {a tb ci : Nat} {q : vw_C} {fs : List Value} (ha : S.1 a = some (tb, .inr (ci, fs))) (hq : am_cl[ci]? = some q) (hc : (q.1, "java/lang/Object") ∈ am_nC) (htb : tb ≠ t ∧ tb ≠ t + 1) : am_M g y_AL_add2 "(Ljava/lang/Object;[Ljava/lang/Object;I)V" 5 108 [.ref w, .ref a, .ref ea, .int (nI as.length)] S (fun v S' => v = none ∧ am_li e S' t w (as ++ [a]) ∧ am_fr (am_lX t) S S' ∧ am_co 1 90 S S') := by
  have key : ∀ (S1 : am_S) (eb : Nat) (ws : List Value), S1.1 w = some (t, .inr (am_cAL, [.int mc, .ref eb, .int (nI as.length)])) → S1.1 eb = some (t + 1, .inl (am_kO, as.map Value.ref ++ ws)) → 0 < ws.length → as.length + ws.length ≤ 90 → S1.1 a = some (tb, .inr (ci, fs)) → am_fr (am_lX t) S S1 → am_co 1 90 S S1 → am_W g y_AL_add2 5 108 (fun v S' => v = none ∧ am_li e S' t w (as ++ [a]) ∧ am_fr (am_lX t) S S' ∧ am_co 1 90 S S') 11 [some (.ref w), some (.ref a), some (.ref eb), some (.int (nI as.length))] [] S1 := by
    intro S1 eb ws k1 k2 kw kw2 ka kf kc
    refine am_aload_n d_AL_add2_11 rfl (by first | exact am_rvR _ | exact am_rvN | assumption) ?_
    refine am_iload_n d_AL_add2_12 rfl ?_
    refine am_aload_n d_AL_add2_13 rfl (by first | exact am_rvR _ | exact am_rvN | assumption) ?_
    refine am_aast (j := as.length) d_AL_add2_14 am_kO_ok k2 (by omega) ka hq (Or.inr hc) rfl (by simp; omega) (by simp; omega) ?_
    have k1' := am_up_tag (t' := t + 1) (x' := .inl (am_kO, (as.map Value.ref ++ ws).set as.length (Value.ref a))) k1 k2 (by omega)
    refine am_aload_n d_AL_add2_15 rfl (by first | exact am_rvR _ | exact am_rvN | assumption) ?_
    refine am_iload_n d_AL_add2_16 rfl ?_
    refine am_iconst (v := nI 1) d_AL_add2_17 (by decide) ?_
    first | refine am_iaddN d_AL_add2_18 ?_ | refine am_iadd d_AL_add2_18 ?_
    refine am_put _ d_AL_add2_19 f_AL_48 (p_AL_48 _) k1' ht rfl rfl ?_
    refine am_vret d_AL_add2_22 rfl ?_
    refine ⟨rfl, ⟨mc, eb, t + 1, ws.tail, ?_, ?_, ?_, ?_, ?_⟩, (kf.trans (am_fr.up k2 (Or.inr rfl))).trans (am_fr.up k1' (Or.inl rfl)), kc⟩
    · rw [am_up_at, List.length_append]; rfl
    · have ee : (as.map Value.ref ++ ws).set as.length (Value.ref a) = (as ++ [a]).map Value.ref ++ ws.tail := by
        cases ws with
        | nil => simp at kw
        | cons x ws => simp
      rw [← ee]
      exact am_up_tag (am_up_at _ _ _ _) k1' (by omega)
    · simp; omega
    · simp; omega
    · exact Or.inl ⟨rfl, by simp; omega⟩
  refine am_Mof (L0 := [some (.ref w), some (.ref a), some (.ref ea), some (.int (nI as.length))]) pl_AL_add2 (am_k1 rfl (am_k1 rfl (am_k1 rfl (am_k1 rfl am_k0)))) (Nat.le_of_ble_eq_true rfl) rfl ?_
  refine am_iload_n d_AL_add2_0 rfl ?_
  refine am_aload_n d_AL_add2_1 rfl (by first | exact am_rvR _ | exact am_rvN | assumption) ?_
  refine am_alen (v := nI (as.length + vs.length)) d_AL_add2_2 am_kO_ok h2 (by rw [List.length_append, List.length_map]; rfl) ?_
  refine am_icmp_neN (tgt := 11) d_AL_add2_3 (by decide) (by omega) (by omega) (fun q1 => ?_) (fun q1 => ?_)
  · rcases h5 with ⟨rfl, h5⟩ | ⟨-, -, rfl, rfl⟩
    · exact key S ea vs h1 h2 (by omega) h4 ha (am_fr.refl _ _) ((am_co.refl S).mono (by omega) (by omega))
    · exact absurd rfl q1
  · have e0 : vs = [] := List.length_eq_zero_iff.mp (by omega)
    subst e0
    rw [List.append_nil] at h2
    refine am_aload_n d_AL_add2_6 rfl (am_rvR _) ?_
    refine am_cV (b := w) d_AL_add2_7 v_AL_129 (vs := []) (st := []) rfl rfl (by decide) (Nat.le_of_ble_eq_true rfl) h1 (al_grow o ht he h1 h2 (by omega) (h5.elim (fun h => Or.inl ⟨h.1, by simpa using h.2⟩) (fun h => Or.inr ⟨h.1, h.2.1, h.2.2.1⟩)) hel) ?_
    rintro v S1 ⟨m, m1, m2, rfl, rfl⟩
    refine am_astore_n (L1 := [_, _, _, _]) d_AL_add2_10 (by decide) (am_rvR _) rfl ?_
    have g1 := am_mk_old (t := t + 1) (n := m) (x := .inl (am_kO, as.map Value.ref ++ List.replicate (m - as.length) .null)) h1 o
    refine key _ S.2.1 (List.replicate (m - as.length) .null) (am_up_at _ _ _ _) (am_up_tag (am_mk_at _ _ _ _) g1 (by omega)) (by simp; omega) (by simp; omega) (am_up_tag (am_mk_old ha o) g1 (by omega)) ((am_fr.mk _ _ _ _ o).trans (am_fr.up g1 (Or.inl rfl))) ?_
    exact ((am_co.mk S _ _ _).trans (am_co.up _ _ _ _)).mono (by omega) (by omega)
theorem al_add (o : am_ok S) (ht : t ≠ 0) (he : am_gE g e) (h : am_li e S t w as) (h3 : as.length < 60) (hel : al_els S t as) {a tb ci : Nat} {q : vw_C} {fs : List Value} (ha : S.1 a = some (tb, .inr (ci, fs))) (hq : am_cl[ci]? = some q) (hc : (q.1, "java/lang/Object") ∈ am_nC) (htb : tb ≠ t ∧ tb ≠ t + 1) : am_M g y_AL_add "(Ljava/lang/Object;)Z" 6 131 [.ref w, .ref a] S (fun v S' => v = some (.int 1) ∧ am_li e S' t w (as ++ [a]) ∧ am_fr (am_lX t) S S' ∧ am_co 1 90 S S') := by
  refine am_Mof (L0 := [some (.ref w), some (.ref a)]) pl_AL_add (am_k1 rfl (am_k1 rfl am_k0)) (Nat.le_of_ble_eq_true rfl) rfl ?_
  obtain ⟨mc, ea, ta, vs, h1, h2, -, h4, h5⟩ := h
  refine am_aload_n d_AL_add_0 rfl (by first | exact am_rvR _ | exact am_rvN | assumption) ?_
  refine am_dup d_AL_add_1 rfl ?_
  refine am_get d_AL_add_2 f_AL_63 (by first | assumption | exact am_up_at _ _ _ _) (by rfl) ?_
  refine am_iconst (v := nI 1) d_AL_add_5 (by decide) ?_
  first | refine am_iaddN d_AL_add_6 ?_ | refine am_iadd d_AL_add_6 ?_
  have h1' := am_up_at S w t (.inr (am_cAL, [.int (mc + nI 1), .ref ea, .int (nI as.length)]))
  have h2' := am_up_tag (t' := t) (x' := .inr (am_cAL, [.int (mc + nI 1), .ref ea, .int (nI as.length)])) h2 h1 (by rcases h5 with h5 | h5 <;> omega)
  have ha' := am_up_tag (t' := t) (x' := .inr (am_cAL, [.int (mc + nI 1), .ref ea, .int (nI as.length)])) ha h1 (by omega)
  have hf' : am_fr (am_lX t) S (am_up S w t (.inr (am_cAL, [.int (mc + nI 1), .ref ea, .int (nI as.length)]))) := am_fr.up h1 (Or.inl rfl)
  refine am_put _ d_AL_add_7 f_AL_63 (p_AL_63 _) (by first | assumption | exact am_up_at _ _ _ _) (by first | decide | omega) (by first | rfl | exact am_b_nar _) (by first | rfl | exact am_b_fit _) ?_
  refine am_aload_n d_AL_add_10 rfl (by first | exact am_rvR _ | exact am_rvN | assumption) ?_
  refine am_aload_n d_AL_add_11 rfl (by first | exact am_rvR _ | exact am_rvN | assumption) ?_
  refine am_aload_n d_AL_add_12 rfl (by first | exact am_rvR _ | exact am_rvN | assumption) ?_
  refine am_get d_AL_add_13 f_AL_9 (by first | assumption | exact am_up_at _ _ _ _) (by rfl) ?_
  refine am_aload_n d_AL_add_16 rfl (by first | exact am_rvR _ | exact am_rvN | assumption) ?_
  refine am_get d_AL_add_17 f_AL_48 (by first | assumption | exact am_up_at _ _ _ _) (by rfl) ?_
  refine am_cV (b := w) d_AL_add_20 v_AL_131 (vs := [.ref a, .ref ea, .int (nI as.length)]) (st := []) rfl rfl (by decide) (Nat.le_of_ble_eq_true rfl) h1' (al_add2 (o.up h1) ht he h1' h2' h3 h4 h5 (hel.fr hf') ha' hq hc htb) ?_
  rintro v S1 ⟨rfl, p1, p2, p3⟩
  refine am_iconst (v := nI 1) d_AL_add_23 (by decide) ?_
  refine am_iret d_AL_add_24 rfl (by first | rfl | exact am_b_nar _) ?_
  exact ⟨rfl, p1, hf'.trans p2, p3⟩
theorem al_rm {as : List Nat} {vs : List Value} {k : Nat} (hk : k < as.length) : ((am_cpy (as.map Value.ref ++ vs) (as.map Value.ref ++ vs) (k + 1) k (as.length - 1 - k)).set (as.length - 1) .null) = (as.eraseIdx k).map Value.ref ++ (.null :: vs) := by
  apply List.ext_getElem
  · simp [am_cpy, List.length_eraseIdx, hk]; omega
  · intro i h1 h2
    simp [am_cpy] at h1
    simp only [List.getElem_set, am_cpy, List.getElem_map, List.getElem_range, List.getElem_append, List.length_map, List.length_eraseIdx, if_pos hk]
    by_cases c1 : as.length - 1 = i
    · subst c1
      simp
    · rw [if_neg c1]
      by_cases c2 : i < as.length - 1
      · by_cases c3 : i < k
        · rw [if_neg (by omega)]
          simp [c2, List.getElem_eraseIdx, c3, List.getD_eq_getElem?_getD, List.getElem?_append_left (show i < (as.map Value.ref).length by simp; omega), List.getElem?_eq_getElem (show i < as.length by omega)]
        · rw [if_pos (by omega)]
          have e1 : k + 1 + (i - k) = i + 1 := by omega
          rw [e1]
          simp [c2, List.getElem_eraseIdx, c3, List.getD_eq_getElem?_getD, List.getElem?_append_left (show i + 1 < (as.map Value.ref).length by simp; omega), List.getElem?_eq_getElem (show i + 1 < as.length by omega)]
      · rw [if_neg (by omega)]
        have e2 : i - (as.length - 1) = (i - as.length) + 1 := by omega
        simp [c2, List.getD_eq_getElem?_getD, List.getElem?_append_right (show (as.map Value.ref).length ≤ i by simp; omega), e2, List.getElem?_eq_getElem (show i - as.length < vs.length by omega)]
theorem al_rm1 {as : List Nat} {vs : List Value} {k : Nat} (hk : k < as.length) (h : as.length - 1 ≤ k) : ((as.map Value.ref ++ vs).set (as.length - 1) .null) = (as.eraseIdx k).map Value.ref ++ (.null :: vs) := by
  have h2 := al_rm (vs := vs) hk
  have e : as.length - 1 - k = 0 := by omega
  rw [e] at h2
  rw [← h2]
  congr 1
  apply List.ext_getElem
  · simp [am_cpy]
  · intro i h1 h2
    have e3 : ¬ (k ≤ i ∧ i < k + 0) := by omega
    simp only [am_cpy, List.getElem_map, List.getElem_range, if_neg e3]
    rw [List.getD_eq_getElem?_getD, List.getElem?_eq_getElem h1]
    rfl
theorem al_fr (o : am_ok S) (ht : t ≠ 0) {mc : Int32} {ea k : Nat} {vs : List Value} (h1 : S.1 w = some (t, .inr (am_cAL, [.int mc, .ref ea, .int (nI as.length)]))) (h2 : S.1 ea = some (t + 1, .inl (am_kO, as.map Value.ref ++ vs))) (h3 : as.length ≤ 60) (h4 : as.length + vs.length ≤ 90) (hk : k < as.length) (hel : al_els S t as) : am_M g y_AL_fastRemove "([Ljava/lang/Object;I)V" 1 20 [.ref w, .ref ea, .int (nI k)] S (fun v S' => v = none ∧ am_li e S' t w (as.eraseIdx k) ∧ am_fr (am_lX t) S S' ∧ S'.2 = S.2) := by
  have key : ∀ (S1 : am_S) (xs : List Value), xs.set (as.length - 1) .null = (as.eraseIdx k).map Value.ref ++ (.null :: vs) → xs.length = as.length + vs.length → S1.1 w = some (t, .inr (am_cAL, [.int (mc + nI 1), .ref ea, .int (nI as.length)])) → S1.1 ea = some (t + 1, .inl (am_kO, xs)) → am_fr (am_lX t) S S1 → S1.2 = S.2 → am_W g y_AL_fastRemove 1 20 (fun v S' => v = none ∧ am_li e S' t w (as.eraseIdx k) ∧ am_fr (am_lX t) S S' ∧ S'.2 = S.2) 34 [some (.ref w), some (.ref ea), some (.int (nI k)), some (.int (nI (as.length - 1)))] [] S1 := by
    intro S1 xs kx kl k1 k2 kf kc
    refine am_aload_n d_AL_fastRemove_34 rfl (by first | exact am_rvR _ | exact am_rvN | assumption) ?_
    refine am_aload_n d_AL_fastRemove_35 rfl (by first | exact am_rvR _ | exact am_rvN | assumption) ?_
    refine am_iload_n d_AL_fastRemove_36 rfl ?_
    refine am_dup_x1 d_AL_fastRemove_37 rfl rfl ?_
    refine am_put _ d_AL_fastRemove_38 f_AL_48 (p_AL_48 _) k1 ht rfl rfl ?_
    have k1' := am_up_at S1 w t (.inr (am_cAL, [.int (mc + nI 1), .ref ea, .int (nI (as.length - 1))]))
    have k2' := am_up_tag (t' := t) (x' := .inr (am_cAL, [.int (mc + nI 1), .ref ea, .int (nI (as.length - 1))])) k2 k1 (by omega)
    refine am_null d_AL_fastRemove_41 ?_
    refine am_aastN (j := as.length - 1) d_AL_fastRemove_42 am_kO_ok k2' (by omega) rfl (by omega) (by omega) ?_
    refine am_vret d_AL_fastRemove_43 rfl ?_
    refine ⟨rfl, ⟨mc + nI 1, ea, t + 1, .null :: vs, ?_, ?_, ?_, ?_, ?_⟩, (kf.trans (am_fr.up k1 (Or.inl rfl))).trans (am_fr.up k2' (Or.inr rfl)), kc⟩
    · have e3 : (as.eraseIdx k).length = as.length - 1 := by simp [List.length_eraseIdx, hk]
      rw [e3]
      exact am_up_tag k1' k2' (by omega)
    · rw [am_up_at, kx]
    · rw [List.length_eraseIdx, if_pos hk]; omega
    · rw [List.length_eraseIdx, if_pos hk, List.length_cons]; omega
    · exact Or.inl ⟨rfl, by rw [List.length_cons]; omega⟩
  refine am_Mof (L0 := [some (.ref w), some (.ref ea), some (.int (nI k)), none]) pl_AL_fastRemove (am_k1 rfl (am_k1 rfl (am_k1 rfl am_k0))) (Nat.le_of_ble_eq_true rfl) rfl ?_
  refine am_aload_n d_AL_fastRemove_0 rfl (by first | exact am_rvR _ | exact am_rvN | assumption) ?_
  refine am_dup d_AL_fastRemove_1 rfl ?_
  refine am_get d_AL_fastRemove_2 f_AL_63 (by first | assumption | exact am_up_at _ _ _ _) (by rfl) ?_
  refine am_iconst (v := nI 1) d_AL_fastRemove_5 (by decide) ?_
  first | refine am_iaddN d_AL_fastRemove_6 ?_ | refine am_iadd d_AL_fastRemove_6 ?_
  refine am_put _ d_AL_fastRemove_7 f_AL_63 (p_AL_63 _) h1 ht rfl rfl ?_
  have k1' := am_up_at S w t (.inr (am_cAL, [.int (mc + nI 1), .ref ea, .int (nI as.length)]))
  have k2' := am_up_tag (t' := t) (x' := .inr (am_cAL, [.int (mc + nI 1), .ref ea, .int (nI as.length)])) h2 h1 (by omega)
  have hf' : am_fr (am_lX t) S (am_up S w t (.inr (am_cAL, [.int (mc + nI 1), .ref ea, .int (nI as.length)]))) := am_fr.up h1 (Or.inl rfl)
  refine am_aload_n d_AL_fastRemove_10 rfl (by first | exact am_rvR _ | exact am_rvN | assumption) ?_
  refine am_get d_AL_fastRemove_11 f_AL_48 (by first | assumption | exact am_up_at _ _ _ _) (by rfl) ?_
  refine am_iconst (v := nI 1) d_AL_fastRemove_14 (by decide) ?_
  first | refine am_isubN d_AL_fastRemove_15 (by omega) ?_ | refine am_isub d_AL_fastRemove_15 ?_
  refine am_dup d_AL_fastRemove_16 rfl ?_
  refine am_istore_n (L1 := [_, _, _, _]) d_AL_fastRemove_17 (by decide) rfl ?_
  refine am_iload_n d_AL_fastRemove_18 rfl ?_
  first | refine am_icmp_leN (tgt := 34) d_AL_fastRemove_19 (by decide) (by omega) (by omega) (fun q1 => ?_) (fun q1 => ?_) | refine am_icmp_le (tgt := 34) d_AL_fastRemove_19 (by decide) (fun q1 => ?_) (fun q1 => ?_)
  · first | exact key _ _ (al_rm hk) (by simp [am_cpy]) (am_up_tag k1' k2' (by omega)) (am_up_at _ _ _ _) (hf'.trans (am_fr.up k2' (Or.inr rfl))) rfl | exact key _ _ (al_rm1 hk (by omega)) (by simp) k1' k2' hf' rfl
  · refine am_aload_n d_AL_fastRemove_22 rfl (by first | exact am_rvR _ | exact am_rvN | assumption) ?_
    refine am_iload_n d_AL_fastRemove_23 rfl ?_
    refine am_iconst (v := nI 1) d_AL_fastRemove_24 (by decide) ?_
    first | refine am_iaddN d_AL_fastRemove_25 ?_ | refine am_iadd d_AL_fastRemove_25 ?_
    refine am_aload_n d_AL_fastRemove_26 rfl (by first | exact am_rvR _ | exact am_rvN | assumption) ?_
    refine am_iload_n d_AL_fastRemove_27 rfl ?_
    refine am_iload_n d_AL_fastRemove_28 rfl ?_
    refine am_iload_n d_AL_fastRemove_29 rfl ?_
    first | refine am_isubN d_AL_fastRemove_30 (by omega) ?_ | refine am_isub d_AL_fastRemove_30 ?_
    refine am_copy (sp := k + 1) (dp := k) (N := as.length - 1 - k) d_AL_fastRemove_31 o_c_AL o_cn o_cs o_ci am_kO_ok k2' k2' (by omega) (by simp; omega) (by simp; omega) (by simp; omega) (by simp; omega) (fun i hi => (hel.fr hf').obj vs (by omega)) (by decide) (Nat.le_of_ble_eq_true rfl) ?_
    first | exact key _ _ (al_rm hk) (by simp [am_cpy]) (am_up_tag k1' k2' (by omega)) (am_up_at _ _ _ _) (hf'.trans (am_fr.up k2' (Or.inr rfl))) rfl | exact key _ _ (al_rm1 hk (by omega)) (by simp) k1' k2' hf' rfl
theorem al_remove (o : am_ok S) (ht : t ≠ 0) {k a : Nat} (h : am_li e S t w as) (ha : as[k]? = some a) (hel : al_els S t as) : am_M g y_AL_remove "(I)Ljava/lang/Object;" 2 43 [.ref w, .int (nI k)] S (fun v S' => v = some (.ref a) ∧ am_li e S' t w (as.eraseIdx k) ∧ am_fr (am_lX t) S S' ∧ S'.2 = S.2) := by
  refine am_Mof (L0 := [some (.ref w), some (.int (nI k)), none, none]) pl_AL_remove (am_k1 rfl (am_k1 rfl am_k0)) (Nat.le_of_ble_eq_true rfl) rfl ?_
  have hk := (List.getElem?_eq_some_iff.mp ha).1
  obtain ⟨mc, ea, ta, vs, h1, h2, h3, h4, h5⟩ := h
  rcases h5 with ⟨rfl, h5⟩ | ⟨-, -, rfl, rfl⟩
  rotate_left
  · exact absurd hk (Nat.not_lt_zero _)
  refine am_iload_n d_AL_remove_0 rfl ?_
  refine am_aload_n d_AL_remove_1 rfl (by first | exact am_rvR _ | exact am_rvN | assumption) ?_
  refine am_get d_AL_remove_2 f_AL_48 (by first | assumption | exact am_up_at _ _ _ _) (by rfl) ?_
  refine am_cS d_AL_remove_5 s_AL_118 (vs := [.int (nI k), .int (nI as.length)]) (st := []) rfl rfl (by decide) (Nat.le_of_ble_eq_true rfl) (jd_oci hk (by omega)) ?_
  rintro v S1 ⟨rfl, rfl⟩
  refine am_pop d_AL_remove_8 rfl ?_
  refine am_aload_n d_AL_remove_9 rfl (by first | exact am_rvR _ | exact am_rvN | assumption) ?_
  refine am_get d_AL_remove_10 f_AL_9 (by first | assumption | exact am_up_at _ _ _ _) (by rfl) ?_
  refine am_astore_n (L1 := [_, _, _, _]) d_AL_remove_13 (by decide) (by first | exact am_rvR _ | exact am_rvN | assumption) rfl ?_
  refine am_aload_n d_AL_remove_14 rfl (by first | exact am_rvR _ | exact am_rvN | assumption) ?_
  refine am_iload_n d_AL_remove_15 rfl ?_
  refine am_aald d_AL_remove_16 am_kO_ok rfl h2 rfl (by rw [List.getElem?_append_left (by simpa using hk), List.getElem?_map, ha]; rfl) (by simp; omega) ?_
  refine am_astore_n (L1 := [_, _, _, _]) d_AL_remove_17 (by decide) (by first | exact am_rvR _ | exact am_rvN | assumption) rfl ?_
  refine am_aload_n d_AL_remove_18 rfl (by first | exact am_rvR _ | exact am_rvN | assumption) ?_
  refine am_aload_n d_AL_remove_19 rfl (by first | exact am_rvR _ | exact am_rvN | assumption) ?_
  refine am_iload_n d_AL_remove_20 rfl ?_
  refine am_cV (b := w) d_AL_remove_21 v_AL_144 (vs := [.ref ea, .int (nI k)]) (st := []) rfl rfl (by decide) (Nat.le_of_ble_eq_true rfl) h1 (al_fr (e := e) o ht h1 h2 h3 h4 hk hel) ?_
  rintro v S1 ⟨rfl, p1, p2, p3⟩
  refine am_aload_n d_AL_remove_24 rfl (by first | exact am_rvR _ | exact am_rvN | assumption) ?_
  refine am_aret d_AL_remove_25 rfl (by first | exact Or.inl ⟨_, rfl⟩ | exact Or.inr ⟨_, rfl⟩) (by first | exact am_rvR _ | exact am_rvN | assumption) ?_
  exact ⟨rfl, p1, p2, p3⟩
end JDL
end
section
/-! a list is emptied; an array is filled -/
section JDM
variable {g : am_G} {S : am_S} {e t w : Nat} {as : List Nat}
theorem al_clear (o : am_ok S) (ht : t ≠ 0) (h : am_li e S t w as) : am_M g y_AL_clear "()V" 0 0 [.ref w] S (fun v S' => v = none ∧ am_li e S' t w [] ∧ am_fr (am_lX t) S S' ∧ S'.2 = S.2) := by
  obtain ⟨mc, ea, ta, vs, h1, h2, h3, h4, h5⟩ := h
  have hta : ta ≠ t := by rcases h5 with h5 | h5 <;> omega
  have key : ∀ (m i : Nat) (S1 : am_S) (ws : List Value), i + m = as.length → ws.length = as.length + vs.length → S1.1 w = some (t, .inr (am_cAL, [.int (mc + nI 1), .ref ea, .int (nI 0)])) → S1.1 ea = some (ta, .inl (am_kO, ws)) → am_fr (am_lX t) S S1 → S1.2 = S.2 → am_W g y_AL_clear 0 0 (fun v S' => v = none ∧ am_li e S' t w [] ∧ am_fr (am_lX t) S S' ∧ S'.2 = S.2) 27 [some (.ref w), some (.ref ea), some (.int (nI as.length)), some (.int (nI i))] [] S1 := by
    intro m
    induction m with
    | zero =>
      intro i S1 ws hi kl k1 k2 kf kc
      refine am_iload_n d_AL_clear_27 rfl ?_
      refine am_iload_n d_AL_clear_28 rfl ?_
      refine am_icmp_geN (tgt := 42) d_AL_clear_29 (by decide) (by omega) (by omega) (fun _ => ?_) (fun q => absurd q (by omega))
      refine am_vret d_AL_clear_42 rfl ?_
      refine ⟨rfl, ⟨mc + nI 1, ea, ta, ws, k1, k2, by simp, by simp; omega, ?_⟩, kf, kc⟩
      rcases h5 with h5 | h5
      · exact Or.inl ⟨h5.1, by simp; omega⟩
      · obtain ⟨e1, e2, rfl, rfl⟩ := h5
        exact Or.inr ⟨e1, e2, rfl, List.length_eq_zero_iff.mp kl⟩
    | succ m ih =>
      intro i S1 ws hi kl k1 k2 kf kc
      have htt : ta = t + 1 := by
        rcases h5 with h5 | h5
        · exact h5.1
        · obtain ⟨-, -, rfl, -⟩ := h5
          simp at hi
      refine am_iload_n d_AL_clear_27 rfl ?_
      refine am_iload_n d_AL_clear_28 rfl ?_
      refine am_icmp_geN (tgt := 42) d_AL_clear_29 (by decide) (by omega) (by omega) (fun q => absurd q (by omega)) (fun _ => ?_)
      refine am_aload_n d_AL_clear_32 rfl (by first | exact am_rvR _ | exact am_rvN | assumption) ?_
      refine am_iload_n d_AL_clear_33 rfl ?_
      refine am_null d_AL_clear_34 ?_
      refine am_aastN (j := i) d_AL_clear_35 am_kO_ok k2 (by omega) rfl (by omega) (by omega) ?_
      first | refine am_iincN (b := 1) (L1 := [_, _, _, _]) d_AL_clear_36 rfl (by decide) (by decide) rfl ?_ | refine am_iinc (L1 := [_, _, _, _]) d_AL_clear_36 rfl rfl (by decide) rfl ?_
      refine am_goto (tgt := 27) d_AL_clear_39 (by decide) ?_
      exact ih (i + 1) _ (ws.set i .null) (by omega) (by simpa using kl) (am_up_tag k1 k2 hta) (am_up_at _ _ _ _) (kf.trans (am_fr.up k2 (Or.inr htt))) kc
  refine am_Mof (L0 := [some (.ref w), none, none, none]) pl_AL_clear (am_k1 rfl am_k0) (Nat.le_of_ble_eq_true rfl) rfl ?_
  refine am_aload_n d_AL_clear_0 rfl (by first | exact am_rvR _ | exact am_rvN | assumption) ?_
  refine am_dup d_AL_clear_1 rfl ?_
  refine am_get d_AL_clear_2 f_AL_63 (by first | assumption | exact am_up_at _ _ _ _) (by rfl) ?_
  refine am_iconst (v := nI 1) d_AL_clear_5 (by decide) ?_
  first | refine am_iaddN d_AL_clear_6 ?_ | refine am_iadd d_AL_clear_6 ?_
  refine am_put _ d_AL_clear_7 f_AL_63 (p_AL_63 _) h1 ht rfl rfl ?_
  have k1' := am_up_at S w t (.inr (am_cAL, [.int (mc + nI 1), .ref ea, .int (nI as.length)]))
  have k2' := am_up_tag (t' := t) (x' := .inr (am_cAL, [.int (mc + nI 1), .ref ea, .int (nI as.length)])) h2 h1 (Ne.symm hta)
  refine am_aload_n d_AL_clear_10 rfl (by first | exact am_rvR _ | exact am_rvN | assumption) ?_
  refine am_get d_AL_clear_11 f_AL_9 (by first | assumption | exact am_up_at _ _ _ _) (by rfl) ?_
  refine am_astore_n (L1 := [_, _, _, _]) d_AL_clear_14 (by decide) (by first | exact am_rvR _ | exact am_rvN | assumption) rfl ?_
  refine am_aload_n d_AL_clear_15 rfl (by first | exact am_rvR _ | exact am_rvN | assumption) ?_
  refine am_get d_AL_clear_16 f_AL_48 (by first | assumption | exact am_up_at _ _ _ _) (by rfl) ?_
  refine am_istore_n (L1 := [_, _, _, _]) d_AL_clear_19 (by decide) rfl ?_
  refine am_aload_n d_AL_clear_20 rfl (by first | exact am_rvR _ | exact am_rvN | assumption) ?_
  refine am_iconst (v := nI 0) d_AL_clear_21 (by decide) ?_
  refine am_dup_x1 d_AL_clear_22 rfl rfl ?_
  refine am_put _ d_AL_clear_23 f_AL_48 (p_AL_48 _) k1' ht rfl rfl ?_
  refine am_istore_n (L1 := [_, _, _, _]) d_AL_clear_26 (by decide) rfl ?_
  exact key as.length 0 _ _ (by omega) (by simp) (am_up_at _ _ _ _) (am_up_tag k2' k1' (Ne.symm hta)) ((am_fr.up h1 (Or.inl rfl)).trans (am_fr.up k1' (Or.inl rfl))) rfl
theorem jd_fill {a tg : Nat} {xs : List Value} (x : Int32) (ha : S.1 a = some (tg, .inl (am_kI, xs))) (ht : tg ≠ 0) (hl : xs.length < 2 ^ 30) : am_M g y_As_fill "([II)V" 0 0 [.ref a, .int x] S (fun v S' => v = none ∧ S' = am_up S a tg (.inl (am_kI, List.replicate xs.length (.int x)))) := by
  have key : ∀ (m i : Nat) (S1 : am_S), i + m = xs.length → S1 = am_up S a tg (.inl (am_kI, List.replicate i (.int x) ++ xs.drop i)) → am_W g y_As_fill 0 0 (fun v S' => v = none ∧ S' = am_up S a tg (.inl (am_kI, List.replicate xs.length (.int x)))) 5 [some (.ref a), some (.int x), some (.int (nI i)), some (.int (nI xs.length))] [] S1 := by
    intro m
    induction m with
    | zero =>
      intro i S1 hi k1
      refine am_iload_n d_As_fill_5 rfl ?_
      refine am_iload_n d_As_fill_6 rfl ?_
      refine am_icmp_geN (tgt := 20) d_As_fill_7 (by decide) (by omega) (by omega) (fun _ => ?_) (fun q => absurd q (by omega))
      refine am_vret d_As_fill_20 rfl ?_
      have e1 : i = xs.length := by omega
      subst e1
      refine ⟨rfl, ?_⟩
      rw [k1, List.drop_length, List.append_nil]
    | succ m ih =>
      intro i S1 hi k1
      have k2 : S1.1 a = some (tg, .inl (am_kI, List.replicate i (.int x) ++ xs.drop i)) := by rw [k1]; exact am_up_at _ _ _ _
      refine am_iload_n d_As_fill_5 rfl ?_
      refine am_iload_n d_As_fill_6 rfl ?_
      refine am_icmp_geN (tgt := 20) d_As_fill_7 (by decide) (by omega) (by omega) (fun q => absurd q (by omega)) (fun _ => ?_)
      refine am_aload_n d_As_fill_10 rfl (by first | exact am_rvR _ | exact am_rvN | assumption) ?_
      refine am_iload_n d_As_fill_11 rfl ?_
      refine am_iload_n d_As_fill_12 rfl ?_
      refine am_iast (j := i) d_As_fill_13 am_kI_ok k2 ht rfl (by simp; omega) (by simp; omega) ?_
      first | refine am_iincN (b := 1) (L1 := [_, _, _, _]) d_As_fill_14 rfl (by decide) (by decide) rfl ?_ | refine am_iinc (L1 := [_, _, _, _]) d_As_fill_14 rfl rfl (by decide) rfl ?_
      refine am_goto (tgt := 5) d_As_fill_17 (by decide) ?_
      refine ih (i + 1) _ (by omega) ?_
      rw [k1, am_up_up]
      congr 3
      apply List.ext_getElem
      · simp; omega
      · intro q h1 h2
        simp at h1
        simp only [List.getElem_set, List.getElem_append, List.length_replicate, List.getElem_replicate, List.getElem_drop]
        by_cases c1 : i = q
        · subst c1; simp
        · by_cases c2 : q < i
          · simp [c1, c2, show q < i + 1 by omega]
          · simp only [c1, c2, show ¬ q < i + 1 by omega, if_false, dif_neg, not_false_eq_true]
            congr 1
            omega
  refine am_Mof (L0 := [some (.ref a), some (.int x), none, none]) pl_As_fill (am_k1 rfl (am_k1 rfl am_k0)) (Nat.le_of_ble_eq_true rfl) rfl ?_
  refine am_iconst (v := nI 0) d_As_fill_0 (by decide) ?_
  refine am_istore_n (L1 := [_, _, _, _]) d_As_fill_1 (by decide) rfl ?_
  refine am_aload_n d_As_fill_2 rfl (by first | exact am_rvR _ | exact am_rvN | assumption) ?_
  refine am_alen (v := nI xs.length) d_As_fill_3 am_kI_ok ha rfl ?_
  refine am_istore_n (L1 := [_, _, _, _]) d_As_fill_4 (by decide) rfl ?_
  exact key xs.length 0 S (by omega) (am_up_id ha).symm
end JDM
end
section
/-! the reference's cells: scalars and arrays by the number of their field -/
abbrev fr_S : Type := (Nat → Int32) × (Nat → Nat → Int32)
def fr_zl : List Nat := [0, 0, 0, 0, 20, 20, 20, 0, 6, 6, 6, 6, 20, 360, 5, 20, 20, 20, 20, 5, 40, 40, 40, 40, 40, 10, 3000, 5, 20, 20, 6, 0, 0, 6, 6, 6, 6, 6, 6, 30, 6, 6, 0, 5]
/-- how many places the array of a field has; 0: the field is a number -/
def fr_z (f : Nat) : Nat := fr_zl.getD f 0
theorem fr_z_lt (f : Nat) : fr_z f < 2 ^ 31 := by
  unfold fr_z
  rw [List.getD_eq_getElem?_getD]
  by_cases h : f < fr_zl.length
  · rw [List.getElem?_eq_getElem h]
    have : ∀ x ∈ fr_zl, x < 2 ^ 31 := by decide
    exact this _ (List.getElem_mem h)
  · rw [List.getElem?_eq_none (by omega)]
    decide
def fr_B (f : Nat) : Bool := f == 6 || f == 29 || f == 40
def fr_k (f : Nat) : Nat := if fr_B f = true then am_kZ else am_kI
def fr_ls (N : Nat) (h : Nat → Int32) : List Value := (List.range N).map (fun j => Value.int (h j))
def fr_fs (A : Nat → Nat) (r : fr_S) : List Value := (List.range 44).map (fun f => if fr_z f = 0 then Value.int (r.1 f) else .ref (A f))
def fr_P (A : Nat → Nat) (r : fr_S) (S : am_S) : Prop := am_ok S ∧ S.1 (A 44) = some (10441, .inr (am_cM, fr_fs A r)) ∧ ∀ f, f < 44 → 0 < fr_z f → S.1 (A f) = some (10001 + 10 * f, .inl (fr_k f, fr_ls (fr_z f) (r.2 f)))
def fr_X (t : Nat) : Prop := 10000 ≤ t
def fr_sc (r : fr_S) (f : Nat) (x : Int32) : fr_S := (fun q => if q = f then x else r.1 q, r.2)
def fr_up (r : fr_S) (f j : Nat) (x : Int32) : fr_S := (r.1, fun q i => if q = f ∧ i = j then x else r.2 q i)
theorem fr_ls_len (N : Nat) (h : Nat → Int32) : (fr_ls N h).length = N := by simp [fr_ls]
theorem fr_ls_get {N j : Nat} (h : Nat → Int32) (hj : j < N) : (fr_ls N h)[j]? = some (.int (h j)) := by simp [fr_ls, hj]
theorem fr_ls_set {N j : Nat} (h : Nat → Int32) (x : Int32) : (fr_ls N h).set j (.int x) = fr_ls N (fun i => if i = j then x else h i) := by
  apply List.ext_getElem
  · simp [fr_ls]
  · intro i h1 h2
    simp [fr_ls] at h1
    simp only [fr_ls, List.getElem_set, List.getElem_map, List.getElem_range]
    by_cases e : j = i
    · subst e; simp
    · rw [if_neg e, if_neg (fun q => e q.symm)]
theorem fr_fs_len (A : Nat → Nat) (r : fr_S) : (fr_fs A r).length = 44 := by simp [fr_fs]
theorem fr_fs_get {A : Nat → Nat} {r : fr_S} {f : Nat} (hf : f < 44) : (fr_fs A r)[f]? = some (if fr_z f = 0 then Value.int (r.1 f) else .ref (A f)) := by simp [fr_fs, hf]
theorem fr_fs_set {A : Nat → Nat} {r : fr_S} {f : Nat} (x : Int32) (hz : fr_z f = 0) : (fr_fs A r).set f (.int x) = fr_fs A (fr_sc r f x) := by
  apply List.ext_getElem
  · simp [fr_fs]
  · intro i h1 h2
    simp [fr_fs] at h1
    simp only [fr_fs, List.getElem_set, List.getElem_map, List.getElem_range, fr_sc]
    by_cases e : f = i
    · subst e; simp [hz]
    · rw [if_neg e]
      simp [show ¬ i = f from fun q => e q.symm]
theorem fr_up_at (s : fr_S) (f j : Nat) (x : Int32) (q i : Nat) : (fr_up s f j x).2 q i = if q = f ∧ i = j then x else s.2 q i := rfl
theorem fr_up_s (s : fr_S) (f j : Nat) (x : Int32) : (fr_up s f j x).1 = s.1 := rfl
theorem fr_sc_at (s : fr_S) (f : Nat) (x : Int32) (q : Nat) : (fr_sc s f x).1 q = if q = f then x else s.1 q := rfl
theorem fr_sc_a (s : fr_S) (f : Nat) (x : Int32) : (fr_sc s f x).2 = s.2 := rfl
section FRR
variable {g : am_G} {y : am_N} {d lo : Nat} {post : Option Value → fr_S → Prop} {pc pc1 : Nat} {L : List (Option Value)} {st : List Value} {s : fr_S} {A : Nat → Nat}
theorem fr_gS {idx : Nat} (f : Nat) (hd : am_D y.2.2.1 pc (.getfield idx) 3 pc1) (hF : am_F y.1 idx am_cM f) (hf : f < 44) (hz : fr_z f = 0) (h : gm_W (fr_P A) fr_X g y d lo post pc1 L (.int (s.1 f) :: st) s) : gm_W (fr_P A) fr_X g y d lo post pc L (.ref (A 44) :: st) s := fun S hS => am_get hd hF hS.2.1 (by rw [fr_fs_get hf, if_pos hz]) (h S hS)
theorem fr_gA {idx : Nat} (f : Nat) (hd : am_D y.2.2.1 pc (.getfield idx) 3 pc1) (hF : am_F y.1 idx am_cM f) (hf : f < 44) (hz : 0 < fr_z f) (h : gm_W (fr_P A) fr_X g y d lo post pc1 L (.ref (A f) :: st) s) : gm_W (fr_P A) fr_X g y d lo post pc L (.ref (A 44) :: st) s := fun S hS => am_get hd hF hS.2.1 (by rw [fr_fs_get hf, if_neg (by omega)]) (h S hS)
theorem fr_pS {idx : Nat} (f : Nat) {x : Int32} (hd : am_D y.2.2.1 pc (.putfield idx) 3 pc1) (hF : am_F y.1 idx am_cM f) (hP : am_P y.1 y.2.1 am_cM f .int) (hf : f < 44) (hz : fr_z f = 0) (h : gm_W (fr_P A) fr_X g y d lo post pc1 L st (fr_sc s f x)) : gm_W (fr_P A) fr_X g y d lo post pc L (.int x :: .ref (A 44) :: st) s := fun S hS => by
  refine am_put .int hd hF hP hS.2.1 (by decide) rfl rfl ?_
  rw [fr_fs_set x hz]
  refine gm_cont (am_fr.up hS.2.1 (show 10000 ≤ 10441 by decide)) ⟨hS.1.up hS.2.1, am_up_at _ _ _ _, fun q hq hz => ?_⟩ h
  exact am_up_tag (hS.2.2 q hq hz) hS.2.1 (by omega)
theorem fr_stored {r : fr_S} {S : am_S} {f j : Nat} (x : Int32) (hS : fr_P A r S) (hf : f < 44) (hz : 0 < fr_z f) : fr_P A (fr_up r f j x) (am_up S (A f) (10001 + 10 * f) (.inl (fr_k f, (fr_ls (fr_z f) (r.2 f)).set j (.int x)))) := by
  have hc := hS.2.2 f hf hz
  refine ⟨hS.1.up hc, am_up_tag hS.2.1 hc (by omega), fun q hq hz' => ?_⟩
  by_cases e : q = f
  · subst e
    rw [am_up_at, fr_ls_set]
    congr 5
    funext i
    simp [fr_up]
  · have h1 : (fr_up r f j x).2 q = r.2 q := by
      funext i
      simp [fr_up, e]
    rw [h1]
    exact am_up_tag (hS.2.2 q hq hz') hc (by omega)
theorem fr_ald {f j : Nat} (hd : am_D y.2.2.1 pc .iaload 1 pc1) (hf : f < 44) (hb : fr_B f = false) (hj : j < fr_z f) (h : gm_W (fr_P A) fr_X g y d lo post pc1 L (.int (s.2 f j) :: st) s) : gm_W (fr_P A) fr_X g y d lo post pc L (.int (nI j) :: .ref (A f) :: st) s := fun S hS => by
  have hc := hS.2.2 f hf (by omega)
  have hk : fr_k f = am_kI := by simp [fr_k, hb]
  rw [hk] at hc
  exact am_iald hd am_kI_ok hc rfl (fr_ls_get _ hj) (by rw [fr_ls_len]; exact fr_z_lt f) (h S hS)
theorem fr_zld {f j : Nat} (hd : am_D y.2.2.1 pc .baload 1 pc1) (hf : f < 44) (hb : fr_B f = true) (hj : j < fr_z f) (h : gm_W (fr_P A) fr_X g y d lo post pc1 L (.int (s.2 f j) :: st) s) : gm_W (fr_P A) fr_X g y d lo post pc L (.int (nI j) :: .ref (A f) :: st) s := fun S hS => by
  have hc := hS.2.2 f hf (by omega)
  have hk : fr_k f = am_kZ := by simp [fr_k, hb]
  rw [hk] at hc
  exact am_zald hd am_kZ_ok hc rfl (fr_ls_get _ hj) (by rw [fr_ls_len]; exact fr_z_lt f) (h S hS)
theorem fr_ast {f j : Nat} {x : Int32} (hd : am_D y.2.2.1 pc .iastore 1 pc1) (hf : f < 44) (hb : fr_B f = false) (hj : j < fr_z f) (h : gm_W (fr_P A) fr_X g y d lo post pc1 L st (fr_up s f j x)) : gm_W (fr_P A) fr_X g y d lo post pc L (.int x :: .int (nI j) :: .ref (A f) :: st) s := fun S hS => by
  have hc := hS.2.2 f hf (by omega)
  have hp := fr_stored (j := j) x hS hf (by omega)
  have hk : fr_k f = am_kI := by simp [fr_k, hb]
  rw [hk] at hc hp
  exact am_iast hd am_kI_ok hc (by omega) rfl (by rw [fr_ls_len]; exact hj) (by rw [fr_ls_len]; exact fr_z_lt f) (gm_cont (am_fr.up hc (show 10000 ≤ _ by omega)) hp h)
theorem fr_zst {f j : Nat} {x : Int32} (hd : am_D y.2.2.1 pc .bastore 1 pc1) (hf : f < 44) (hb : fr_B f = true) (hj : j < fr_z f) (hx : narrow .boolean (.int x) = .int x) (h : gm_W (fr_P A) fr_X g y d lo post pc1 L st (fr_up s f j x)) : gm_W (fr_P A) fr_X g y d lo post pc L (.int x :: .int (nI j) :: .ref (A f) :: st) s := fun S hS => by
  have hc := hS.2.2 f hf (by omega)
  have hp := fr_stored (j := j) x hS hf (by omega)
  have hk : fr_k f = am_kZ := by simp [fr_k, hb]
  rw [hk] at hc hp
  exact am_zast hd am_kZ_ok hc (by omega) rfl (by rw [fr_ls_len]; exact hj) (by rw [fr_ls_len]; exact fr_z_lt f) hx (gm_cont (am_fr.up hc (show 10000 ≤ _ by omega)) hp h)
theorem fr_aldv {f j : Nat} {v : Int32} (hd : am_D y.2.2.1 pc .iaload 1 pc1) (hf : f < 44) (hb : fr_B f = false) (hj : j < fr_z f) (hv : s.2 f j = v) (h : gm_W (fr_P A) fr_X g y d lo post pc1 L (.int v :: st) s) : gm_W (fr_P A) fr_X g y d lo post pc L (.int (nI j) :: .ref (A f) :: st) s := fr_ald hd hf hb hj (by rw [hv]; exact h)
theorem fr_zldv {f j : Nat} {v : Int32} (hd : am_D y.2.2.1 pc .baload 1 pc1) (hf : f < 44) (hb : fr_B f = true) (hj : j < fr_z f) (hv : s.2 f j = v) (h : gm_W (fr_P A) fr_X g y d lo post pc1 L (.int v :: st) s) : gm_W (fr_P A) fr_X g y d lo post pc L (.int (nI j) :: .ref (A f) :: st) s := fr_zld hd hf hb hj (by rw [hv]; exact h)
theorem fr_gSv {idx : Nat} (f : Nat) {v : Int32} (hd : am_D y.2.2.1 pc (.getfield idx) 3 pc1) (hF : am_F y.1 idx am_cM f) (hf : f < 44) (hz : fr_z f = 0) (hv : s.1 f = v) (h : gm_W (fr_P A) fr_X g y d lo post pc1 L (.int v :: st) s) : gm_W (fr_P A) fr_X g y d lo post pc L (.ref (A 44) :: st) s := fr_gS f hd hF hf hz (by rw [hv]; exact h)
theorem fr_at (s : fr_S) (S : am_S) (h : fr_P A s S) : ∃ tb fs, S.1 (A 44) = some (tb, .inr (am_cM, fs)) := ⟨_, _, h.2.1⟩
end FRR
end
section
/-! the reference, method by method -/
theorem am_bt {c : Bool} (h : c = true) : some (Value.int (nI 1)) = some (Value.int (am_b c)) := by subst h; rfl
theorem am_bf {c : Bool} (h : c = false) : some (Value.int (nI 0)) = some (Value.int (am_b c)) := by subst h; rfl
theorem am_n0 : (nI 0).toInt = 0 := by decide
theorem am_i0 : (0 : Int32).toInt = 0 := by decide
theorem am_n1 : (nI 1).toInt = 1 := by decide
theorem am_i1 : (1 : Int32).toInt = 1 := by decide
theorem am_n2 : (nI 2).toInt = 2 := by decide
theorem am_i2 : (2 : Int32).toInt = 2 := by decide
theorem am_n3 : (nI 3).toInt = 3 := by decide
theorem am_i3 : (3 : Int32).toInt = 3 := by decide
theorem am_n4 : (nI 4).toInt = 4 := by decide
theorem am_i4 : (4 : Int32).toInt = 4 := by decide
theorem am_n5 : (nI 5).toInt = 5 := by decide
theorem am_i5 : (5 : Int32).toInt = 5 := by decide
theorem am_n6 : (nI 6).toInt = 6 := by decide
theorem am_i6 : (6 : Int32).toInt = 6 := by decide
theorem am_n7 : (nI 7).toInt = 7 := by decide
theorem am_i7 : (7 : Int32).toInt = 7 := by decide
theorem am_n8 : (nI 8).toInt = 8 := by decide
theorem am_i8 : (8 : Int32).toInt = 8 := by decide
theorem am_n9 : (nI 9).toInt = 9 := by decide
theorem am_i9 : (9 : Int32).toInt = 9 := by decide
theorem am_n10 : (nI 10).toInt = 10 := by decide
theorem am_i10 : (10 : Int32).toInt = 10 := by decide
theorem am_n11 : (nI 11).toInt = 11 := by decide
theorem am_i11 : (11 : Int32).toInt = 11 := by decide
theorem am_m1 : (-1 : Int32).toInt = -1 := by decide
theorem am_n511 : (nI 511).toInt = 511 := by decide
theorem am_i511 : (511 : Int32).toInt = 511 := by decide
section REF
variable {g : am_G} {A : Nat → Nat} {r : fr_S}
theorem rf_between (v lo hi : Int32) : gm_M (fr_P A) fr_X g y_M_between "(III)I" 0 0 [.int v, .int lo, .int hi] (fun v0 r' => v0 = some (.int (if v < lo then lo else if hi < v then hi else v)) ∧ r' = r) r := by
  refine gm_Mof (L0 := [some (.int v), some (.int lo), some (.int hi)]) pl_M_between (am_k1 rfl (am_k1 rfl (am_k1 rfl am_k0))) (Nat.le_of_ble_eq_true rfl) rfl ?_
  refine gm_iload_n d_M_between_0 rfl ?_
  refine gm_iload_n d_M_between_1 rfl ?_
  first | refine gm_icmp_geN (tgt := 9) d_M_between_2 (by decide) (by omega) (by omega) (fun q1 => ?_) (fun q1 => ?_) | refine gm_icmp_ge (tgt := 9) d_M_between_2 (by decide) (fun q1 => ?_) (fun q1 => ?_)
  · refine gm_iload_n d_M_between_9 rfl ?_
    refine gm_iload_n d_M_between_10 rfl ?_
    first | refine gm_icmp_leN (tgt := 18) d_M_between_11 (by decide) (by omega) (by omega) (fun q2 => ?_) (fun q2 => ?_) | refine gm_icmp_le (tgt := 18) d_M_between_11 (by decide) (fun q2 => ?_) (fun q2 => ?_)
    · refine gm_iload_n d_M_between_18 rfl ?_
      refine gm_iret d_M_between_19 rfl rfl ?_
      exact ⟨by (split <;> (try split) <;> first | rfl | (exfalso; simp only [Int32.lt_iff_toInt_lt, Int32.le_iff_toInt_le, am_n0, am_i0, am_n1, am_i1, am_n2, am_i2, am_n3, am_i3, am_n4, am_i4, am_n5, am_i5, am_n6, am_i6, am_n7, am_i7, am_n8, am_i8, am_n9, am_i9, am_n10, am_i10, am_n11, am_i11, am_m1, am_n511, am_i511] at *; omega)), rfl⟩
    · refine gm_iload_n d_M_between_14 rfl ?_
      refine gm_goto (tgt := 19) d_M_between_15 (by decide) ?_
      refine gm_iret d_M_between_19 rfl rfl ?_
      exact ⟨by (split <;> (try split) <;> first | rfl | (exfalso; simp only [Int32.lt_iff_toInt_lt, Int32.le_iff_toInt_le, am_n0, am_i0, am_n1, am_i1, am_n2, am_i2, am_n3, am_i3, am_n4, am_i4, am_n5, am_i5, am_n6, am_i6, am_n7, am_i7, am_n8, am_i8, am_n9, am_i9, am_n10, am_i10, am_n11, am_i11, am_m1, am_n511, am_i511] at *; omega)), rfl⟩
  · refine gm_iload_n d_M_between_5 rfl ?_
    refine gm_goto (tgt := 19) d_M_between_6 (by decide) ?_
    refine gm_iret d_M_between_19 rfl rfl ?_
    exact ⟨by (split <;> (try split) <;> first | rfl | (exfalso; simp only [Int32.lt_iff_toInt_lt, Int32.le_iff_toInt_le, am_n0, am_i0, am_n1, am_i1, am_n2, am_i2, am_n3, am_i3, am_n4, am_i4, am_n5, am_i5, am_n6, am_i6, am_n7, am_i7, am_n8, am_i8, am_n9, am_i9, am_n10, am_i10, am_n11, am_i11, am_m1, am_n511, am_i511] at *; omega)), rfl⟩
theorem rf_isSwitch {ns : Nat} (h0 : r.1 0 = nI ns) (x : Int32) : gm_M (fr_P A) fr_X g y_M_isSwitch "(I)Z" 0 0 [.ref (A 44), .int x] (fun v r' => v = some (.int (am_b (fc_sw ns x))) ∧ r' = r) r := by
  refine gm_Mof (L0 := [some (.ref (A 44)), some (.int x)]) pl_M_isSwitch (am_k1 rfl (am_k1 rfl am_k0)) (Nat.le_of_ble_eq_true rfl) rfl ?_
  refine gm_iload_n d_M_isSwitch_0 rfl ?_
  first | refine gm_if_ltN (tgt := 16) d_M_isSwitch_1 (by decide) (by omega) (fun q1 => ?_) (fun q1 => ?_) | refine gm_if_lt (tgt := 16) d_M_isSwitch_1 (by decide) (fun q1 => ?_) (fun q1 => ?_)
  · refine gm_iconst (v := nI 0) d_M_isSwitch_16 (by decide) ?_
    refine gm_iret d_M_isSwitch_17 rfl (by first | rfl | exact am_b_nar _) ?_
    exact ⟨by first | (refine am_bt ?_; (simp only [fc_sw, Bool.and_eq_true, Bool.and_eq_false_iff, decide_eq_true_eq, decide_eq_false_iff_not, Int32.lt_iff_toInt_lt, Int32.le_iff_toInt_le, am_n0, am_i0, am_n1, am_i1, am_n2, am_i2, am_n3, am_i3, am_n4, am_i4, am_n5, am_i5, am_n6, am_i6, am_n7, am_i7, am_n8, am_i8, am_n9, am_i9, am_n10, am_i10, am_n11, am_i11, am_m1, am_n511, am_i511] at *; omega)) | (refine am_bf ?_; (simp only [fc_sw, Bool.and_eq_true, Bool.and_eq_false_iff, decide_eq_true_eq, decide_eq_false_iff_not, Int32.lt_iff_toInt_lt, Int32.le_iff_toInt_le, am_n0, am_i0, am_n1, am_i1, am_n2, am_i2, am_n3, am_i3, am_n4, am_i4, am_n5, am_i5, am_n6, am_i6, am_n7, am_i7, am_n8, am_i8, am_n9, am_i9, am_n10, am_i10, am_n11, am_i11, am_m1, am_n511, am_i511] at *; omega)), rfl⟩
  · refine gm_iload_n d_M_isSwitch_4 rfl ?_
    refine gm_aload_n d_M_isSwitch_5 rfl (by first | exact am_rvR _ | exact am_rvN | assumption) ?_
    refine fr_gSv 0 d_M_isSwitch_6 f_M_123 (by decide) rfl (by first | assumption | (simp only [fr_up_at, fr_up_s, fr_sc_at, fr_sc_a, Nat.reduceEqDiff, false_and, if_false, ite_false, reduceCtorEq]; first | assumption | rfl) | rfl) ?_
    first | refine gm_icmp_geN (tgt := 16) d_M_isSwitch_9 (by decide) (by omega) (by omega) (fun q2 => ?_) (fun q2 => ?_) | refine gm_icmp_ge (tgt := 16) d_M_isSwitch_9 (by decide) (fun q2 => ?_) (fun q2 => ?_)
    · refine gm_iconst (v := nI 0) d_M_isSwitch_16 (by decide) ?_
      refine gm_iret d_M_isSwitch_17 rfl (by first | rfl | exact am_b_nar _) ?_
      exact ⟨by first | (refine am_bt ?_; (simp only [fc_sw, Bool.and_eq_true, Bool.and_eq_false_iff, decide_eq_true_eq, decide_eq_false_iff_not, Int32.lt_iff_toInt_lt, Int32.le_iff_toInt_le, am_n0, am_i0, am_n1, am_i1, am_n2, am_i2, am_n3, am_i3, am_n4, am_i4, am_n5, am_i5, am_n6, am_i6, am_n7, am_i7, am_n8, am_i8, am_n9, am_i9, am_n10, am_i10, am_n11, am_i11, am_m1, am_n511, am_i511] at *; omega)) | (refine am_bf ?_; (simp only [fc_sw, Bool.and_eq_true, Bool.and_eq_false_iff, decide_eq_true_eq, decide_eq_false_iff_not, Int32.lt_iff_toInt_lt, Int32.le_iff_toInt_le, am_n0, am_i0, am_n1, am_i1, am_n2, am_i2, am_n3, am_i3, am_n4, am_i4, am_n5, am_i5, am_n6, am_i6, am_n7, am_i7, am_n8, am_i8, am_n9, am_i9, am_n10, am_i10, am_n11, am_i11, am_m1, am_n511, am_i511] at *; omega)), rfl⟩
    · refine gm_iconst (v := nI 1) d_M_isSwitch_12 (by decide) ?_
      refine gm_goto (tgt := 17) d_M_isSwitch_13 (by decide) ?_
      refine gm_iret d_M_isSwitch_17 rfl (by first | rfl | exact am_b_nar _) ?_
      exact ⟨by first | (refine am_bt ?_; (simp only [fc_sw, Bool.and_eq_true, Bool.and_eq_false_iff, decide_eq_true_eq, decide_eq_false_iff_not, Int32.lt_iff_toInt_lt, Int32.le_iff_toInt_le, am_n0, am_i0, am_n1, am_i1, am_n2, am_i2, am_n3, am_i3, am_n4, am_i4, am_n5, am_i5, am_n6, am_i6, am_n7, am_i7, am_n8, am_i8, am_n9, am_i9, am_n10, am_i10, am_n11, am_i11, am_m1, am_n511, am_i511] at *; omega)) | (refine am_bf ?_; (simp only [fc_sw, Bool.and_eq_true, Bool.and_eq_false_iff, decide_eq_true_eq, decide_eq_false_iff_not, Int32.lt_iff_toInt_lt, Int32.le_iff_toInt_le, am_n0, am_i0, am_n1, am_i1, am_n2, am_i2, am_n3, am_i3, am_n4, am_i4, am_n5, am_i5, am_n6, am_i6, am_n7, am_i7, am_n8, am_i8, am_n9, am_i9, am_n10, am_i10, am_n11, am_i11, am_m1, am_n511, am_i511] at *; omega)), rfl⟩
theorem rf_isPort {ns : Nat} (h0 : r.1 0 = nI ns) (x p : Int32) : gm_M (fr_P A) fr_X g y_M_isPort "(II)Z" 1 21 [.ref (A 44), .int x, .int p] (fun v r' => v = some (.int (am_b (fc_pt ns x p))) ∧ r' = r) r := by
  refine gm_Mof (L0 := [some (.ref (A 44)), some (.int x), some (.int p)]) pl_M_isPort (am_k1 rfl (am_k1 rfl (am_k1 rfl am_k0))) (Nat.le_of_ble_eq_true rfl) rfl ?_
  refine gm_aload_n d_M_isPort_0 rfl (by first | exact am_rvR _ | exact am_rvN | assumption) ?_
  refine gm_iload_n d_M_isPort_1 rfl ?_
  refine gm_cV (b := A 44) d_M_isPort_2 v_M_133 (vs := [.int x]) (st := []) rfl rfl (by decide) (Nat.le_of_ble_eq_true rfl) (fr_at _) (rf_isSwitch h0 x) ?_
  rintro v r1 ⟨rfl, rfl⟩
  first | refine gm_if_eqB (tgt := 21) d_M_isPort_5 (by decide) (fun q1 => ?_) (fun q1 => ?_) | refine gm_if_eqN (tgt := 21) d_M_isPort_5 (by decide) (by omega) (fun q1 => ?_) (fun q1 => ?_) | refine gm_if_eq (tgt := 21) d_M_isPort_5 (by decide) (fun q1 => ?_) (fun q1 => ?_)
  · refine gm_iconst (v := nI 0) d_M_isPort_21 (by decide) ?_
    refine gm_iret d_M_isPort_22 rfl (by first | rfl | exact am_b_nar _) ?_
    exact ⟨by first | (refine am_bt ?_; (simp only [fc_pt, fc_sw, Bool.and_eq_true, Bool.and_eq_false_iff, decide_eq_true_eq, decide_eq_false_iff_not, Int32.lt_iff_toInt_lt, Int32.le_iff_toInt_le, am_n0, am_i0, am_n1, am_i1, am_n2, am_i2, am_n3, am_i3, am_n4, am_i4, am_n5, am_i5, am_n6, am_i6, am_n7, am_i7, am_n8, am_i8, am_n9, am_i9, am_n10, am_i10, am_n11, am_i11, am_m1, am_n511, am_i511] at *; omega)) | (refine am_bf ?_; (simp only [fc_pt, fc_sw, Bool.and_eq_true, Bool.and_eq_false_iff, decide_eq_true_eq, decide_eq_false_iff_not, Int32.lt_iff_toInt_lt, Int32.le_iff_toInt_le, am_n0, am_i0, am_n1, am_i1, am_n2, am_i2, am_n3, am_i3, am_n4, am_i4, am_n5, am_i5, am_n6, am_i6, am_n7, am_i7, am_n8, am_i8, am_n9, am_i9, am_n10, am_i10, am_n11, am_i11, am_m1, am_n511, am_i511] at *; omega)), rfl⟩
  · refine gm_iload_n d_M_isPort_8 rfl ?_
    first | refine gm_if_ltN (tgt := 21) d_M_isPort_9 (by decide) (by omega) (fun q2 => ?_) (fun q2 => ?_) | refine gm_if_lt (tgt := 21) d_M_isPort_9 (by decide) (fun q2 => ?_) (fun q2 => ?_)
    · refine gm_iconst (v := nI 0) d_M_isPort_21 (by decide) ?_
      refine gm_iret d_M_isPort_22 rfl (by first | rfl | exact am_b_nar _) ?_
      exact ⟨by first | (refine am_bt ?_; (simp only [fc_pt, fc_sw, Bool.and_eq_true, Bool.and_eq_false_iff, decide_eq_true_eq, decide_eq_false_iff_not, Int32.lt_iff_toInt_lt, Int32.le_iff_toInt_le, am_n0, am_i0, am_n1, am_i1, am_n2, am_i2, am_n3, am_i3, am_n4, am_i4, am_n5, am_i5, am_n6, am_i6, am_n7, am_i7, am_n8, am_i8, am_n9, am_i9, am_n10, am_i10, am_n11, am_i11, am_m1, am_n511, am_i511] at *; omega)) | (refine am_bf ?_; (simp only [fc_pt, fc_sw, Bool.and_eq_true, Bool.and_eq_false_iff, decide_eq_true_eq, decide_eq_false_iff_not, Int32.lt_iff_toInt_lt, Int32.le_iff_toInt_le, am_n0, am_i0, am_n1, am_i1, am_n2, am_i2, am_n3, am_i3, am_n4, am_i4, am_n5, am_i5, am_n6, am_i6, am_n7, am_i7, am_n8, am_i8, am_n9, am_i9, am_n10, am_i10, am_n11, am_i11, am_m1, am_n511, am_i511] at *; omega)), rfl⟩
    · refine gm_iload_n d_M_isPort_12 rfl ?_
      refine gm_iconst (v := nI 3) d_M_isPort_13 (by decide) ?_
      first | refine gm_icmp_gtN (tgt := 21) d_M_isPort_14 (by decide) (by omega) (by omega) (fun q3 => ?_) (fun q3 => ?_) | refine gm_icmp_gt (tgt := 21) d_M_isPort_14 (by decide) (fun q3 => ?_) (fun q3 => ?_)
      · refine gm_iconst (v := nI 0) d_M_isPort_21 (by decide) ?_
        refine gm_iret d_M_isPort_22 rfl (by first | rfl | exact am_b_nar _) ?_
        exact ⟨by first | (refine am_bt ?_; (simp only [fc_pt, fc_sw, Bool.and_eq_true, Bool.and_eq_false_iff, decide_eq_true_eq, decide_eq_false_iff_not, Int32.lt_iff_toInt_lt, Int32.le_iff_toInt_le, am_n0, am_i0, am_n1, am_i1, am_n2, am_i2, am_n3, am_i3, am_n4, am_i4, am_n5, am_i5, am_n6, am_i6, am_n7, am_i7, am_n8, am_i8, am_n9, am_i9, am_n10, am_i10, am_n11, am_i11, am_m1, am_n511, am_i511] at *; omega)) | (refine am_bf ?_; (simp only [fc_pt, fc_sw, Bool.and_eq_true, Bool.and_eq_false_iff, decide_eq_true_eq, decide_eq_false_iff_not, Int32.lt_iff_toInt_lt, Int32.le_iff_toInt_le, am_n0, am_i0, am_n1, am_i1, am_n2, am_i2, am_n3, am_i3, am_n4, am_i4, am_n5, am_i5, am_n6, am_i6, am_n7, am_i7, am_n8, am_i8, am_n9, am_i9, am_n10, am_i10, am_n11, am_i11, am_m1, am_n511, am_i511] at *; omega)), rfl⟩
      · refine gm_iconst (v := nI 1) d_M_isPort_17 (by decide) ?_
        refine gm_goto (tgt := 22) d_M_isPort_18 (by decide) ?_
        refine gm_iret d_M_isPort_22 rfl (by first | rfl | exact am_b_nar _) ?_
        exact ⟨by first | (refine am_bt ?_; (simp only [fc_pt, fc_sw, Bool.and_eq_true, Bool.and_eq_false_iff, decide_eq_true_eq, decide_eq_false_iff_not, Int32.lt_iff_toInt_lt, Int32.le_iff_toInt_le, am_n0, am_i0, am_n1, am_i1, am_n2, am_i2, am_n3, am_i3, am_n4, am_i4, am_n5, am_i5, am_n6, am_i6, am_n7, am_i7, am_n8, am_i8, am_n9, am_i9, am_n10, am_i10, am_n11, am_i11, am_m1, am_n511, am_i511] at *; omega)) | (refine am_bf ?_; (simp only [fc_pt, fc_sw, Bool.and_eq_true, Bool.and_eq_false_iff, decide_eq_true_eq, decide_eq_false_iff_not, Int32.lt_iff_toInt_lt, Int32.le_iff_toInt_le, am_n0, am_i0, am_n1, am_i1, am_n2, am_i2, am_n3, am_i3, am_n4, am_i4, am_n5, am_i5, am_n6, am_i6, am_n7, am_i7, am_n8, am_i8, am_n9, am_i9, am_n10, am_i10, am_n11, am_i11, am_m1, am_n511, am_i511] at *; omega)), rfl⟩
theorem rf_isHost {nh : Nat} (h0 : r.1 7 = nI nh) (x : Int32) : gm_M (fr_P A) fr_X g y_M_isHost "(I)Z" 0 0 [.ref (A 44), .int x] (fun v r' => v = some (.int (am_b (decide (0 ≤ x) && decide (x < nI nh)))) ∧ r' = r) r := by
  refine gm_Mof (L0 := [some (.ref (A 44)), some (.int x)]) pl_M_isHost (am_k1 rfl (am_k1 rfl am_k0)) (Nat.le_of_ble_eq_true rfl) rfl ?_
  refine gm_iload_n d_M_isHost_0 rfl ?_
  first | refine gm_if_ltN (tgt := 16) d_M_isHost_1 (by decide) (by omega) (fun q1 => ?_) (fun q1 => ?_) | refine gm_if_lt (tgt := 16) d_M_isHost_1 (by decide) (fun q1 => ?_) (fun q1 => ?_)
  · refine gm_iconst (v := nI 0) d_M_isHost_16 (by decide) ?_
    refine gm_iret d_M_isHost_17 rfl (by first | rfl | exact am_b_nar _) ?_
    exact ⟨by first | (refine am_bt ?_; (simp only [fc_sw, Bool.and_eq_true, Bool.and_eq_false_iff, decide_eq_true_eq, decide_eq_false_iff_not, Int32.lt_iff_toInt_lt, Int32.le_iff_toInt_le, am_n0, am_i0, am_n1, am_i1, am_n2, am_i2, am_n3, am_i3, am_n4, am_i4, am_n5, am_i5, am_n6, am_i6, am_n7, am_i7, am_n8, am_i8, am_n9, am_i9, am_n10, am_i10, am_n11, am_i11, am_m1, am_n511, am_i511] at *; omega)) | (refine am_bf ?_; (simp only [fc_sw, Bool.and_eq_true, Bool.and_eq_false_iff, decide_eq_true_eq, decide_eq_false_iff_not, Int32.lt_iff_toInt_lt, Int32.le_iff_toInt_le, am_n0, am_i0, am_n1, am_i1, am_n2, am_i2, am_n3, am_i3, am_n4, am_i4, am_n5, am_i5, am_n6, am_i6, am_n7, am_i7, am_n8, am_i8, am_n9, am_i9, am_n10, am_i10, am_n11, am_i11, am_m1, am_n511, am_i511] at *; omega)), rfl⟩
  · refine gm_iload_n d_M_isHost_4 rfl ?_
    refine gm_aload_n d_M_isHost_5 rfl (by first | exact am_rvR _ | exact am_rvN | assumption) ?_
    refine fr_gSv 7 d_M_isHost_6 f_M_137 (by decide) rfl (by first | assumption | (simp only [fr_up_at, fr_up_s, fr_sc_at, fr_sc_a, Nat.reduceEqDiff, false_and, if_false, ite_false, reduceCtorEq]; first | assumption | rfl) | rfl) ?_
    first | refine gm_icmp_geN (tgt := 16) d_M_isHost_9 (by decide) (by omega) (by omega) (fun q2 => ?_) (fun q2 => ?_) | refine gm_icmp_ge (tgt := 16) d_M_isHost_9 (by decide) (fun q2 => ?_) (fun q2 => ?_)
    · refine gm_iconst (v := nI 0) d_M_isHost_16 (by decide) ?_
      refine gm_iret d_M_isHost_17 rfl (by first | rfl | exact am_b_nar _) ?_
      exact ⟨by first | (refine am_bt ?_; (simp only [fc_sw, Bool.and_eq_true, Bool.and_eq_false_iff, decide_eq_true_eq, decide_eq_false_iff_not, Int32.lt_iff_toInt_lt, Int32.le_iff_toInt_le, am_n0, am_i0, am_n1, am_i1, am_n2, am_i2, am_n3, am_i3, am_n4, am_i4, am_n5, am_i5, am_n6, am_i6, am_n7, am_i7, am_n8, am_i8, am_n9, am_i9, am_n10, am_i10, am_n11, am_i11, am_m1, am_n511, am_i511] at *; omega)) | (refine am_bf ?_; (simp only [fc_sw, Bool.and_eq_true, Bool.and_eq_false_iff, decide_eq_true_eq, decide_eq_false_iff_not, Int32.lt_iff_toInt_lt, Int32.le_iff_toInt_le, am_n0, am_i0, am_n1, am_i1, am_n2, am_i2, am_n3, am_i3, am_n4, am_i4, am_n5, am_i5, am_n6, am_i6, am_n7, am_i7, am_n8, am_i8, am_n9, am_i9, am_n10, am_i10, am_n11, am_i11, am_m1, am_n511, am_i511] at *; omega)), rfl⟩
    · refine gm_iconst (v := nI 1) d_M_isHost_12 (by decide) ?_
      refine gm_goto (tgt := 17) d_M_isHost_13 (by decide) ?_
      refine gm_iret d_M_isHost_17 rfl (by first | rfl | exact am_b_nar _) ?_
      exact ⟨by first | (refine am_bt ?_; (simp only [fc_sw, Bool.and_eq_true, Bool.and_eq_false_iff, decide_eq_true_eq, decide_eq_false_iff_not, Int32.lt_iff_toInt_lt, Int32.le_iff_toInt_le, am_n0, am_i0, am_n1, am_i1, am_n2, am_i2, am_n3, am_i3, am_n4, am_i4, am_n5, am_i5, am_n6, am_i6, am_n7, am_i7, am_n8, am_i8, am_n9, am_i9, am_n10, am_i10, am_n11, am_i11, am_m1, am_n511, am_i511] at *; omega)) | (refine am_bf ?_; (simp only [fc_sw, Bool.and_eq_true, Bool.and_eq_false_iff, decide_eq_true_eq, decide_eq_false_iff_not, Int32.lt_iff_toInt_lt, Int32.le_iff_toInt_le, am_n0, am_i0, am_n1, am_i1, am_n2, am_i2, am_n3, am_i3, am_n4, am_i4, am_n5, am_i5, am_n6, am_i6, am_n7, am_i7, am_n8, am_i8, am_n9, am_i9, am_n10, am_i10, am_n11, am_i11, am_m1, am_n511, am_i511] at *; omega)), rfl⟩
def fr_join (r : fr_S) (e o : Nat) : fr_S := fr_up (fr_up (fr_up r 4 e (nI 2)) 5 e (nI o)) 6 e (nI 1)
theorem rf_join {e o : Nat} (he : e < 20) : gm_M (fr_P A) fr_X g y_M_join "(II)V" 0 0 [.ref (A 44), .int (nI e), .int (nI o)] (fun v r' => v = none ∧ r' = fr_join r e o) r := by
  refine gm_Mof (L0 := [some (.ref (A 44)), some (.int (nI e)), some (.int (nI o))]) pl_M_join (am_k1 rfl (am_k1 rfl (am_k1 rfl am_k0))) (Nat.le_of_ble_eq_true rfl) rfl ?_
  refine gm_aload_n d_M_join_0 rfl (by first | exact am_rvR _ | exact am_rvN | assumption) ?_
  refine fr_gA 4 d_M_join_1 f_M_7 (by decide) (by decide) ?_
  refine gm_iload_n d_M_join_4 rfl ?_
  refine gm_iconst (v := nI 2) d_M_join_5 (by decide) ?_
  refine fr_ast d_M_join_6 (by decide) rfl (show _ < 20 by omega) ?_
  refine gm_aload_n d_M_join_7 rfl (by first | exact am_rvR _ | exact am_rvN | assumption) ?_
  refine fr_gA 5 d_M_join_8 f_M_13 (by decide) (by decide) ?_
  refine gm_iload_n d_M_join_11 rfl ?_
  refine gm_iload_n d_M_join_12 rfl ?_
  refine fr_ast d_M_join_13 (by decide) rfl (show _ < 20 by omega) ?_
  refine gm_aload_n d_M_join_14 rfl (by first | exact am_rvR _ | exact am_rvN | assumption) ?_
  refine fr_gA 6 d_M_join_15 f_M_16 (by decide) (by decide) ?_
  refine gm_iload_n d_M_join_18 rfl ?_
  refine gm_iconst (v := nI 1) d_M_join_19 (by decide) ?_
  refine fr_zst d_M_join_20 (by decide) rfl (show _ < 20 by omega) (by first | rfl | exact am_b_nar _) ?_
  refine gm_vret d_M_join_21 rfl ?_
  exact ⟨rfl, rfl⟩
def fr_keep (r : fr_S) (c : Nat) (x : Int32) : fr_S := fr_up (fr_up r 40 c (nI 1)) 41 c x
theorem rf_keep {c : Nat} (x : Int32) (hc : c < 6) : gm_M (fr_P A) fr_X g y_M_keep "(II)V" 0 0 [.ref (A 44), .int (nI c), .int x] (fun v r' => v = none ∧ r' = fr_keep r c x) r := by
  refine gm_Mof (L0 := [some (.ref (A 44)), some (.int (nI c)), some (.int x)]) pl_M_keep (am_k1 rfl (am_k1 rfl (am_k1 rfl am_k0))) (Nat.le_of_ble_eq_true rfl) rfl ?_
  refine gm_aload_n d_M_keep_0 rfl (by first | exact am_rvR _ | exact am_rvN | assumption) ?_
  refine fr_gA 40 d_M_keep_1 f_M_110 (by decide) (by decide) ?_
  refine gm_iload_n d_M_keep_4 rfl ?_
  refine gm_iconst (v := nI 1) d_M_keep_5 (by decide) ?_
  refine fr_zst d_M_keep_6 (by decide) rfl (show _ < 6 by omega) (by first | rfl | exact am_b_nar _) ?_
  refine gm_aload_n d_M_keep_7 rfl (by first | exact am_rvR _ | exact am_rvN | assumption) ?_
  refine fr_gA 41 d_M_keep_8 f_M_113 (by decide) (by decide) ?_
  refine gm_iload_n d_M_keep_11 rfl ?_
  refine gm_iload_n d_M_keep_12 rfl ?_
  refine fr_ast d_M_keep_13 (by decide) rfl (show _ < 6 by omega) ?_
  refine gm_vret d_M_keep_14 rfl ?_
  exact ⟨rfl, rfl⟩
def fr_add (r : fr_S) (l n : Nat) (x0 x1 x2 x3 x4 : Int32) : fr_S := fr_up (fr_up (fr_up (fr_up (fr_up (fr_up r 26 (300 * l + 5 * n) x0) 26 (300 * l + 5 * n + 1) x1) 26 (300 * l + 5 * n + 2) x2) 26 (300 * l + 5 * n + 3) x3) 26 (300 * l + 5 * n + 4) x4) 25 l (nI (n + 1))
theorem rf_add {l n : Nat} (hl : l < 10) (hn : r.2 25 l = nI n) (h60 : n < 60) (x0 x1 x2 x3 x4 : Int32) : gm_M (fr_P A) fr_X g y_M_add "(IIIIII)V" 0 0 [.ref (A 44), .int (nI l), .int x0, .int x1, .int x2, .int x3, .int x4] (fun v r' => v = none ∧ r' = fr_add r l n x0 x1 x2 x3 x4) r := by
  refine gm_Mof (L0 := [some (.ref (A 44)), some (.int (nI l)), some (.int x0), some (.int x1), some (.int x2), some (.int x3), some (.int x4), none]) pl_M_add (am_k1 rfl (am_k1 rfl (am_k1 rfl (am_k1 rfl (am_k1 rfl (am_k1 rfl (am_k1 rfl am_k0))))))) (Nat.le_of_ble_eq_true rfl) rfl ?_
  refine gm_aload_n d_M_add_0 rfl (by first | exact am_rvR _ | exact am_rvN | assumption) ?_
  refine fr_gA 25 d_M_add_1 f_M_71 (by decide) (by decide) ?_
  refine gm_iload_n d_M_add_4 rfl ?_
  refine fr_aldv d_M_add_5 (by decide) rfl (show _ < 10 by omega) (by first | assumption | (simp only [fr_up_at, fr_up_s, fr_sc_at, fr_sc_a, Nat.reduceEqDiff, false_and, if_false, ite_false, reduceCtorEq]; first | assumption | rfl) | rfl) ?_
  refine gm_bipush (v := nI 60) d_M_add_6 (by decide) ?_
  first | refine gm_icmp_ltN (tgt := 12) d_M_add_8 (by decide) (by omega) (by omega) (fun q1 => ?_) (fun q1 => ?_) | refine gm_icmp_lt (tgt := 12) d_M_add_8 (by decide) (fun q1 => ?_) (fun q1 => ?_)
  · refine gm_sipush (v := nI 300) d_M_add_12 (by decide) ?_
    refine gm_iload_n d_M_add_15 rfl ?_
    first | refine gm_imulN d_M_add_16 ?_ | refine gm_imul d_M_add_16 ?_
    refine gm_iconst (v := nI 5) d_M_add_17 (by decide) ?_
    refine gm_aload_n d_M_add_18 rfl (by first | exact am_rvR _ | exact am_rvN | assumption) ?_
    refine fr_gA 25 d_M_add_19 f_M_71 (by decide) (by decide) ?_
    refine gm_iload_n d_M_add_22 rfl ?_
    refine fr_aldv d_M_add_23 (by decide) rfl (show _ < 10 by omega) (by first | assumption | (simp only [fr_up_at, fr_up_s, fr_sc_at, fr_sc_a, Nat.reduceEqDiff, false_and, if_false, ite_false, reduceCtorEq]; first | assumption | rfl) | rfl) ?_
    first | refine gm_imulN d_M_add_24 ?_ | refine gm_imul d_M_add_24 ?_
    first | refine gm_iaddN d_M_add_25 ?_ | refine gm_iadd d_M_add_25 ?_
    refine gm_istore (L1 := [_, _, _, _, _, _, _, _]) d_M_add_26 (by decide) rfl ?_
    refine gm_aload_n d_M_add_28 rfl (by first | exact am_rvR _ | exact am_rvN | assumption) ?_
    refine fr_gA 26 d_M_add_29 f_M_74 (by decide) (by decide) ?_
    refine gm_iload d_M_add_32 rfl ?_
    refine gm_iload_n d_M_add_34 rfl ?_
    refine fr_ast d_M_add_35 (by decide) rfl (show _ < 3000 by omega) ?_
    refine gm_aload_n d_M_add_36 rfl (by first | exact am_rvR _ | exact am_rvN | assumption) ?_
    refine fr_gA 26 d_M_add_37 f_M_74 (by decide) (by decide) ?_
    refine gm_iload d_M_add_40 rfl ?_
    refine gm_iconst (v := nI 1) d_M_add_42 (by decide) ?_
    first | refine gm_iaddN d_M_add_43 ?_ | refine gm_iadd d_M_add_43 ?_
    refine gm_iload_n d_M_add_44 rfl ?_
    refine fr_ast d_M_add_45 (by decide) rfl (show _ < 3000 by omega) ?_
    refine gm_aload_n d_M_add_46 rfl (by first | exact am_rvR _ | exact am_rvN | assumption) ?_
    refine fr_gA 26 d_M_add_47 f_M_74 (by decide) (by decide) ?_
    refine gm_iload d_M_add_50 rfl ?_
    refine gm_iconst (v := nI 2) d_M_add_52 (by decide) ?_
    first | refine gm_iaddN d_M_add_53 ?_ | refine gm_iadd d_M_add_53 ?_
    refine gm_iload d_M_add_54 rfl ?_
    refine fr_ast d_M_add_56 (by decide) rfl (show _ < 3000 by omega) ?_
    refine gm_aload_n d_M_add_57 rfl (by first | exact am_rvR _ | exact am_rvN | assumption) ?_
    refine fr_gA 26 d_M_add_58 f_M_74 (by decide) (by decide) ?_
    refine gm_iload d_M_add_61 rfl ?_
    refine gm_iconst (v := nI 3) d_M_add_63 (by decide) ?_
    first | refine gm_iaddN d_M_add_64 ?_ | refine gm_iadd d_M_add_64 ?_
    refine gm_iload d_M_add_65 rfl ?_
    refine fr_ast d_M_add_67 (by decide) rfl (show _ < 3000 by omega) ?_
    refine gm_aload_n d_M_add_68 rfl (by first | exact am_rvR _ | exact am_rvN | assumption) ?_
    refine fr_gA 26 d_M_add_69 f_M_74 (by decide) (by decide) ?_
    refine gm_iload d_M_add_72 rfl ?_
    refine gm_iconst (v := nI 4) d_M_add_74 (by decide) ?_
    first | refine gm_iaddN d_M_add_75 ?_ | refine gm_iadd d_M_add_75 ?_
    refine gm_iload d_M_add_76 rfl ?_
    refine fr_ast d_M_add_78 (by decide) rfl (show _ < 3000 by omega) ?_
    refine gm_aload_n d_M_add_79 rfl (by first | exact am_rvR _ | exact am_rvN | assumption) ?_
    refine fr_gA 25 d_M_add_80 f_M_71 (by decide) (by decide) ?_
    refine gm_iload_n d_M_add_83 rfl ?_
    refine gm_dup2 d_M_add_84 rfl rfl ?_
    refine fr_aldv d_M_add_85 (by decide) rfl (show _ < 10 by omega) (by first | assumption | (simp only [fr_up_at, fr_up_s, fr_sc_at, fr_sc_a, Nat.reduceEqDiff, false_and, if_false, ite_false, reduceCtorEq]; first | assumption | rfl) | rfl) ?_
    refine gm_iconst (v := nI 1) d_M_add_86 (by decide) ?_
    first | refine gm_iaddN d_M_add_87 ?_ | refine gm_iadd d_M_add_87 ?_
    refine fr_ast d_M_add_88 (by decide) rfl (show _ < 10 by omega) ?_
    refine gm_vret d_M_add_89 rfl ?_
    first | exact ⟨rfl, rfl⟩ | exact absurd q1 (by omega)
  · refine gm_vret d_M_add_11 rfl ?_
    first | exact ⟨rfl, rfl⟩ | exact absurd q1 (by omega)
theorem rf_portOf {c k e : Nat} (hc : 5 * c + k < 30) (he : r.2 39 (5 * c + k) = nI (5 * (e / 4) + e % 4)) (h20 : e < 20) : gm_M (fr_P A) fr_X g y_M_portOf "(II)I" 0 0 [.ref (A 44), .int (nI c), .int (nI k)] (fun v r' => v = some (.int (nI e)) ∧ r' = r) r := by
  refine gm_Mof (L0 := [some (.ref (A 44)), some (.int (nI c)), some (.int (nI k)), none]) pl_M_portOf (am_k1 rfl (am_k1 rfl (am_k1 rfl am_k0))) (Nat.le_of_ble_eq_true rfl) rfl ?_
  refine gm_aload_n d_M_portOf_0 rfl (by first | exact am_rvR _ | exact am_rvN | assumption) ?_
  refine fr_gA 39 d_M_portOf_1 f_M_107 (by decide) (by decide) ?_
  refine gm_iconst (v := nI 5) d_M_portOf_4 (by decide) ?_
  refine gm_iload_n d_M_portOf_5 rfl ?_
  first | refine gm_imulN d_M_portOf_6 ?_ | refine gm_imul d_M_portOf_6 ?_
  refine gm_iload_n d_M_portOf_7 rfl ?_
  first | refine gm_iaddN d_M_portOf_8 ?_ | refine gm_iadd d_M_portOf_8 ?_
  refine fr_aldv d_M_portOf_9 (by decide) rfl (show _ < 30 by omega) (by first | assumption | (simp only [fr_up_at, fr_up_s, fr_sc_at, fr_sc_a, Nat.reduceEqDiff, false_and, if_false, ite_false, reduceCtorEq]; first | assumption | rfl) | rfl) ?_
  refine gm_istore_n (L1 := [_, _, _, _]) d_M_portOf_10 (by decide) rfl ?_
  refine gm_iconst (v := nI 4) d_M_portOf_11 (by decide) ?_
  refine gm_iload_n d_M_portOf_12 rfl ?_
  refine gm_iconst (v := nI 5) d_M_portOf_13 (by decide) ?_
  first | refine gm_idivN d_M_portOf_14 (by omega) (by omega) (by omega) ?_ | refine gm_idiv d_M_portOf_14 (by decide) ?_
  first | refine gm_imulN d_M_portOf_15 ?_ | refine gm_imul d_M_portOf_15 ?_
  refine gm_iload_n d_M_portOf_16 rfl ?_
  refine gm_iconst (v := nI 5) d_M_portOf_17 (by decide) ?_
  first | refine gm_iremN d_M_portOf_18 (by omega) (by omega) (by omega) ?_ | refine gm_irem d_M_portOf_18 (by decide) ?_
  first | refine gm_iaddN d_M_portOf_19 ?_ | refine gm_iadd d_M_portOf_19 ?_
  refine gm_iret d_M_portOf_20 rfl rfl ?_
  exact ⟨by congr 2; congr 1; omega, rfl⟩
end REF
end
