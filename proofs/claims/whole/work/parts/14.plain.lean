theorem pl_FF : plainName "FlowFabric" = true := by decide +kernel
theorem pl_Nd : plainName "FlowFabric$Node" = true := by decide +kernel
theorem pl_Pt : plainName "FlowFabric$Port" = true := by decide +kernel
theorem pl_Ho : plainName "FlowFabric$Host" = true := by decide +kernel
theorem pl_Ct : plainName "FlowFabric$Controller" = true := by decide +kernel
theorem pl_Co : plainName "FlowFabric$Course" = true := by decide +kernel
theorem pl_Dg : plainName "FlowFabric$Datagram" = true := by decide +kernel
theorem pl_Fr : plainName "FlowFabric$Frame" = true := by decide +kernel
theorem pl_Gd : plainName "FlowFabric$Guard" = true := by decide +kernel
theorem pl_Ms : plainName "FlowFabric$Message" = true := by decide +kernel
theorem pl_Rl : plainName "FlowFabric$Rule" = true := by decide +kernel
theorem pl_M : plainName "FlowFabricModel" = true := by decide +kernel
theorem pl_Lw : plainName "FlowFabricLaw" = true := by decide +kernel
theorem pl_FF_new : plainFor ⟨y_FF_new.1, y_FF_new.2.1, "(III)V"⟩ = true := plainFor_of_name pl_FF
theorem pl_FF_within : plainFor ⟨y_FF_within.1, y_FF_within.2.1, "(III)I"⟩ = true := plainFor_of_name pl_FF
theorem pl_Mt_min : plainFor ⟨y_Mt_min.1, y_Mt_min.2.1, "(II)I"⟩ = true := by decide +kernel
theorem pl_Mt_max : plainFor ⟨y_Mt_max.1, y_Mt_max.2.1, "(II)I"⟩ = true := by decide +kernel
theorem pl_Nd_new : plainFor ⟨y_Nd_new.1, y_Nd_new.2.1, "(II)V"⟩ = true := plainFor_of_name pl_Nd
theorem pl_Pt_new : plainFor ⟨y_Pt_new.1, y_Pt_new.2.1, "()V"⟩ = true := plainFor_of_name pl_Pt
theorem pl_AL_new : plainFor ⟨y_AL_new.1, y_AL_new.2.1, "()V"⟩ = true := by decide +kernel
theorem pl_Al_new : plainFor ⟨y_Al_new.1, y_Al_new.2.1, "()V"⟩ = true := by decide +kernel
theorem pl_Ac_new : plainFor ⟨y_Ac_new.1, y_Ac_new.2.1, "()V"⟩ = true := by decide +kernel
theorem pl_Ct_new : plainFor ⟨y_Ct_new.1, y_Ct_new.2.1, "([LFlowFabric$Node;)V"⟩ = true := plainFor_of_name pl_Ct
theorem pl_As_fill : plainFor ⟨y_As_fill.1, y_As_fill.2.1, "([II)V"⟩ = true := by decide +kernel
theorem pl_FF_attach : plainFor ⟨y_FF_attach.1, y_FF_attach.2.1, "(II)I"⟩ = true := plainFor_of_name pl_FF
theorem pl_FF_isPort : plainFor ⟨y_FF_isPort.1, y_FF_isPort.2.1, "(II)Z"⟩ = true := plainFor_of_name pl_FF
theorem pl_FF_isSwitch : plainFor ⟨y_FF_isSwitch.1, y_FF_isSwitch.2.1, "(I)Z"⟩ = true := plainFor_of_name pl_FF
theorem pl_Pt_isFree : plainFor ⟨y_Pt_isFree.1, y_Pt_isFree.2.1, "()Z"⟩ = true := plainFor_of_name pl_Pt
theorem pl_Ho_new : plainFor ⟨y_Ho_new.1, y_Ho_new.2.1, "(III)V"⟩ = true := plainFor_of_name pl_Ho
theorem pl_FF_link : plainFor ⟨y_FF_link.1, y_FF_link.2.1, "(IIII)Z"⟩ = true := plainFor_of_name pl_FF
theorem pl_FF_endOf : plainFor ⟨y_FF_endOf.1, y_FF_endOf.2.1, "(II)I"⟩ = true := plainFor_of_name pl_FF
theorem pl_Pt_join : plainFor ⟨y_Pt_join.1, y_Pt_join.2.1, "(I)V"⟩ = true := plainFor_of_name pl_Pt
theorem pl_FF_turn : plainFor ⟨y_FF_turn.1, y_FF_turn.2.1, "(IIZ)Z"⟩ = true := plainFor_of_name pl_FF
theorem pl_FF_isEnd : plainFor ⟨y_FF_isEnd.1, y_FF_isEnd.2.1, "(II)Z"⟩ = true := plainFor_of_name pl_FF
theorem pl_FF_switchOf : plainFor ⟨y_FF_switchOf.1, y_FF_switchOf.2.1, "(I)I"⟩ = true := plainFor_of_name pl_FF
theorem pl_Nd_holdsLinks : plainFor ⟨y_Nd_holdsLinks.1, y_Nd_holdsLinks.2.1, "()Z"⟩ = true := plainFor_of_name pl_Nd
theorem pl_AL_size : plainFor ⟨y_AL_size.1, y_AL_size.2.1, "()I"⟩ = true := by decide +kernel
theorem pl_Nd_turnPort : plainFor ⟨y_Nd_turnPort.1, y_Nd_turnPort.2.1, "(IZ)V"⟩ = true := plainFor_of_name pl_Nd
theorem pl_AL_clear : plainFor ⟨y_AL_clear.1, y_AL_clear.2.1, "()V"⟩ = true := by decide +kernel
theorem pl_Ms_ofValue : plainFor ⟨y_Ms_ofValue.1, y_Ms_ofValue.2.1, "(II)LFlowFabric$Message;"⟩ = true := plainFor_of_name pl_Ms
theorem pl_Ms_new : plainFor ⟨y_Ms_new.1, y_Ms_new.2.1, "(IIIII)V"⟩ = true := plainFor_of_name pl_Ms
theorem pl_AL_add : plainFor ⟨y_AL_add.1, y_AL_add.2.1, "(Ljava/lang/Object;)Z"⟩ = true := by decide +kernel
theorem pl_AL_add2 : plainFor ⟨y_AL_add2.1, y_AL_add2.2.1, "(Ljava/lang/Object;[Ljava/lang/Object;I)V"⟩ = true := by decide +kernel
theorem pl_AL_grow : plainFor ⟨y_AL_grow.1, y_AL_grow.2.1, "()[Ljava/lang/Object;"⟩ = true := by decide +kernel
theorem pl_AL_grow2 : plainFor ⟨y_AL_grow2.1, y_AL_grow2.2.1, "(I)[Ljava/lang/Object;"⟩ = true := by decide +kernel
theorem pl_Sp_newLength : plainFor ⟨y_Sp_newLength.1, y_Sp_newLength.2.1, "(III)I"⟩ = true := by decide +kernel
theorem pl_As_copyOf : plainFor ⟨y_As_copyOf.1, y_As_copyOf.2.1, "([Ljava/lang/Object;I)[Ljava/lang/Object;"⟩ = true := by decide +kernel
theorem pl_As_copyOf2 : plainFor ⟨y_As_copyOf2.1, y_As_copyOf2.2.1, "([Ljava/lang/Object;ILjava/lang/Class;)[Ljava/lang/Object;"⟩ = true := by decide +kernel
theorem pl_FF_portOf : plainFor ⟨y_FF_portOf.1, y_FF_portOf.2.1, "(I)I"⟩ = true := plainFor_of_name pl_FF
theorem pl_FF_guard : plainFor ⟨y_FF_guard.1, y_FF_guard.2.1, "(IIII)I"⟩ = true := plainFor_of_name pl_FF
theorem pl_Gd_isMatch : plainFor ⟨y_Gd_isMatch.1, y_Gd_isMatch.2.1, "(I)Z"⟩ = true := plainFor_of_name pl_Gd
theorem pl_Gd_new : plainFor ⟨y_Gd_new.1, y_Gd_new.2.1, "(III)V"⟩ = true := plainFor_of_name pl_Gd
theorem pl_FF_unguard : plainFor ⟨y_FF_unguard.1, y_FF_unguard.2.1, "(II)I"⟩ = true := plainFor_of_name pl_FF
theorem pl_FF_isGuard : plainFor ⟨y_FF_isGuard.1, y_FF_isGuard.2.1, "(II)Z"⟩ = true := plainFor_of_name pl_FF
theorem pl_AL_remove : plainFor ⟨y_AL_remove.1, y_AL_remove.2.1, "(I)Ljava/lang/Object;"⟩ = true := by decide +kernel
theorem pl_Ob_checkIndex : plainFor ⟨y_Ob_checkIndex.1, y_Ob_checkIndex.2.1, "(II)I"⟩ = true := by decide +kernel
theorem pl_Pr_checkIndex : plainFor ⟨y_Pr_checkIndex.1, y_Pr_checkIndex.2.1, "(IILjava/util/function/BiFunction;)I"⟩ = true := by decide +kernel
theorem pl_AL_fastRemove : plainFor ⟨y_AL_fastRemove.1, y_AL_fastRemove.2.1, "([Ljava/lang/Object;I)V"⟩ = true := by decide +kernel
theorem pl_FF_send : plainFor ⟨y_FF_send.1, y_FF_send.2.1, "(III)Z"⟩ = true := plainFor_of_name pl_FF
theorem pl_FF_isHost : plainFor ⟨y_FF_isHost.1, y_FF_isHost.2.1, "(I)Z"⟩ = true := plainFor_of_name pl_FF
theorem pl_Dg_new : plainFor ⟨y_Dg_new.1, y_Dg_new.2.1, "(III)V"⟩ = true := plainFor_of_name pl_Dg
theorem pl_Nd_comeIn : plainFor ⟨y_Nd_comeIn.1, y_Nd_comeIn.2.1, "(LFlowFabric$Datagram;II)V"⟩ = true := plainFor_of_name pl_Nd
theorem pl_Nd_strongestGuard : plainFor ⟨y_Nd_strongestGuard.1, y_Nd_strongestGuard.2.1, "(LFlowFabric$Datagram;I)LFlowFabric$Guard;"⟩ = true := plainFor_of_name pl_Nd
theorem pl_AL_get : plainFor ⟨y_AL_get.1, y_AL_get.2.1, "(I)Ljava/lang/Object;"⟩ = true := by decide +kernel
theorem pl_AL_elementData : plainFor ⟨y_AL_elementData.1, y_AL_elementData.2.1, "(I)Ljava/lang/Object;"⟩ = true := by decide +kernel
theorem pl_Gd_matches : plainFor ⟨y_Gd_matches.1, y_Gd_matches.2.1, "(LFlowFabric$Datagram;I)Z"⟩ = true := plainFor_of_name pl_Gd
theorem pl_Gd_fits : plainFor ⟨y_Gd_fits.1, y_Gd_fits.2.1, "(II)Z"⟩ = true := plainFor_of_name pl_Gd
theorem pl_Fr_ofDatagram : plainFor ⟨y_Fr_ofDatagram.1, y_Fr_ofDatagram.2.1, "(LFlowFabric$Datagram;)LFlowFabric$Frame;"⟩ = true := plainFor_of_name pl_Fr
theorem pl_Fr_new : plainFor ⟨y_Fr_new.1, y_Fr_new.2.1, "(LFlowFabric$Datagram;I)V"⟩ = true := plainFor_of_name pl_Fr
theorem pl_Pt_sendOut : plainFor ⟨y_Pt_sendOut.1, y_Pt_sendOut.2.1, "(LFlowFabric$Frame;)V"⟩ = true := plainFor_of_name pl_Pt
theorem pl_Ho_take : plainFor ⟨y_Ho_take.1, y_Ho_take.2.1, "(LFlowFabric$Datagram;)V"⟩ = true := plainFor_of_name pl_Ho
theorem pl_Nd_comeToRules : plainFor ⟨y_Nd_comeToRules.1, y_Nd_comeToRules.2.1, "(LFlowFabric$Datagram;II)V"⟩ = true := plainFor_of_name pl_Nd
theorem pl_Nd_ruleIndex : plainFor ⟨y_Nd_ruleIndex.1, y_Nd_ruleIndex.2.1, "(II)I"⟩ = true := plainFor_of_name pl_Nd
theorem pl_Ms_ofDatagram : plainFor ⟨y_Ms_ofDatagram.1, y_Ms_ofDatagram.2.1, "(IILFlowFabric$Datagram;)LFlowFabric$Message;"⟩ = true := plainFor_of_name pl_Ms
theorem pl_Nd_addIfOpen : plainFor ⟨y_Nd_addIfOpen.1, y_Nd_addIfOpen.2.1, "(LFlowFabric$Message;)V"⟩ = true := plainFor_of_name pl_Nd
theorem pl_FF_carry : plainFor ⟨y_FF_carry.1, y_FF_carry.2.1, "(II)Z"⟩ = true := plainFor_of_name pl_FF
theorem pl_AL_isEmpty : plainFor ⟨y_AL_isEmpty.1, y_AL_isEmpty.2.1, "()Z"⟩ = true := by decide +kernel
theorem pl_Nd_receive : plainFor ⟨y_Nd_receive.1, y_Nd_receive.2.1, "(LFlowFabric$Frame;II)V"⟩ = true := plainFor_of_name pl_Nd
theorem pl_Ms_ofProbe : plainFor ⟨y_Ms_ofProbe.1, y_Ms_ofProbe.2.1, "(II)LFlowFabric$Message;"⟩ = true := plainFor_of_name pl_Ms
theorem pl_FF_obey : plainFor ⟨y_FF_obey.1, y_FF_obey.2.1, "(I)I"⟩ = true := plainFor_of_name pl_FF
theorem pl_Nd_carryOut : plainFor ⟨y_Nd_carryOut.1, y_Nd_carryOut.2.1, "(LFlowFabric$Message;I)V"⟩ = true := plainFor_of_name pl_Nd
theorem pl_Nd_putRule : plainFor ⟨y_Nd_putRule.1, y_Nd_putRule.2.1, "(LFlowFabric$Message;I)V"⟩ = true := plainFor_of_name pl_Nd
theorem pl_Nd_cutRule : plainFor ⟨y_Nd_cutRule.1, y_Nd_cutRule.2.1, "(II)V"⟩ = true := plainFor_of_name pl_Nd
theorem pl_Ms_ofPair : plainFor ⟨y_Ms_ofPair.1, y_Ms_ofPair.2.1, "(IIII)LFlowFabric$Message;"⟩ = true := plainFor_of_name pl_Ms
theorem pl_Rl_new : plainFor ⟨y_Rl_new.1, y_Rl_new.2.1, "(IIII)V"⟩ = true := plainFor_of_name pl_Rl
theorem pl_Ms_toDatagram : plainFor ⟨y_Ms_toDatagram.1, y_Ms_toDatagram.2.1, "()LFlowFabric$Datagram;"⟩ = true := plainFor_of_name pl_Ms
theorem pl_Nd_sendOutAt : plainFor ⟨y_Nd_sendOutAt.1, y_Nd_sendOutAt.2.1, "(ILFlowFabric$Datagram;)V"⟩ = true := plainFor_of_name pl_Nd
theorem pl_Nd_sendProbes : plainFor ⟨y_Nd_sendProbes.1, y_Nd_sendProbes.2.1, "()V"⟩ = true := plainFor_of_name pl_Nd
theorem pl_Fr_ofProbe : plainFor ⟨y_Fr_ofProbe.1, y_Fr_ofProbe.2.1, "(I)LFlowFabric$Frame;"⟩ = true := plainFor_of_name pl_Fr
theorem pl_FF_report : plainFor ⟨y_FF_report.1, y_FF_report.2.1, "(I)I"⟩ = true := plainFor_of_name pl_FF
theorem pl_Ct_handle : plainFor ⟨y_Ct_handle.1, y_Ct_handle.2.1, "(ILFlowFabric$Message;)V"⟩ = true := plainFor_of_name pl_Ct
theorem pl_Ct_handleMiss : plainFor ⟨y_Ct_handleMiss.1, y_Ct_handleMiss.2.1, "(IILFlowFabric$Datagram;)V"⟩ = true := plainFor_of_name pl_Ct
theorem pl_Ct_courseOf : plainFor ⟨y_Ct_courseOf.1, y_Ct_courseOf.2.1, "(II)LFlowFabric$Course;"⟩ = true := plainFor_of_name pl_Ct
theorem pl_Ct_clearCourse : plainFor ⟨y_Ct_clearCourse.1, y_Ct_clearCourse.2.1, "(LFlowFabric$Course;)V"⟩ = true := plainFor_of_name pl_Ct
theorem pl_Ct_orderOuts : plainFor ⟨y_Ct_orderOuts.1, y_Ct_orderOuts.2.1, "(IILFlowFabric$Datagram;)V"⟩ = true := plainFor_of_name pl_Ct
theorem pl_Ct_makeCourse : plainFor ⟨y_Ct_makeCourse.1, y_Ct_makeCourse.2.1, "(LFlowFabric$Datagram;)V"⟩ = true := plainFor_of_name pl_Ct
theorem pl_Ct_findWay : plainFor ⟨y_Ct_findWay.1, y_Ct_findWay.2.1, "(II)[I"⟩ = true := plainFor_of_name pl_Ct
theorem pl_Ct_countSteps : plainFor ⟨y_Ct_countSteps.1, y_Ct_countSteps.2.1, "(I)V"⟩ = true := plainFor_of_name pl_Ct
theorem pl_Ct_nextEnd : plainFor ⟨y_Ct_nextEnd.1, y_Ct_nextEnd.2.1, "(I)I"⟩ = true := plainFor_of_name pl_Ct
theorem pl_Co_new : plainFor ⟨y_Co_new.1, y_Co_new.2.1, "(IILFlowFabric$Datagram;)V"⟩ = true := plainFor_of_name pl_Co
theorem pl_Co_beginLaying : plainFor ⟨y_Co_beginLaying.1, y_Co_beginLaying.2.1, "([I)V"⟩ = true := plainFor_of_name pl_Co
theorem pl_Ct_leadAhead : plainFor ⟨y_Ct_leadAhead.1, y_Ct_leadAhead.2.1, "(LFlowFabric$Course;)V"⟩ = true := plainFor_of_name pl_Ct
theorem pl_Ct_handleSeen : plainFor ⟨y_Ct_handleSeen.1, y_Ct_handleSeen.2.1, "(II)V"⟩ = true := plainFor_of_name pl_Ct
theorem pl_Co_endsWith : plainFor ⟨y_Co_endsWith.1, y_Co_endsWith.2.1, "(I)Z"⟩ = true := plainFor_of_name pl_Co
theorem pl_Co_isLayingOrLaid : plainFor ⟨y_Co_isLayingOrLaid.1, y_Co_isLayingOrLaid.2.1, "()Z"⟩ = true := plainFor_of_name pl_Co
theorem pl_Ct_handleDone : plainFor ⟨y_Ct_handleDone.1, y_Ct_handleDone.2.1, "(I)V"⟩ = true := plainFor_of_name pl_Ct
theorem pl_Ct_countDone : plainFor ⟨y_Ct_countDone.1, y_Ct_countDone.2.1, "(LFlowFabric$Course;I)V"⟩ = true := plainFor_of_name pl_Ct
theorem pl_Ct_finishLaying : plainFor ⟨y_Ct_finishLaying.1, y_Ct_finishLaying.2.1, "(LFlowFabric$Course;)V"⟩ = true := plainFor_of_name pl_Ct
theorem pl_Ct_handleNoRoom : plainFor ⟨y_Ct_handleNoRoom.1, y_Ct_handleNoRoom.2.1, "(II)V"⟩ = true := plainFor_of_name pl_Ct
theorem pl_Ct_handleGone : plainFor ⟨y_Ct_handleGone.1, y_Ct_handleGone.2.1, "(III)V"⟩ = true := plainFor_of_name pl_Ct
theorem pl_Co_passes : plainFor ⟨y_Co_passes.1, y_Co_passes.2.1, "(I)Z"⟩ = true := plainFor_of_name pl_Co
theorem pl_Ct_handleDown : plainFor ⟨y_Ct_handleDown.1, y_Ct_handleDown.2.1, "(I)V"⟩ = true := plainFor_of_name pl_Ct
theorem pl_Co_leadsOutOf : plainFor ⟨y_Co_leadsOutOf.1, y_Co_leadsOutOf.2.1, "(I)Z"⟩ = true := plainFor_of_name pl_Co
theorem pl_FF_probe : plainFor ⟨y_FF_probe.1, y_FF_probe.2.1, "()Z"⟩ = true := plainFor_of_name pl_FF
theorem pl_FF_tick : plainFor ⟨y_FF_tick.1, y_FF_tick.2.1, "()I"⟩ = true := plainFor_of_name pl_FF
theorem pl_Nd_dropOldRules : plainFor ⟨y_Nd_dropOldRules.1, y_Nd_dropOldRules.2.1, "(II)I"⟩ = true := plainFor_of_name pl_Nd
theorem pl_Rl_isOld : plainFor ⟨y_Rl_isOld.1, y_Rl_isOld.2.1, "(II)Z"⟩ = true := plainFor_of_name pl_Rl
theorem pl_FF_waiting : plainFor ⟨y_FF_waiting.1, y_FF_waiting.2.1, "(II)I"⟩ = true := plainFor_of_name pl_FF
theorem pl_FF_rule : plainFor ⟨y_FF_rule.1, y_FF_rule.2.1, "(IIII)I"⟩ = true := plainFor_of_name pl_FF
theorem pl_FF_hits : plainFor ⟨y_FF_hits.1, y_FF_hits.2.1, "(II)I"⟩ = true := plainFor_of_name pl_FF
theorem pl_FF_taken : plainFor ⟨y_FF_taken.1, y_FF_taken.2.1, "(II)I"⟩ = true := plainFor_of_name pl_FF
theorem pl_FF_known : plainFor ⟨y_FF_known.1, y_FF_known.2.1, "(II)I"⟩ = true := plainFor_of_name pl_FF
theorem pl_FF_place : plainFor ⟨y_FF_place.1, y_FF_place.2.1, "(I)I"⟩ = true := plainFor_of_name pl_FF
theorem pl_FF_course : plainFor ⟨y_FF_course.1, y_FF_course.2.1, "(III)I"⟩ = true := plainFor_of_name pl_FF
theorem pl_Lw_cell : plainFor ⟨y_Lw_cell.1, y_Lw_cell.2.1, "([II)I"⟩ = true := plainFor_of_name pl_Lw
theorem pl_M_new : plainFor ⟨y_M_new.1, y_M_new.2.1, "(III)V"⟩ = true := plainFor_of_name pl_M
theorem pl_M_between : plainFor ⟨y_M_between.1, y_M_between.2.1, "(III)I"⟩ = true := plainFor_of_name pl_M
theorem pl_M_attach : plainFor ⟨y_M_attach.1, y_M_attach.2.1, "(II)I"⟩ = true := plainFor_of_name pl_M
theorem pl_M_isPort : plainFor ⟨y_M_isPort.1, y_M_isPort.2.1, "(II)Z"⟩ = true := plainFor_of_name pl_M
theorem pl_M_isSwitch : plainFor ⟨y_M_isSwitch.1, y_M_isSwitch.2.1, "(I)Z"⟩ = true := plainFor_of_name pl_M
theorem pl_M_link : plainFor ⟨y_M_link.1, y_M_link.2.1, "(IIII)Z"⟩ = true := plainFor_of_name pl_M
theorem pl_M_join : plainFor ⟨y_M_join.1, y_M_join.2.1, "(II)V"⟩ = true := plainFor_of_name pl_M
theorem pl_M_turn : plainFor ⟨y_M_turn.1, y_M_turn.2.1, "(IIZ)Z"⟩ = true := plainFor_of_name pl_M
theorem pl_M_tell : plainFor ⟨y_M_tell.1, y_M_tell.2.1, "(IIIIII)V"⟩ = true := plainFor_of_name pl_M
theorem pl_M_add : plainFor ⟨y_M_add.1, y_M_add.2.1, "(IIIIII)V"⟩ = true := plainFor_of_name pl_M
theorem pl_M_guard : plainFor ⟨y_M_guard.1, y_M_guard.2.1, "(IIII)I"⟩ = true := plainFor_of_name pl_M
theorem pl_M_hits : plainFor ⟨y_M_hits.1, y_M_hits.2.1, "(II)I"⟩ = true := plainFor_of_name pl_M
theorem pl_M_isGuard : plainFor ⟨y_M_isGuard.1, y_M_isGuard.2.1, "(II)Z"⟩ = true := plainFor_of_name pl_M
theorem pl_M_unguard : plainFor ⟨y_M_unguard.1, y_M_unguard.2.1, "(II)I"⟩ = true := plainFor_of_name pl_M
theorem pl_M_send : plainFor ⟨y_M_send.1, y_M_send.2.1, "(III)Z"⟩ = true := plainFor_of_name pl_M
theorem pl_M_isHost : plainFor ⟨y_M_isHost.1, y_M_isHost.2.1, "(I)Z"⟩ = true := plainFor_of_name pl_M
theorem pl_M_comesIn : plainFor ⟨y_M_comesIn.1, y_M_comesIn.2.1, "(IIIII)V"⟩ = true := plainFor_of_name pl_M
theorem pl_M_matches : plainFor ⟨y_M_matches.1, y_M_matches.2.1, "(IIII)Z"⟩ = true := plainFor_of_name pl_M
theorem pl_M_out : plainFor ⟨y_M_out.1, y_M_out.2.1, "(IIII)V"⟩ = true := plainFor_of_name pl_M
theorem pl_M_toRules : plainFor ⟨y_M_toRules.1, y_M_toRules.2.1, "(IIIII)V"⟩ = true := plainFor_of_name pl_M
theorem pl_M_ruleAt : plainFor ⟨y_M_ruleAt.1, y_M_ruleAt.2.1, "(II)I"⟩ = true := plainFor_of_name pl_M
theorem pl_M_carry : plainFor ⟨y_M_carry.1, y_M_carry.2.1, "(II)Z"⟩ = true := plainFor_of_name pl_M
theorem pl_M_obey : plainFor ⟨y_M_obey.1, y_M_obey.2.1, "(I)I"⟩ = true := plainFor_of_name pl_M
theorem pl_M_take : plainFor ⟨y_M_take.1, y_M_take.2.1, "(I)V"⟩ = true := plainFor_of_name pl_M
theorem pl_M_put : plainFor ⟨y_M_put.1, y_M_put.2.1, "(III)V"⟩ = true := plainFor_of_name pl_M
theorem pl_M_removeRule : plainFor ⟨y_M_removeRule.1, y_M_removeRule.2.1, "(II)V"⟩ = true := plainFor_of_name pl_M
theorem pl_M_probe : plainFor ⟨y_M_probe.1, y_M_probe.2.1, "()Z"⟩ = true := plainFor_of_name pl_M
theorem pl_M_order : plainFor ⟨y_M_order.1, y_M_order.2.1, "(IIIIII)V"⟩ = true := plainFor_of_name pl_M
theorem pl_M_tick : plainFor ⟨y_M_tick.1, y_M_tick.2.1, "()I"⟩ = true := plainFor_of_name pl_M
theorem pl_M_report : plainFor ⟨y_M_report.1, y_M_report.2.1, "(I)I"⟩ = true := plainFor_of_name pl_M
theorem pl_M_missed : plainFor ⟨y_M_missed.1, y_M_missed.2.1, "(IIIII)V"⟩ = true := plainFor_of_name pl_M
theorem pl_M_courseOf : plainFor ⟨y_M_courseOf.1, y_M_courseOf.2.1, "(I)I"⟩ = true := plainFor_of_name pl_M
theorem pl_M_keep : plainFor ⟨y_M_keep.1, y_M_keep.2.1, "(II)V"⟩ = true := plainFor_of_name pl_M
theorem pl_M_clear : plainFor ⟨y_M_clear.1, y_M_clear.2.1, "(I)V"⟩ = true := plainFor_of_name pl_M
theorem pl_M_flood : plainFor ⟨y_M_flood.1, y_M_flood.2.1, "(IIIII)V"⟩ = true := plainFor_of_name pl_M
theorem pl_M_search : plainFor ⟨y_M_search.1, y_M_search.2.1, "(I)Z"⟩ = true := plainFor_of_name pl_M
theorem pl_M_isWay : plainFor ⟨y_M_isWay.1, y_M_isWay.2.1, "(IIII)Z"⟩ = true := plainFor_of_name pl_M
theorem pl_M_leads : plainFor ⟨y_M_leads.1, y_M_leads.2.1, "(II)I"⟩ = true := plainFor_of_name pl_M
theorem pl_M_lay : plainFor ⟨y_M_lay.1, y_M_lay.2.1, "(I)V"⟩ = true := plainFor_of_name pl_M
theorem pl_M_lead : plainFor ⟨y_M_lead.1, y_M_lead.2.1, "(II)V"⟩ = true := plainFor_of_name pl_M
theorem pl_M_seen : plainFor ⟨y_M_seen.1, y_M_seen.2.1, "(II)V"⟩ = true := plainFor_of_name pl_M
theorem pl_M_portOf : plainFor ⟨y_M_portOf.1, y_M_portOf.2.1, "(II)I"⟩ = true := plainFor_of_name pl_M
theorem pl_M_done : plainFor ⟨y_M_done.1, y_M_done.2.1, "(I)V"⟩ = true := plainFor_of_name pl_M
theorem pl_M_cleared : plainFor ⟨y_M_cleared.1, y_M_cleared.2.1, "(I)V"⟩ = true := plainFor_of_name pl_M
theorem pl_M_drop : plainFor ⟨y_M_drop.1, y_M_drop.2.1, "(I)V"⟩ = true := plainFor_of_name pl_M
theorem pl_M_led : plainFor ⟨y_M_led.1, y_M_led.2.1, "(I)V"⟩ = true := plainFor_of_name pl_M
theorem pl_M_down : plainFor ⟨y_M_down.1, y_M_down.2.1, "(I)V"⟩ = true := plainFor_of_name pl_M
theorem pl_M_passes : plainFor ⟨y_M_passes.1, y_M_passes.2.1, "(II)Z"⟩ = true := plainFor_of_name pl_M
theorem pl_M_waiting : plainFor ⟨y_M_waiting.1, y_M_waiting.2.1, "(II)I"⟩ = true := plainFor_of_name pl_M
theorem pl_M_rule : plainFor ⟨y_M_rule.1, y_M_rule.2.1, "(IIII)I"⟩ = true := plainFor_of_name pl_M
theorem pl_M_taken : plainFor ⟨y_M_taken.1, y_M_taken.2.1, "(II)I"⟩ = true := plainFor_of_name pl_M
theorem pl_M_known : plainFor ⟨y_M_known.1, y_M_known.2.1, "(II)I"⟩ = true := plainFor_of_name pl_M
theorem pl_M_place : plainFor ⟨y_M_place.1, y_M_place.2.1, "(I)I"⟩ = true := plainFor_of_name pl_M
theorem pl_M_course : plainFor ⟨y_M_course.1, y_M_course.2.1, "(III)I"⟩ = true := plainFor_of_name pl_M
