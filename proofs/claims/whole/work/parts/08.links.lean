/-- what a new object asks of the tables -/
def am_NW (own : String) (idx ci : Nat) : Prop := ∃ q : vw_C, am_cl[ci]? = some q ∧ Cond.classLink own idx q.1 ∈ am_wz ∧ Cond.instantiable q.1 q.2.2 ∈ am_wz ∧ Cond.initialized q.1 ∈ am_wz
theorem s_FF_7 : am_CS "FlowFabric" 7 y_FF_within "(III)I" 3 := ⟨⟨am_in1 32 rfl rfl, am_in1 1 rfl rfl, by decide, by decide, by decide +kernel⟩, Or.inl (am_in1 30 rfl rfl), am_in1 31 rfl rfl⟩
theorem k_FF_13 : Cond.classLink "FlowFabric" 13 "FlowFabric$Node" ∈ am_wz := am_in1 39 rfl rfl
theorem n_FF_13 : am_NW "FlowFabric" 13 1 := ⟨am_qNd, rfl, am_in1 39 rfl rfl, am_in1 41 rfl rfl, am_in1 3 rfl rfl⟩
theorem i_FF_15 : am_CI "FlowFabric" 15 y_Nd_new "(II)V" 2 := ⟨⟨am_in1 44 rfl rfl, am_in1 3 rfl rfl, by decide, by decide, by decide +kernel⟩, rfl, rfl, Or.inl (am_in1 42 rfl rfl), am_in1 43 rfl rfl⟩
theorem f_FF_18 : am_F "FlowFabric" 18 0 1 := ⟨am_qFF, "FlowFabric", rfl, by decide, Or.inl (am_in1 169 rfl rfl), Or.inl rfl⟩
theorem p_FF_18 : am_P "FlowFabric" "<init>" 0 1 (.array (.object "FlowFabric$Node")) := ⟨am_qFF, rfl, by decide +kernel, Or.inr ⟨rfl, rfl, rfl⟩⟩
theorem f_FF_22 : am_F "FlowFabric" 22 0 0 := ⟨am_qFF, "FlowFabric", rfl, by decide, Or.inl (am_in1 168 rfl rfl), Or.inl rfl⟩
theorem p_FF_22 : am_P "FlowFabric" "<init>" 0 0 .int := ⟨am_qFF, rfl, by decide +kernel, Or.inr ⟨rfl, rfl, rfl⟩⟩
theorem k_FF_26 : Cond.classLink "FlowFabric" 26 "FlowFabric$Host" ∈ am_wz := am_in1 129 rfl rfl
theorem f_FF_28 : am_F "FlowFabric" 28 0 2 := ⟨am_qFF, "FlowFabric", rfl, by decide, Or.inl (am_in1 170 rfl rfl), Or.inl rfl⟩
theorem p_FF_28 : am_P "FlowFabric" "<init>" 0 2 (.array (.object "FlowFabric$Host")) := ⟨am_qFF, rfl, by decide +kernel, Or.inr ⟨rfl, rfl, rfl⟩⟩
theorem n_FF_32 : am_NW "FlowFabric" 32 4 := ⟨am_qCt, rfl, am_in1 131 rfl rfl, am_in1 132 rfl rfl, am_in1 8 rfl rfl⟩
theorem i_FF_34 : am_CI "FlowFabric" 34 y_Ct_new "([LFlowFabric$Node;)V" 1 := ⟨⟨am_in1 135 rfl rfl, am_in1 8 rfl rfl, by decide, by decide, by decide +kernel⟩, rfl, rfl, Or.inl (am_in1 133 rfl rfl), am_in1 134 rfl rfl⟩
theorem f_FF_37 : am_F "FlowFabric" 37 0 3 := ⟨am_qFF, "FlowFabric", rfl, by decide, Or.inl (am_in1 171 rfl rfl), Or.inl rfl⟩
theorem p_FF_37 : am_P "FlowFabric" "<init>" 0 3 (.object "FlowFabric$Controller") := ⟨am_qFF, rfl, by decide +kernel, Or.inr ⟨rfl, rfl, rfl⟩⟩
theorem f_FF_41 : am_F "FlowFabric" 41 0 4 := ⟨am_qFF, "FlowFabric", rfl, by decide, Or.inl (am_in1 172 rfl rfl), Or.inl rfl⟩
theorem p_FF_41 (nm : String) : am_P "FlowFabric" nm 0 4 .int := ⟨am_qFF, rfl, by decide +kernel, Or.inl rfl⟩
theorem f_FF_44 : am_F "FlowFabric" 44 0 5 := ⟨am_qFF, "FlowFabric", rfl, by decide, Or.inl (am_in1 173 rfl rfl), Or.inl rfl⟩
theorem p_FF_44 (nm : String) : am_P "FlowFabric" nm 0 5 .int := ⟨am_qFF, rfl, by decide +kernel, Or.inl rfl⟩
theorem s_FF_239 : am_CS "FlowFabric" 239 y_Mt_min "(II)I" 2 := ⟨⟨am_in1 35 rfl rfl, am_in1 2 rfl rfl, by decide, by decide, by decide +kernel⟩, Or.inl (am_in1 33 rfl rfl), am_in1 34 rfl rfl⟩
theorem s_FF_244 : am_CS "FlowFabric" 244 y_Mt_max "(II)I" 2 := ⟨⟨am_in1 38 rfl rfl, am_in1 2 rfl rfl, by decide, by decide, by decide +kernel⟩, Or.inl (am_in1 36 rfl rfl), am_in1 37 rfl rfl⟩
theorem f_Nd_9 : am_F "FlowFabric$Node" 9 1 0 := ⟨am_qNd, "FlowFabric$Node", rfl, by decide, Or.inl (am_in1 101 rfl rfl), Or.inl rfl⟩
theorem p_Nd_9 : am_P "FlowFabric$Node" "<init>" 1 0 .int := ⟨am_qNd, rfl, by decide +kernel, Or.inr ⟨rfl, rfl, rfl⟩⟩
theorem f_Nd_15 : am_F "FlowFabric$Node" 15 1 1 := ⟨am_qNd, "FlowFabric$Node", rfl, by decide, Or.inl (am_in1 102 rfl rfl), Or.inl rfl⟩
theorem p_Nd_15 : am_P "FlowFabric$Node" "<init>" 1 1 .int := ⟨am_qNd, rfl, by decide +kernel, Or.inr ⟨rfl, rfl, rfl⟩⟩
theorem k_Nd_18 : Cond.classLink "FlowFabric$Node" 18 "FlowFabric$Port" ∈ am_wz := am_in1 46 rfl rfl
theorem f_Nd_20 : am_F "FlowFabric$Node" 20 1 2 := ⟨am_qNd, "FlowFabric$Node", rfl, by decide, Or.inl (am_in1 103 rfl rfl), Or.inl rfl⟩
theorem p_Nd_20 : am_P "FlowFabric$Node" "<init>" 1 2 (.array (.object "FlowFabric$Port")) := ⟨am_qNd, rfl, by decide +kernel, Or.inr ⟨rfl, rfl, rfl⟩⟩
theorem n_Nd_18 : am_NW "FlowFabric$Node" 18 2 := ⟨am_qPt, rfl, am_in1 46 rfl rfl, am_in1 48 rfl rfl, am_in1 4 rfl rfl⟩
theorem i_Nd_24 : am_CI "FlowFabric$Node" 24 y_Pt_new "()V" 0 := ⟨⟨am_in1 51 rfl rfl, am_in1 4 rfl rfl, by decide, by decide, by decide +kernel⟩, rfl, rfl, Or.inl (am_in1 49 rfl rfl), am_in1 50 rfl rfl⟩
theorem n_Nd_25 : am_NW "FlowFabric$Node" 25 12 := ⟨am_qAL, rfl, am_in1 99 rfl rfl, am_in1 54 rfl rfl, am_in1 7 rfl rfl⟩
theorem i_Nd_27 : am_CI "FlowFabric$Node" 27 y_AL_new "()V" 0 := ⟨⟨am_in1 57 rfl rfl, am_in1 7 rfl rfl, by decide, by decide, by decide +kernel⟩, rfl, rfl, Or.inl (am_in1 100 rfl rfl), am_in1 56 rfl rfl⟩
theorem f_Nd_28 : am_F "FlowFabric$Node" 28 1 3 := ⟨am_qNd, "FlowFabric$Node", rfl, by decide, Or.inl (am_in1 105 rfl rfl), Or.inl rfl⟩
theorem p_Nd_28 : am_P "FlowFabric$Node" "<init>" 1 3 (.object "java/util/ArrayList") := ⟨am_qNd, rfl, by decide +kernel, Or.inr ⟨rfl, rfl, rfl⟩⟩
theorem f_Nd_32 : am_F "FlowFabric$Node" 32 1 4 := ⟨am_qNd, "FlowFabric$Node", rfl, by decide, Or.inl (am_in1 107 rfl rfl), Or.inl rfl⟩
theorem p_Nd_32 : am_P "FlowFabric$Node" "<init>" 1 4 (.object "java/util/ArrayList") := ⟨am_qNd, rfl, by decide +kernel, Or.inr ⟨rfl, rfl, rfl⟩⟩
theorem f_Nd_35 : am_F "FlowFabric$Node" 35 1 5 := ⟨am_qNd, "FlowFabric$Node", rfl, by decide, Or.inl (am_in1 109 rfl rfl), Or.inl rfl⟩
theorem p_Nd_35 : am_P "FlowFabric$Node" "<init>" 1 5 (.object "java/util/ArrayList") := ⟨am_qNd, rfl, by decide +kernel, Or.inr ⟨rfl, rfl, rfl⟩⟩
theorem f_Nd_38 : am_F "FlowFabric$Node" 38 1 6 := ⟨am_qNd, "FlowFabric$Node", rfl, by decide, Or.inl (am_in1 112 rfl rfl), Or.inl rfl⟩
theorem p_Nd_38 : am_P "FlowFabric$Node" "<init>" 1 6 (.object "java/util/ArrayList") := ⟨am_qNd, rfl, by decide +kernel, Or.inr ⟨rfl, rfl, rfl⟩⟩
theorem n_Pt_9 : am_NW "FlowFabric$Port" 9 12 := ⟨am_qAL, rfl, am_in1 53 rfl rfl, am_in1 54 rfl rfl, am_in1 7 rfl rfl⟩
theorem i_Pt_11 : am_CI "FlowFabric$Port" 11 y_AL_new "()V" 0 := ⟨⟨am_in1 57 rfl rfl, am_in1 7 rfl rfl, by decide, by decide, by decide +kernel⟩, rfl, rfl, Or.inl (am_in1 55 rfl rfl), am_in1 56 rfl rfl⟩
theorem f_Pt_12 : am_F "FlowFabric$Port" 12 2 0 := ⟨am_qPt, "FlowFabric$Port", rfl, by decide, Or.inl (am_in1 79 rfl rfl), Or.inl rfl⟩
theorem p_Pt_12 : am_P "FlowFabric$Port" "<init>" 2 0 (.object "java/util/ArrayList") := ⟨am_qPt, rfl, by decide +kernel, Or.inr ⟨rfl, rfl, rfl⟩⟩
theorem f_Pt_18 : am_F "FlowFabric$Port" 18 2 1 := ⟨am_qPt, "FlowFabric$Port", rfl, by decide, Or.inl (am_in1 82 rfl rfl), Or.inl rfl⟩
theorem p_Pt_18 (nm : String) : am_P "FlowFabric$Port" nm 2 1 (.object "FlowFabric$Host") := ⟨am_qPt, rfl, by decide +kernel, Or.inl rfl⟩
theorem f_Pt_22 : am_F "FlowFabric$Port" 22 2 2 := ⟨am_qPt, "FlowFabric$Port", rfl, by decide, Or.inl (am_in1 84 rfl rfl), Or.inl rfl⟩
theorem p_Pt_22 (nm : String) : am_P "FlowFabric$Port" nm 2 2 .int := ⟨am_qPt, rfl, by decide +kernel, Or.inl rfl⟩
theorem f_Pt_26 : am_F "FlowFabric$Port" 26 2 3 := ⟨am_qPt, "FlowFabric$Port", rfl, by decide, Or.inl (am_in1 87 rfl rfl), Or.inl rfl⟩
theorem p_Pt_26 (nm : String) : am_P "FlowFabric$Port" nm 2 3 .boolean := ⟨am_qPt, rfl, by decide +kernel, Or.inl rfl⟩
theorem i_AL_1 : am_CI "java/util/ArrayList" 1 y_Al_new "()V" 0 := ⟨⟨am_in1 60 rfl rfl, am_in1 6 rfl rfl, by decide, by decide, by decide +kernel⟩, rfl, rfl, Or.inl (am_in1 58 rfl rfl), am_in1 59 rfl rfl⟩
theorem f_AL_9 : am_F "java/util/ArrayList" 9 12 1 := ⟨am_qAL, "java/util/ArrayList", rfl, by decide, Or.inl (am_in1 67 rfl rfl), Or.inl rfl⟩
theorem p_AL_9 (nm : String) : am_P "java/util/ArrayList" nm 12 1 (.array (.object "java/lang/Object")) := ⟨am_qAL, rfl, by decide +kernel, Or.inl rfl⟩
theorem i_Al_1 : am_CI "java/util/AbstractList" 1 y_Ac_new "()V" 0 := ⟨⟨am_in1 63 rfl rfl, am_in1 5 rfl rfl, by decide, by decide, by decide +kernel⟩, rfl, rfl, Or.inl (am_in1 61 rfl rfl), am_in1 62 rfl rfl⟩
theorem f_Al_7 : am_F "java/util/AbstractList" 7 12 0 := ⟨am_qAL, "java/util/AbstractList", rfl, by decide, Or.inl (am_in1 69 rfl rfl), Or.inl rfl⟩
theorem p_Al_7 (nm : String) : am_P "java/util/AbstractList" nm 12 0 .int := ⟨am_qAL, rfl, by decide +kernel, Or.inl rfl⟩
theorem f_Ct_9 : am_F "FlowFabric$Controller" 9 4 0 := ⟨am_qCt, "FlowFabric$Controller", rfl, by decide, Or.inl (am_in1 142 rfl rfl), Or.inl rfl⟩
theorem p_Ct_9 : am_P "FlowFabric$Controller" "<init>" 4 0 (.array (.object "FlowFabric$Node")) := ⟨am_qCt, rfl, by decide +kernel, Or.inr ⟨rfl, rfl, rfl⟩⟩
theorem f_Ct_15 : am_F "FlowFabric$Controller" 15 4 1 := ⟨am_qCt, "FlowFabric$Controller", rfl, by decide, Or.inl (am_in1 143 rfl rfl), Or.inl rfl⟩
theorem p_Ct_15 : am_P "FlowFabric$Controller" "<init>" 4 1 (.array .int) := ⟨am_qCt, rfl, by decide +kernel, Or.inr ⟨rfl, rfl, rfl⟩⟩
theorem f_Ct_19 : am_F "FlowFabric$Controller" 19 4 2 := ⟨am_qCt, "FlowFabric$Controller", rfl, by decide, Or.inl (am_in1 145 rfl rfl), Or.inl rfl⟩
theorem p_Ct_19 : am_P "FlowFabric$Controller" "<init>" 4 2 (.array .boolean) := ⟨am_qCt, rfl, by decide +kernel, Or.inr ⟨rfl, rfl, rfl⟩⟩
theorem f_Ct_23 : am_F "FlowFabric$Controller" 23 4 3 := ⟨am_qCt, "FlowFabric$Controller", rfl, by decide, Or.inl (am_in1 146 rfl rfl), Or.inl rfl⟩
theorem p_Ct_23 : am_P "FlowFabric$Controller" "<init>" 4 3 (.array .int) := ⟨am_qCt, rfl, by decide +kernel, Or.inr ⟨rfl, rfl, rfl⟩⟩
theorem n_Ct_26 : am_NW "FlowFabric$Controller" 26 12 := ⟨am_qAL, rfl, am_in1 137 rfl rfl, am_in1 54 rfl rfl, am_in1 7 rfl rfl⟩
theorem i_Ct_28 : am_CI "FlowFabric$Controller" 28 y_AL_new "()V" 0 := ⟨⟨am_in1 57 rfl rfl, am_in1 7 rfl rfl, by decide, by decide, by decide +kernel⟩, rfl, rfl, Or.inl (am_in1 138 rfl rfl), am_in1 56 rfl rfl⟩
theorem f_Ct_29 : am_F "FlowFabric$Controller" 29 4 4 := ⟨am_qCt, "FlowFabric$Controller", rfl, by decide, Or.inl (am_in1 148 rfl rfl), Or.inl rfl⟩
theorem p_Ct_29 : am_P "FlowFabric$Controller" "<init>" 4 4 (.object "java/util/ArrayList") := ⟨am_qCt, rfl, by decide +kernel, Or.inr ⟨rfl, rfl, rfl⟩⟩
theorem f_Ct_33 : am_F "FlowFabric$Controller" 33 4 5 := ⟨am_qCt, "FlowFabric$Controller", rfl, by decide, Or.inl (am_in1 149 rfl rfl), Or.inl rfl⟩
theorem p_Ct_33 : am_P "FlowFabric$Controller" "<init>" 4 5 (.array .int) := ⟨am_qCt, rfl, by decide +kernel, Or.inr ⟨rfl, rfl, rfl⟩⟩
theorem f_Ct_36 : am_F "FlowFabric$Controller" 36 4 6 := ⟨am_qCt, "FlowFabric$Controller", rfl, by decide, Or.inl (am_in1 150 rfl rfl), Or.inl rfl⟩
theorem p_Ct_36 (nm : String) : am_P "FlowFabric$Controller" nm 4 6 .int := ⟨am_qCt, rfl, by decide +kernel, Or.inl rfl⟩
theorem s_Ct_40 : am_CS "FlowFabric$Controller" 40 y_As_fill "([II)V" 2 := ⟨⟨am_in1 141 rfl rfl, am_in1 9 rfl rfl, by decide, by decide, by decide +kernel⟩, Or.inl (am_in1 139 rfl rfl), am_in1 140 rfl rfl⟩
theorem v_FF_47 : am_CV "FlowFabric" 47 y_FF_isPort "(II)Z" 2 0 := ⟨⟨am_in1 194 rfl rfl, am_in1 1 rfl rfl, by decide, by decide, by decide +kernel⟩, Or.inl (am_in1 191 rfl rfl), am_in1 193 rfl rfl, am_qFF, rfl, am_inS (List.mem_of_getElem? (i := 0) rfl) rfl⟩
theorem f_FF_51 : am_F "FlowFabric" 51 1 2 := ⟨am_qNd, "FlowFabric$Node", rfl, by decide, Or.inl (am_in1 104 rfl rfl), Or.inl rfl⟩
theorem v_FF_55 : am_CV "FlowFabric" 55 y_Pt_isFree "()Z" 0 2 := ⟨⟨am_in1 202 rfl rfl, am_in1 4 rfl rfl, by decide, by decide, by decide +kernel⟩, Or.inl (am_in1 199 rfl rfl), am_in1 200 rfl rfl, am_qPt, rfl, am_in1 201 rfl rfl⟩
theorem n_FF_26 : am_NW "FlowFabric" 26 3 := ⟨am_qHo, rfl, am_in1 129 rfl rfl, am_in1 203 rfl rfl, am_in1 11 rfl rfl⟩
theorem i_FF_61 : am_CI "FlowFabric" 61 y_Ho_new "(III)V" 3 := ⟨⟨am_in1 206 rfl rfl, am_in1 11 rfl rfl, by decide, by decide, by decide +kernel⟩, rfl, rfl, Or.inl (am_in1 204 rfl rfl), am_in1 205 rfl rfl⟩
theorem f_FF_64 : am_F "FlowFabric" 64 2 1 := ⟨am_qPt, "FlowFabric$Port", rfl, by decide, Or.inl (am_in1 83 rfl rfl), Or.inl rfl⟩
theorem p_FF_64 (nm : String) : am_P "FlowFabric" nm 2 1 (.object "FlowFabric$Host") := ⟨am_qPt, rfl, by decide +kernel, Or.inl rfl⟩
theorem f_FF_68 : am_F "FlowFabric" 68 3 0 := ⟨am_qHo, "FlowFabric$Host", rfl, by decide, Or.inl (am_in1 209 rfl rfl), Or.inl rfl⟩
theorem v_FF_103 : am_CV "FlowFabric" 103 y_FF_isSwitch "(I)Z" 1 0 := ⟨⟨am_in1 198 rfl rfl, am_in1 1 rfl rfl, by decide, by decide, by decide +kernel⟩, Or.inl (am_in1 195 rfl rfl), am_in1 197 rfl rfl, am_qFF, rfl, am_inS (List.mem_of_getElem? (i := 1) rfl) rfl⟩
theorem f_Ho_9 : am_F "FlowFabric$Host" 9 3 0 := ⟨am_qHo, "FlowFabric$Host", rfl, by decide, Or.inl (am_in1 208 rfl rfl), Or.inl rfl⟩
theorem p_Ho_9 : am_P "FlowFabric$Host" "<init>" 3 0 .int := ⟨am_qHo, rfl, by decide +kernel, Or.inr ⟨rfl, rfl, rfl⟩⟩
theorem f_Ho_15 : am_F "FlowFabric$Host" 15 3 1 := ⟨am_qHo, "FlowFabric$Host", rfl, by decide, Or.inl (am_in1 211 rfl rfl), Or.inl rfl⟩
theorem p_Ho_15 : am_P "FlowFabric$Host" "<init>" 3 1 .int := ⟨am_qHo, rfl, by decide +kernel, Or.inr ⟨rfl, rfl, rfl⟩⟩
theorem f_Ho_18 : am_F "FlowFabric$Host" 18 3 2 := ⟨am_qHo, "FlowFabric$Host", rfl, by decide, Or.inl (am_in1 213 rfl rfl), Or.inl rfl⟩
theorem p_Ho_18 : am_P "FlowFabric$Host" "<init>" 3 2 .int := ⟨am_qHo, rfl, by decide +kernel, Or.inr ⟨rfl, rfl, rfl⟩⟩
theorem f_Ho_21 : am_F "FlowFabric$Host" 21 3 3 := ⟨am_qHo, "FlowFabric$Host", rfl, by decide, Or.inl (am_in1 215 rfl rfl), Or.inl rfl⟩
theorem p_Ho_21 (nm : String) : am_P "FlowFabric$Host" nm 3 3 .int := ⟨am_qHo, rfl, by decide +kernel, Or.inl rfl⟩
theorem f_Ho_24 : am_F "FlowFabric$Host" 24 3 4 := ⟨am_qHo, "FlowFabric$Host", rfl, by decide, Or.inl (am_in1 217 rfl rfl), Or.inl rfl⟩
theorem p_Ho_24 (nm : String) : am_P "FlowFabric$Host" nm 3 4 .int := ⟨am_qHo, rfl, by decide +kernel, Or.inl rfl⟩
theorem f_Ho_27 : am_F "FlowFabric$Host" 27 3 5 := ⟨am_qHo, "FlowFabric$Host", rfl, by decide, Or.inl (am_in1 219 rfl rfl), Or.inl rfl⟩
theorem p_Ho_27 (nm : String) : am_P "FlowFabric$Host" nm 3 5 .int := ⟨am_qHo, rfl, by decide +kernel, Or.inl rfl⟩
theorem s_FF_71 : am_CS "FlowFabric" 71 y_FF_endOf "(II)I" 2 := ⟨⟨am_in2 0 rfl rfl, am_in1 1 rfl rfl, by decide, by decide, by decide +kernel⟩, Or.inl (am_in1 238 rfl rfl), am_in1 239 rfl rfl⟩
theorem v_FF_75 : am_CV "FlowFabric" 75 y_Pt_join "(I)V" 1 2 := ⟨⟨am_in2 4 rfl rfl, am_in1 4 rfl rfl, by decide, by decide, by decide +kernel⟩, Or.inl (am_in2 1 rfl rfl), am_in2 2 rfl rfl, am_qPt, rfl, am_in2 3 rfl rfl⟩
theorem v_FF_79 : am_CV "FlowFabric" 79 y_FF_isEnd "(II)Z" 2 0 := ⟨⟨am_in2 12 rfl rfl, am_in1 1 rfl rfl, by decide, by decide, by decide +kernel⟩, Or.inl (am_in2 9 rfl rfl), am_in2 11 rfl rfl, am_qFF, rfl, am_inS (List.mem_of_getElem? (i := 2) rfl) rfl⟩
theorem f_FF_82 : am_F "FlowFabric" 82 2 3 := ⟨am_qPt, "FlowFabric$Port", rfl, by decide, Or.inl (am_in1 89 rfl rfl), Or.inl rfl⟩
theorem f_FF_86 : am_F "FlowFabric" 86 2 2 := ⟨am_qPt, "FlowFabric$Port", rfl, by decide, Or.inl (am_in1 85 rfl rfl), Or.inl rfl⟩
theorem s_FF_89 : am_CS "FlowFabric" 89 y_FF_switchOf "(I)I" 1 := ⟨⟨am_in2 15 rfl rfl, am_in1 1 rfl rfl, by decide, by decide, by decide +kernel⟩, Or.inl (am_in2 13 rfl rfl), am_in2 14 rfl rfl⟩
theorem v_FF_93 : am_CV "FlowFabric" 93 y_Nd_holdsLinks "()Z" 0 1 := ⟨⟨am_in2 19 rfl rfl, am_in1 3 rfl rfl, by decide, by decide, by decide +kernel⟩, Or.inl (am_in2 16 rfl rfl), am_in2 17 rfl rfl, am_qNd, rfl, am_in2 18 rfl rfl⟩
theorem v_FF_96 : am_CV "FlowFabric" 96 y_Nd_turnPort "(IZ)V" 2 1 := ⟨⟨am_in2 27 rfl rfl, am_in1 3 rfl rfl, by decide, by decide, by decide +kernel⟩, Or.inl (am_in2 24 rfl rfl), am_in2 25 rfl rfl, am_qNd, rfl, am_in2 26 rfl rfl⟩
theorem s_FF_100 : am_CS "FlowFabric" 100 y_FF_portOf "(I)I" 1 := ⟨⟨am_in2 124 rfl rfl, am_in1 1 rfl rfl, by decide, by decide, by decide +kernel⟩, Or.inl (am_in2 122 rfl rfl), am_in2 123 rfl rfl⟩
theorem v_Nd_41 : am_CV "FlowFabric$Node" 41 y_AL_size "()I" 0 12 := ⟨⟨am_in2 23 rfl rfl, am_in1 7 rfl rfl, by decide, by decide, by decide +kernel⟩, Or.inl (am_in2 20 rfl rfl), am_in2 21 rfl rfl, am_qAL, rfl, am_in2 22 rfl rfl⟩
theorem f_AL_48 : am_F "java/util/ArrayList" 48 12 2 := ⟨am_qAL, "java/util/ArrayList", rfl, by decide, Or.inl (am_in1 68 rfl rfl), Or.inl rfl⟩
theorem f_Nd_45 : am_F "FlowFabric$Node" 45 2 3 := ⟨am_qPt, "FlowFabric$Port", rfl, by decide, Or.inl (am_in1 88 rfl rfl), Or.inl rfl⟩
theorem p_Nd_45 (nm : String) : am_P "FlowFabric$Node" nm 2 3 .boolean := ⟨am_qPt, rfl, by decide +kernel, Or.inl rfl⟩
theorem f_Nd_49 : am_F "FlowFabric$Node" 49 2 0 := ⟨am_qPt, "FlowFabric$Port", rfl, by decide, Or.inl (am_in1 80 rfl rfl), Or.inl rfl⟩
theorem v_Nd_52 : am_CV "FlowFabric$Node" 52 y_AL_clear "()V" 0 12 := ⟨⟨am_in2 31 rfl rfl, am_in1 7 rfl rfl, by decide, by decide, by decide +kernel⟩, Or.inl (am_in2 28 rfl rfl), am_in2 29 rfl rfl, am_qAL, rfl, am_in2 30 rfl rfl⟩
theorem s_Nd_55 : am_CS "FlowFabric$Node" 55 y_Ms_ofValue "(II)LFlowFabric$Message;" 2 := ⟨⟨am_in2 34 rfl rfl, am_in1 12 rfl rfl, by decide, by decide, by decide +kernel⟩, Or.inl (am_in2 32 rfl rfl), am_in2 33 rfl rfl⟩
theorem v_Nd_61 : am_CV "FlowFabric$Node" 61 y_AL_add "(Ljava/lang/Object;)Z" 1 12 := ⟨⟨am_in2 69 rfl rfl, am_in1 7 rfl rfl, by decide, by decide, by decide +kernel⟩, Or.inl (am_in2 66 rfl rfl), am_in2 67 rfl rfl, am_qAL, rfl, am_in2 68 rfl rfl⟩
theorem f_AL_63 : am_F "java/util/ArrayList" 63 12 0 := ⟨am_qAL, "java/util/ArrayList", rfl, by decide, Or.inl (am_in1 70 rfl rfl), Or.inr (am_in1 71 rfl rfl)⟩
theorem p_AL_63 (nm : String) : am_P "java/util/ArrayList" nm 12 0 .int := ⟨am_qAL, rfl, by decide +kernel, Or.inl rfl⟩
theorem p_AL_48 (nm : String) : am_P "java/util/ArrayList" nm 12 2 .int := ⟨am_qAL, rfl, by decide +kernel, Or.inl rfl⟩
theorem n_Ms_10 : am_NW "FlowFabric$Message" 10 9 := ⟨am_qMs, rfl, am_in2 35 rfl rfl, am_in2 36 rfl rfl, am_in1 12 rfl rfl⟩
theorem i_Ms_27 : am_CI "FlowFabric$Message" 27 y_Ms_new "(IIIII)V" 5 := ⟨⟨am_in2 39 rfl rfl, am_in1 12 rfl rfl, by decide, by decide, by decide +kernel⟩, rfl, rfl, Or.inl (am_in2 37 rfl rfl), am_in2 38 rfl rfl⟩
theorem f_Ms_9 : am_F "FlowFabric$Message" 9 9 0 := ⟨am_qMs, "FlowFabric$Message", rfl, by decide, Or.inl (am_in2 41 rfl rfl), Or.inl rfl⟩
theorem p_Ms_9 : am_P "FlowFabric$Message" "<init>" 9 0 .int := ⟨am_qMs, rfl, by decide +kernel, Or.inr ⟨rfl, rfl, rfl⟩⟩
theorem f_Ms_15 : am_F "FlowFabric$Message" 15 9 1 := ⟨am_qMs, "FlowFabric$Message", rfl, by decide, Or.inl (am_in2 45 rfl rfl), Or.inl rfl⟩
theorem p_Ms_15 : am_P "FlowFabric$Message" "<init>" 9 1 .int := ⟨am_qMs, rfl, by decide +kernel, Or.inr ⟨rfl, rfl, rfl⟩⟩
theorem f_Ms_18 : am_F "FlowFabric$Message" 18 9 2 := ⟨am_qMs, "FlowFabric$Message", rfl, by decide, Or.inl (am_in2 48 rfl rfl), Or.inl rfl⟩
theorem p_Ms_18 : am_P "FlowFabric$Message" "<init>" 9 2 .int := ⟨am_qMs, rfl, by decide +kernel, Or.inr ⟨rfl, rfl, rfl⟩⟩
theorem f_Ms_21 : am_F "FlowFabric$Message" 21 9 3 := ⟨am_qMs, "FlowFabric$Message", rfl, by decide, Or.inl (am_in2 51 rfl rfl), Or.inl rfl⟩
theorem p_Ms_21 : am_P "FlowFabric$Message" "<init>" 9 3 .int := ⟨am_qMs, rfl, by decide +kernel, Or.inr ⟨rfl, rfl, rfl⟩⟩
theorem f_Ms_24 : am_F "FlowFabric$Message" 24 9 4 := ⟨am_qMs, "FlowFabric$Message", rfl, by decide, Or.inl (am_in2 54 rfl rfl), Or.inl rfl⟩
theorem p_Ms_24 : am_P "FlowFabric$Message" "<init>" 9 4 .int := ⟨am_qMs, rfl, by decide +kernel, Or.inr ⟨rfl, rfl, rfl⟩⟩
theorem v_AL_131 : am_CV "java/util/ArrayList" 131 y_AL_add2 "(Ljava/lang/Object;[Ljava/lang/Object;I)V" 3 12 := ⟨⟨am_in2 73 rfl rfl, am_in1 7 rfl rfl, by decide, by decide, by decide +kernel⟩, Or.inl (am_in2 70 rfl rfl), am_in2 72 rfl rfl, am_qAL, rfl, am_inS (List.mem_of_getElem? (i := 3) rfl) rfl⟩
theorem v_AL_129 : am_CV "java/util/ArrayList" 129 y_AL_grow "()[Ljava/lang/Object;" 0 12 := ⟨⟨am_in2 77 rfl rfl, am_in1 7 rfl rfl, by decide, by decide, by decide +kernel⟩, Or.inl (am_in2 74 rfl rfl), am_in2 76 rfl rfl, am_qAL, rfl, am_inS (List.mem_of_getElem? (i := 4) rfl) rfl⟩
theorem v_AL_69 : am_CV "java/util/ArrayList" 69 y_AL_grow2 "(I)[Ljava/lang/Object;" 1 12 := ⟨⟨am_in2 81 rfl rfl, am_in1 7 rfl rfl, by decide, by decide, by decide +kernel⟩, Or.inl (am_in2 78 rfl rfl), am_in2 80 rfl rfl, am_qAL, rfl, am_inS (List.mem_of_getElem? (i := 5) rfl) rfl⟩
theorem s_AL_73 : am_CS "java/util/ArrayList" 73 y_Sp_newLength "(III)I" 3 := ⟨⟨am_in2 84 rfl rfl, am_in1 13 rfl rfl, by decide, by decide, by decide +kernel⟩, Or.inl (am_in2 82 rfl rfl), am_in2 83 rfl rfl⟩
theorem s_AL_66 : am_CS "java/util/ArrayList" 66 y_As_copyOf "([Ljava/lang/Object;I)[Ljava/lang/Object;" 2 := ⟨⟨am_in2 92 rfl rfl, am_in1 9 rfl rfl, by decide, by decide, by decide +kernel⟩, Or.inl (am_in2 90 rfl rfl), am_in2 91 rfl rfl⟩
theorem s_AL_79 : am_CS "java/util/ArrayList" 79 y_Mt_max "(II)I" 2 := ⟨⟨am_in1 38 rfl rfl, am_in1 2 rfl rfl, by decide, by decide, by decide +kernel⟩, Or.inl (am_in2 120 rfl rfl), am_in1 37 rfl rfl⟩
theorem k_AL_7 : Cond.classLink "java/util/ArrayList" 7 "java/lang/Object" ∈ am_wz := am_in2 121 rfl rfl
theorem s_Sp_194 : am_CS "jdk/internal/util/ArraysSupport" 194 y_Mt_max "(II)I" 2 := ⟨⟨am_in1 38 rfl rfl, am_in1 2 rfl rfl, by decide, by decide, by decide +kernel⟩, Or.inl (am_in2 85 rfl rfl), am_in1 37 rfl rfl⟩
theorem s_Sp_201 : am_CS "jdk/internal/util/ArraysSupport" 201 y_Sp_hugeLength "(II)I" 2 := ⟨⟨am_in2 89 rfl rfl, am_in1 13 rfl rfl, by decide, by decide, by decide +kernel⟩, Or.inl (am_in2 87 rfl rfl), am_in2 88 rfl rfl⟩
theorem s_As_300 : am_CS "java/util/Arrays" 300 y_As_copyOf2 "([Ljava/lang/Object;ILjava/lang/Class;)[Ljava/lang/Object;" 3 := ⟨⟨am_in2 112 rfl rfl, am_in1 9 rfl rfl, by decide, by decide, by decide +kernel⟩, Or.inl (am_in2 110 rfl rfl), am_in2 111 rfl rfl⟩
theorem k_As_2 : Cond.classLink "java/util/Arrays" 2 "java/lang/Object" ∈ am_wz := am_in2 115 rfl rfl
theorem k_As_110 : Cond.classLink "java/util/Arrays" 110 "[Ljava/lang/Object;" ∈ am_wz := am_in2 113 rfl rfl
theorem s_As_304 : am_CS "java/util/Arrays" 304 y_Mt_min "(II)I" 2 := ⟨⟨am_in1 35 rfl rfl, am_in1 2 rfl rfl, by decide, by decide, by decide +kernel⟩, Or.inl (am_in2 116 rfl rfl), am_in1 34 rfl rfl⟩
theorem s_FF_107 : am_CS "FlowFabric" 107 y_Gd_isMatch "(I)Z" 1 := ⟨⟨am_in2 131 rfl rfl, am_in1 15 rfl rfl, by decide, by decide, by decide +kernel⟩, Or.inl (am_in2 129 rfl rfl), am_in2 130 rfl rfl⟩
theorem f_FF_112 : am_F "FlowFabric" 112 1 3 := ⟨am_qNd, "FlowFabric$Node", rfl, by decide, Or.inl (am_in1 106 rfl rfl), Or.inl rfl⟩
theorem v_FF_116 : am_CV "FlowFabric" 116 y_AL_size "()I" 0 12 := ⟨⟨am_in2 23 rfl rfl, am_in1 7 rfl rfl, by decide, by decide, by decide +kernel⟩, Or.inl (am_in2 132 rfl rfl), am_in2 21 rfl rfl, am_qAL, rfl, am_in2 22 rfl rfl⟩
theorem n_FF_108 : am_NW "FlowFabric" 108 8 := ⟨am_qGd, rfl, am_in2 133 rfl rfl, am_in2 134 rfl rfl, am_in1 15 rfl rfl⟩
theorem i_FF_122 : am_CI "FlowFabric" 122 y_Gd_new "(III)V" 3 := ⟨⟨am_in2 137 rfl rfl, am_in1 15 rfl rfl, by decide, by decide, by decide +kernel⟩, rfl, rfl, Or.inl (am_in2 135 rfl rfl), am_in2 136 rfl rfl⟩
theorem v_FF_123 : am_CV "FlowFabric" 123 y_AL_add "(Ljava/lang/Object;)Z" 1 12 := ⟨⟨am_in2 69 rfl rfl, am_in1 7 rfl rfl, by decide, by decide, by decide +kernel⟩, Or.inl (am_in2 156 rfl rfl), am_in2 67 rfl rfl, am_qAL, rfl, am_in2 68 rfl rfl⟩
theorem f_Gd_9 : am_F "FlowFabric$Guard" 9 8 0 := ⟨am_qGd, "FlowFabric$Guard", rfl, by decide, Or.inl (am_in2 139 rfl rfl), Or.inl rfl⟩
theorem p_Gd_9 : am_P "FlowFabric$Guard" "<init>" 8 0 .int := ⟨am_qGd, rfl, by decide +kernel, Or.inr ⟨rfl, rfl, rfl⟩⟩
theorem f_Gd_15 : am_F "FlowFabric$Guard" 15 8 1 := ⟨am_qGd, "FlowFabric$Guard", rfl, by decide, Or.inl (am_in2 141 rfl rfl), Or.inl rfl⟩
theorem p_Gd_15 : am_P "FlowFabric$Guard" "<init>" 8 1 .int := ⟨am_qGd, rfl, by decide +kernel, Or.inr ⟨rfl, rfl, rfl⟩⟩
theorem f_Gd_18 : am_F "FlowFabric$Guard" 18 8 2 := ⟨am_qGd, "FlowFabric$Guard", rfl, by decide, Or.inl (am_in2 142 rfl rfl), Or.inl rfl⟩
theorem p_Gd_18 : am_P "FlowFabric$Guard" "<init>" 8 2 .int := ⟨am_qGd, rfl, by decide +kernel, Or.inr ⟨rfl, rfl, rfl⟩⟩
theorem f_Gd_21 : am_F "FlowFabric$Guard" 21 8 3 := ⟨am_qGd, "FlowFabric$Guard", rfl, by decide, Or.inl (am_in2 144 rfl rfl), Or.inl rfl⟩
theorem p_Gd_21 (nm : String) : am_P "FlowFabric$Guard" nm 8 3 .int := ⟨am_qGd, rfl, by decide +kernel, Or.inl rfl⟩
theorem v_FF_127 : am_CV "FlowFabric" 127 y_FF_isGuard "(II)Z" 2 0 := ⟨⟨am_in2 164 rfl rfl, am_in1 1 rfl rfl, by decide, by decide, by decide +kernel⟩, Or.inl (am_in2 161 rfl rfl), am_in2 163 rfl rfl, am_qFF, rfl, am_inS (List.mem_of_getElem? (i := 6) rfl) rfl⟩
theorem v_FF_130 : am_CV "FlowFabric" 130 y_AL_remove "(I)Ljava/lang/Object;" 1 12 := ⟨⟨am_in2 168 rfl rfl, am_in1 7 rfl rfl, by decide, by decide, by decide +kernel⟩, Or.inl (am_in2 165 rfl rfl), am_in2 166 rfl rfl, am_qAL, rfl, am_in2 167 rfl rfl⟩
theorem k_FF_108 : Cond.classLink "FlowFabric" 108 "FlowFabric$Guard" ∈ am_wz := am_in2 133 rfl rfl
theorem f_FF_134 : am_F "FlowFabric" 134 8 3 := ⟨am_qGd, "FlowFabric$Guard", rfl, by decide, Or.inl (am_in2 146 rfl rfl), Or.inl rfl⟩
theorem s_AL_118 : am_CS "java/util/ArrayList" 118 y_Ob_checkIndex "(II)I" 2 := ⟨⟨am_in2 171 rfl rfl, am_in1 16 rfl rfl, by decide, by decide, by decide +kernel⟩, Or.inl (am_in2 169 rfl rfl), am_in2 170 rfl rfl⟩
theorem v_AL_144 : am_CV "java/util/ArrayList" 144 y_AL_fastRemove "([Ljava/lang/Object;I)V" 2 12 := ⟨⟨am_in2 178 rfl rfl, am_in1 7 rfl rfl, by decide, by decide, by decide +kernel⟩, Or.inl (am_in2 175 rfl rfl), am_in2 177 rfl rfl, am_qAL, rfl, am_inS (List.mem_of_getElem? (i := 7) rfl) rfl⟩
theorem s_Ob_105 : am_CS "java/util/Objects" 105 y_Pr_checkIndex "(IILjava/util/function/BiFunction;)I" 3 := ⟨⟨am_in2 174 rfl rfl, am_in1 17 rfl rfl, by decide, by decide, by decide +kernel⟩, Or.inl (am_in2 172 rfl rfl), am_in2 173 rfl rfl⟩
theorem v_FF_137 : am_CV "FlowFabric" 137 y_FF_isHost "(I)Z" 1 0 := ⟨⟨am_in2 187 rfl rfl, am_in1 1 rfl rfl, by decide, by decide, by decide +kernel⟩, Or.inl (am_in2 184 rfl rfl), am_in2 186 rfl rfl, am_qFF, rfl, am_inS (List.mem_of_getElem? (i := 8) rfl) rfl⟩
theorem f_FF_140 : am_F "FlowFabric" 140 3 1 := ⟨am_qHo, "FlowFabric$Host", rfl, by decide, Or.inl (am_in1 212 rfl rfl), Or.inl rfl⟩
theorem n_FF_143 : am_NW "FlowFabric" 143 6 := ⟨am_qDg, rfl, am_in2 188 rfl rfl, am_in2 189 rfl rfl, am_in1 18 rfl rfl⟩
theorem i_FF_145 : am_CI "FlowFabric" 145 y_Dg_new "(III)V" 3 := ⟨⟨am_in2 192 rfl rfl, am_in1 18 rfl rfl, by decide, by decide, by decide +kernel⟩, rfl, rfl, Or.inl (am_in2 190 rfl rfl), am_in2 191 rfl rfl⟩
theorem f_FF_146 : am_F "FlowFabric" 146 3 2 := ⟨am_qHo, "FlowFabric$Host", rfl, by decide, Or.inl (am_in1 214 rfl rfl), Or.inl rfl⟩
theorem v_FF_149 : am_CV "FlowFabric" 149 y_Nd_comeIn "(LFlowFabric$Datagram;II)V" 3 1 := ⟨⟨am_in2 220 rfl rfl, am_in1 3 rfl rfl, by decide, by decide, by decide +kernel⟩, Or.inl (am_in2 217 rfl rfl), am_in2 218 rfl rfl, am_qNd, rfl, am_in2 219 rfl rfl⟩
theorem f_Dg_7 : am_F "FlowFabric$Datagram" 7 6 0 := ⟨am_qDg, "FlowFabric$Datagram", rfl, by decide, Or.inl (am_in2 194 rfl rfl), Or.inl rfl⟩
theorem p_Dg_7 : am_P "FlowFabric$Datagram" "<init>" 6 0 .int := ⟨am_qDg, rfl, by decide +kernel, Or.inr ⟨rfl, rfl, rfl⟩⟩
theorem f_Dg_13 : am_F "FlowFabric$Datagram" 13 6 1 := ⟨am_qDg, "FlowFabric$Datagram", rfl, by decide, Or.inl (am_in2 200 rfl rfl), Or.inl rfl⟩
theorem p_Dg_13 : am_P "FlowFabric$Datagram" "<init>" 6 1 .int := ⟨am_qDg, rfl, by decide +kernel, Or.inr ⟨rfl, rfl, rfl⟩⟩
theorem f_Dg_16 : am_F "FlowFabric$Datagram" 16 6 2 := ⟨am_qDg, "FlowFabric$Datagram", rfl, by decide, Or.inl (am_in2 206 rfl rfl), Or.inl rfl⟩
theorem p_Dg_16 : am_P "FlowFabric$Datagram" "<init>" 6 2 .int := ⟨am_qDg, rfl, by decide +kernel, Or.inr ⟨rfl, rfl, rfl⟩⟩
theorem v_Nd_85 : am_CV "FlowFabric$Node" 85 y_Nd_strongestGuard "(LFlowFabric$Datagram;I)LFlowFabric$Guard;" 2 1 := ⟨⟨am_in2 224 rfl rfl, am_in1 3 rfl rfl, by decide, by decide, by decide +kernel⟩, Or.inl (am_in2 221 rfl rfl), am_in2 223 rfl rfl, am_qNd, rfl, am_inS (List.mem_of_getElem? (i := 9) rfl) rfl⟩
theorem f_Nd_89 : am_F "FlowFabric$Node" 89 8 3 := ⟨am_qGd, "FlowFabric$Guard", rfl, by decide, Or.inl (am_in2 145 rfl rfl), Or.inl rfl⟩
theorem p_Nd_89 (nm : String) : am_P "FlowFabric$Node" nm 8 3 .int := ⟨am_qGd, rfl, by decide +kernel, Or.inl rfl⟩
theorem f_Nd_94 : am_F "FlowFabric$Node" 94 8 2 := ⟨am_qGd, "FlowFabric$Guard", rfl, by decide, Or.inl (am_in2 143 rfl rfl), Or.inl rfl⟩
theorem s_Nd_97 : am_CS "FlowFabric$Node" 97 y_Fr_ofDatagram "(LFlowFabric$Datagram;)LFlowFabric$Frame;" 1 := ⟨⟨am_in3 3 rfl rfl, am_in1 19 rfl rfl, by decide, by decide, by decide +kernel⟩, Or.inl (am_in3 1 rfl rfl), am_in3 2 rfl rfl⟩
theorem v_Nd_101 : am_CV "FlowFabric$Node" 101 y_Pt_sendOut "(LFlowFabric$Frame;)V" 1 2 := ⟨⟨am_in3 23 rfl rfl, am_in1 4 rfl rfl, by decide, by decide, by decide +kernel⟩, Or.inl (am_in3 20 rfl rfl), am_in3 21 rfl rfl, am_qPt, rfl, am_in3 22 rfl rfl⟩
theorem v_Nd_105 : am_CV "FlowFabric$Node" 105 y_Nd_comeToRules "(LFlowFabric$Datagram;II)V" 3 1 := ⟨⟨am_in3 33 rfl rfl, am_in1 3 rfl rfl, by decide, by decide, by decide +kernel⟩, Or.inl (am_in3 30 rfl rfl), am_in3 32 rfl rfl, am_qNd, rfl, am_inS (List.mem_of_getElem? (i := 10) rfl) rfl⟩
theorem s_Nd_108 : am_CS "FlowFabric$Node" 108 y_Ms_ofDatagram "(IILFlowFabric$Datagram;)LFlowFabric$Message;" 3 := ⟨⟨am_in3 41 rfl rfl, am_in1 12 rfl rfl, by decide, by decide, by decide +kernel⟩, Or.inl (am_in3 39 rfl rfl), am_in3 40 rfl rfl⟩
theorem v_Nd_81 : am_CV "FlowFabric$Node" 81 y_Nd_addIfOpen "(LFlowFabric$Message;)V" 1 1 := ⟨⟨am_in3 45 rfl rfl, am_in1 3 rfl rfl, by decide, by decide, by decide +kernel⟩, Or.inl (am_in3 42 rfl rfl), am_in3 44 rfl rfl, am_qNd, rfl, am_inS (List.mem_of_getElem? (i := 11) rfl) rfl⟩
theorem v_Nd_111 : am_CV "FlowFabric$Node" 111 y_AL_get "(I)Ljava/lang/Object;" 1 12 := ⟨⟨am_in2 228 rfl rfl, am_in1 7 rfl rfl, by decide, by decide, by decide +kernel⟩, Or.inl (am_in2 225 rfl rfl), am_in2 226 rfl rfl, am_qAL, rfl, am_in2 227 rfl rfl⟩
theorem k_Nd_90 : Cond.classLink "FlowFabric$Node" 90 "FlowFabric$Guard" ∈ am_wz := am_in2 233 rfl rfl
theorem f_Nd_115 : am_F "FlowFabric$Node" 115 8 0 := ⟨am_qGd, "FlowFabric$Guard", rfl, by decide, Or.inl (am_in2 140 rfl rfl), Or.inl rfl⟩
theorem v_Nd_118 : am_CV "FlowFabric$Node" 118 y_Gd_matches "(LFlowFabric$Datagram;I)Z" 2 8 := ⟨⟨am_in2 237 rfl rfl, am_in1 15 rfl rfl, by decide, by decide, by decide +kernel⟩, Or.inl (am_in2 234 rfl rfl), am_in2 235 rfl rfl, am_qGd, rfl, am_in2 236 rfl rfl⟩
theorem v_AL_123 : am_CV "java/util/ArrayList" 123 y_AL_elementData "(I)Ljava/lang/Object;" 1 12 := ⟨⟨am_in2 232 rfl rfl, am_in1 7 rfl rfl, by decide, by decide, by decide +kernel⟩, Or.inl (am_in2 229 rfl rfl), am_in2 230 rfl rfl, am_qAL, rfl, am_in2 231 rfl rfl⟩
theorem s_Gd_24 : am_CS "FlowFabric$Guard" 24 y_Gd_fits "(II)Z" 2 := ⟨⟨am_in3 0 rfl rfl, am_in1 15 rfl rfl, by decide, by decide, by decide +kernel⟩, Or.inl (am_in2 238 rfl rfl), am_in2 239 rfl rfl⟩
theorem f_Gd_28 : am_F "FlowFabric$Guard" 28 6 0 := ⟨am_qDg, "FlowFabric$Datagram", rfl, by decide, Or.inl (am_in2 197 rfl rfl), Or.inl rfl⟩
theorem f_Gd_33 : am_F "FlowFabric$Guard" 33 6 1 := ⟨am_qDg, "FlowFabric$Datagram", rfl, by decide, Or.inl (am_in2 202 rfl rfl), Or.inl rfl⟩
theorem n_Fr_10 : am_NW "FlowFabric$Frame" 10 7 := ⟨am_qFr, rfl, am_in3 4 rfl rfl, am_in3 5 rfl rfl, am_in1 19 rfl rfl⟩
theorem i_Fr_19 : am_CI "FlowFabric$Frame" 19 y_Fr_new "(LFlowFabric$Datagram;I)V" 2 := ⟨⟨am_in3 8 rfl rfl, am_in1 19 rfl rfl, by decide, by decide, by decide +kernel⟩, rfl, rfl, Or.inl (am_in3 6 rfl rfl), am_in3 7 rfl rfl⟩
theorem f_Fr_9 : am_F "FlowFabric$Frame" 9 7 0 := ⟨am_qFr, "FlowFabric$Frame", rfl, by decide, Or.inl (am_in3 10 rfl rfl), Or.inl rfl⟩
theorem p_Fr_9 : am_P "FlowFabric$Frame" "<init>" 7 0 (.object "FlowFabric$Datagram") := ⟨am_qFr, rfl, by decide +kernel, Or.inr ⟨rfl, rfl, rfl⟩⟩
theorem f_Fr_15 : am_F "FlowFabric$Frame" 15 7 1 := ⟨am_qFr, "FlowFabric$Frame", rfl, by decide, Or.inl (am_in3 13 rfl rfl), Or.inl rfl⟩
theorem p_Fr_15 : am_P "FlowFabric$Frame" "<init>" 7 1 .int := ⟨am_qFr, rfl, by decide +kernel, Or.inr ⟨rfl, rfl, rfl⟩⟩
theorem f_Pt_30 : am_F "FlowFabric$Port" 30 7 0 := ⟨am_qFr, "FlowFabric$Frame", rfl, by decide, Or.inl (am_in3 12 rfl rfl), Or.inl rfl⟩
theorem f_Pt_36 : am_F "FlowFabric$Port" 36 6 1 := ⟨am_qDg, "FlowFabric$Datagram", rfl, by decide, Or.inl (am_in2 204 rfl rfl), Or.inl rfl⟩
theorem f_Pt_41 : am_F "FlowFabric$Port" 41 3 0 := ⟨am_qHo, "FlowFabric$Host", rfl, by decide, Or.inl (am_in1 210 rfl rfl), Or.inl rfl⟩
theorem v_Pt_46 : am_CV "FlowFabric$Port" 46 y_Ho_take "(LFlowFabric$Datagram;)V" 1 3 := ⟨⟨am_in3 27 rfl rfl, am_in1 11 rfl rfl, by decide, by decide, by decide +kernel⟩, Or.inl (am_in3 24 rfl rfl), am_in3 25 rfl rfl, am_qHo, rfl, am_in3 26 rfl rfl⟩
theorem v_Pt_50 : am_CV "FlowFabric$Port" 50 y_AL_size "()I" 0 12 := ⟨⟨am_in2 23 rfl rfl, am_in1 7 rfl rfl, by decide, by decide, by decide +kernel⟩, Or.inl (am_in3 28 rfl rfl), am_in2 21 rfl rfl, am_qAL, rfl, am_in2 22 rfl rfl⟩
theorem v_Pt_54 : am_CV "FlowFabric$Port" 54 y_AL_add "(Ljava/lang/Object;)Z" 1 12 := ⟨⟨am_in2 69 rfl rfl, am_in1 7 rfl rfl, by decide, by decide, by decide +kernel⟩, Or.inl (am_in3 29 rfl rfl), am_in2 67 rfl rfl, am_qAL, rfl, am_in2 68 rfl rfl⟩
theorem f_Ho_30 : am_F "FlowFabric$Host" 30 6 2 := ⟨am_qDg, "FlowFabric$Datagram", rfl, by decide, Or.inl (am_in2 207 rfl rfl), Or.inl rfl⟩
theorem f_Ho_33 : am_F "FlowFabric$Host" 33 6 0 := ⟨am_qDg, "FlowFabric$Datagram", rfl, by decide, Or.inl (am_in2 195 rfl rfl), Or.inl rfl⟩
theorem f_Nd_122 : am_F "FlowFabric$Node" 122 6 0 := ⟨am_qDg, "FlowFabric$Datagram", rfl, by decide, Or.inl (am_in2 199 rfl rfl), Or.inl rfl⟩
theorem f_Nd_127 : am_F "FlowFabric$Node" 127 6 1 := ⟨am_qDg, "FlowFabric$Datagram", rfl, by decide, Or.inl (am_in2 205 rfl rfl), Or.inl rfl⟩
theorem v_Nd_130 : am_CV "FlowFabric$Node" 130 y_Nd_ruleIndex "(II)I" 2 1 := ⟨⟨am_in3 37 rfl rfl, am_in1 3 rfl rfl, by decide, by decide, by decide +kernel⟩, Or.inl (am_in3 34 rfl rfl), am_in3 35 rfl rfl, am_qNd, rfl, am_in3 36 rfl rfl⟩
theorem k_Nd_134 : Cond.classLink "FlowFabric$Node" 134 "FlowFabric$Rule" ∈ am_wz := am_in3 38 rfl rfl
theorem f_Nd_136 : am_F "FlowFabric$Node" 136 10 5 := ⟨am_qRl, "FlowFabric$Rule", rfl, by decide, Or.inl (am_in3 100 rfl rfl), Or.inl rfl⟩
theorem p_Nd_136 (nm : String) : am_P "FlowFabric$Node" nm 10 5 .int := ⟨am_qRl, rfl, by decide +kernel, Or.inl rfl⟩
theorem f_Nd_139 : am_F "FlowFabric$Node" 139 10 4 := ⟨am_qRl, "FlowFabric$Rule", rfl, by decide, Or.inl (am_in3 98 rfl rfl), Or.inl rfl⟩
theorem p_Nd_139 (nm : String) : am_P "FlowFabric$Node" nm 10 4 .int := ⟨am_qRl, rfl, by decide +kernel, Or.inl rfl⟩
theorem f_Nd_142 : am_F "FlowFabric$Node" 142 10 2 := ⟨am_qRl, "FlowFabric$Rule", rfl, by decide, Or.inl (am_in3 94 rfl rfl), Or.inl rfl⟩
theorem f_Nd_145 : am_F "FlowFabric$Node" 145 10 0 := ⟨am_qRl, "FlowFabric$Rule", rfl, by decide, Or.inl (am_in3 90 rfl rfl), Or.inl rfl⟩
theorem f_Nd_146 : am_F "FlowFabric$Node" 146 10 1 := ⟨am_qRl, "FlowFabric$Rule", rfl, by decide, Or.inl (am_in3 92 rfl rfl), Or.inl rfl⟩
theorem f_Ms_30 : am_F "FlowFabric$Message" 30 6 0 := ⟨am_qDg, "FlowFabric$Datagram", rfl, by decide, Or.inl (am_in2 198 rfl rfl), Or.inl rfl⟩
theorem f_Ms_33 : am_F "FlowFabric$Message" 33 6 1 := ⟨am_qDg, "FlowFabric$Datagram", rfl, by decide, Or.inl (am_in2 203 rfl rfl), Or.inl rfl⟩
theorem f_Ms_34 : am_F "FlowFabric$Message" 34 6 2 := ⟨am_qDg, "FlowFabric$Datagram", rfl, by decide, Or.inl (am_in2 208 rfl rfl), Or.inl rfl⟩
theorem f_FF_153 : am_F "FlowFabric" 153 2 0 := ⟨am_qPt, "FlowFabric$Port", rfl, by decide, Or.inl (am_in1 81 rfl rfl), Or.inl rfl⟩
theorem v_FF_156 : am_CV "FlowFabric" 156 y_AL_isEmpty "()Z" 0 12 := ⟨⟨am_in3 53 rfl rfl, am_in1 7 rfl rfl, by decide, by decide, by decide +kernel⟩, Or.inl (am_in3 50 rfl rfl), am_in3 51 rfl rfl, am_qAL, rfl, am_in3 52 rfl rfl⟩
theorem k_FF_159 : Cond.classLink "FlowFabric" 159 "FlowFabric$Frame" ∈ am_wz := am_in3 54 rfl rfl
theorem v_FF_161 : am_CV "FlowFabric" 161 y_Nd_receive "(LFlowFabric$Frame;II)V" 3 1 := ⟨⟨am_in3 58 rfl rfl, am_in1 3 rfl rfl, by decide, by decide, by decide +kernel⟩, Or.inl (am_in3 55 rfl rfl), am_in3 56 rfl rfl, am_qNd, rfl, am_in3 57 rfl rfl⟩
theorem f_Nd_65 : am_F "FlowFabric$Node" 65 7 0 := ⟨am_qFr, "FlowFabric$Frame", rfl, by decide, Or.inl (am_in3 11 rfl rfl), Or.inl rfl⟩
theorem v_Nd_71 : am_CV "FlowFabric$Node" 71 y_Nd_comeIn "(LFlowFabric$Datagram;II)V" 3 1 := ⟨⟨am_in2 220 rfl rfl, am_in1 3 rfl rfl, by decide, by decide, by decide +kernel⟩, Or.inl (am_in3 59 rfl rfl), am_in2 218 rfl rfl, am_qNd, rfl, am_in2 219 rfl rfl⟩
theorem f_Nd_75 : am_F "FlowFabric$Node" 75 7 1 := ⟨am_qFr, "FlowFabric$Frame", rfl, by decide, Or.inl (am_in3 14 rfl rfl), Or.inl rfl⟩
theorem s_Nd_78 : am_CS "FlowFabric$Node" 78 y_Ms_ofProbe "(II)LFlowFabric$Message;" 2 := ⟨⟨am_in3 62 rfl rfl, am_in1 12 rfl rfl, by decide, by decide, by decide +kernel⟩, Or.inl (am_in3 60 rfl rfl), am_in3 61 rfl rfl⟩
theorem f_FF_165 : am_F "FlowFabric" 165 1 5 := ⟨am_qNd, "FlowFabric$Node", rfl, by decide, Or.inl (am_in1 111 rfl rfl), Or.inl rfl⟩
theorem k_FF_168 : Cond.classLink "FlowFabric" 168 "FlowFabric$Message" ∈ am_wz := am_in3 67 rfl rfl
theorem v_FF_170 : am_CV "FlowFabric" 170 y_Nd_carryOut "(LFlowFabric$Message;I)V" 2 1 := ⟨⟨am_in3 71 rfl rfl, am_in1 3 rfl rfl, by decide, by decide, by decide +kernel⟩, Or.inl (am_in3 68 rfl rfl), am_in3 69 rfl rfl, am_qNd, rfl, am_in3 70 rfl rfl⟩
theorem f_FF_174 : am_F "FlowFabric" 174 9 0 := ⟨am_qMs, "FlowFabric$Message", rfl, by decide, Or.inl (am_in2 43 rfl rfl), Or.inl rfl⟩
theorem f_Nd_147 : am_F "FlowFabric$Node" 147 9 0 := ⟨am_qMs, "FlowFabric$Message", rfl, by decide, Or.inl (am_in2 44 rfl rfl), Or.inl rfl⟩
theorem v_Nd_150 : am_CV "FlowFabric$Node" 150 y_Nd_putRule "(LFlowFabric$Message;I)V" 2 1 := ⟨⟨am_in3 75 rfl rfl, am_in1 3 rfl rfl, by decide, by decide, by decide +kernel⟩, Or.inl (am_in3 72 rfl rfl), am_in3 74 rfl rfl, am_qNd, rfl, am_inS (List.mem_of_getElem? (i := 12) rfl) rfl⟩
theorem f_Nd_154 : am_F "FlowFabric$Node" 154 9 2 := ⟨am_qMs, "FlowFabric$Message", rfl, by decide, Or.inl (am_in2 50 rfl rfl), Or.inl rfl⟩
theorem f_Nd_155 : am_F "FlowFabric$Node" 155 9 3 := ⟨am_qMs, "FlowFabric$Message", rfl, by decide, Or.inl (am_in2 53 rfl rfl), Or.inl rfl⟩
theorem v_Nd_156 : am_CV "FlowFabric$Node" 156 y_Nd_cutRule "(II)V" 2 1 := ⟨⟨am_in3 79 rfl rfl, am_in1 3 rfl rfl, by decide, by decide, by decide +kernel⟩, Or.inl (am_in3 76 rfl rfl), am_in3 78 rfl rfl, am_qNd, rfl, am_inS (List.mem_of_getElem? (i := 13) rfl) rfl⟩
theorem f_Nd_160 : am_F "FlowFabric$Node" 160 9 1 := ⟨am_qMs, "FlowFabric$Message", rfl, by decide, Or.inl (am_in2 47 rfl rfl), Or.inl rfl⟩
theorem v_Nd_163 : am_CV "FlowFabric$Node" 163 y_Ms_toDatagram "()LFlowFabric$Datagram;" 0 9 := ⟨⟨am_in3 118 rfl rfl, am_in1 12 rfl rfl, by decide, by decide, by decide +kernel⟩, Or.inl (am_in3 115 rfl rfl), am_in3 116 rfl rfl, am_qMs, rfl, am_in3 117 rfl rfl⟩
theorem v_Nd_167 : am_CV "FlowFabric$Node" 167 y_Nd_sendOutAt "(ILFlowFabric$Datagram;)V" 2 1 := ⟨⟨am_in3 124 rfl rfl, am_in1 3 rfl rfl, by decide, by decide, by decide +kernel⟩, Or.inl (am_in3 121 rfl rfl), am_in3 123 rfl rfl, am_qNd, rfl, am_inS (List.mem_of_getElem? (i := 14) rfl) rfl⟩
theorem v_Nd_171 : am_CV "FlowFabric$Node" 171 y_Nd_sendProbes "()V" 0 1 := ⟨⟨am_in3 128 rfl rfl, am_in1 3 rfl rfl, by decide, by decide, by decide +kernel⟩, Or.inl (am_in3 125 rfl rfl), am_in3 127 rfl rfl, am_qNd, rfl, am_inS (List.mem_of_getElem? (i := 15) rfl) rfl⟩
theorem s_Nd_174 : am_CS "FlowFabric$Node" 174 y_Ms_ofPair "(IIII)LFlowFabric$Message;" 4 := ⟨⟨am_in3 83 rfl rfl, am_in1 12 rfl rfl, by decide, by decide, by decide +kernel⟩, Or.inl (am_in3 81 rfl rfl), am_in3 82 rfl rfl⟩
theorem n_Nd_134 : am_NW "FlowFabric$Node" 134 10 := ⟨am_qRl, rfl, am_in3 38 rfl rfl, am_in3 84 rfl rfl, am_in1 20 rfl rfl⟩
theorem i_Nd_178 : am_CI "FlowFabric$Node" 178 y_Rl_new "(IIII)V" 4 := ⟨⟨am_in3 87 rfl rfl, am_in1 20 rfl rfl, by decide, by decide, by decide +kernel⟩, rfl, rfl, Or.inl (am_in3 85 rfl rfl), am_in3 86 rfl rfl⟩
theorem v_Nd_181 : am_CV "FlowFabric$Node" 181 y_AL_remove "(I)Ljava/lang/Object;" 1 12 := ⟨⟨am_in2 168 rfl rfl, am_in1 7 rfl rfl, by decide, by decide, by decide +kernel⟩, Or.inl (am_in3 80 rfl rfl), am_in2 166 rfl rfl, am_qAL, rfl, am_in2 167 rfl rfl⟩
theorem f_Rl_9 : am_F "FlowFabric$Rule" 9 10 0 := ⟨am_qRl, "FlowFabric$Rule", rfl, by decide, Or.inl (am_in3 89 rfl rfl), Or.inl rfl⟩
theorem p_Rl_9 : am_P "FlowFabric$Rule" "<init>" 10 0 .int := ⟨am_qRl, rfl, by decide +kernel, Or.inr ⟨rfl, rfl, rfl⟩⟩
theorem f_Rl_15 : am_F "FlowFabric$Rule" 15 10 1 := ⟨am_qRl, "FlowFabric$Rule", rfl, by decide, Or.inl (am_in3 91 rfl rfl), Or.inl rfl⟩
theorem p_Rl_15 : am_P "FlowFabric$Rule" "<init>" 10 1 .int := ⟨am_qRl, rfl, by decide +kernel, Or.inr ⟨rfl, rfl, rfl⟩⟩
theorem f_Rl_18 : am_F "FlowFabric$Rule" 18 10 2 := ⟨am_qRl, "FlowFabric$Rule", rfl, by decide, Or.inl (am_in3 93 rfl rfl), Or.inl rfl⟩
theorem p_Rl_18 : am_P "FlowFabric$Rule" "<init>" 10 2 .int := ⟨am_qRl, rfl, by decide +kernel, Or.inr ⟨rfl, rfl, rfl⟩⟩
theorem f_Rl_21 : am_F "FlowFabric$Rule" 21 10 3 := ⟨am_qRl, "FlowFabric$Rule", rfl, by decide, Or.inl (am_in3 96 rfl rfl), Or.inl rfl⟩
theorem p_Rl_21 : am_P "FlowFabric$Rule" "<init>" 10 3 .int := ⟨am_qRl, rfl, by decide +kernel, Or.inr ⟨rfl, rfl, rfl⟩⟩
theorem f_Rl_24 : am_F "FlowFabric$Rule" 24 10 4 := ⟨am_qRl, "FlowFabric$Rule", rfl, by decide, Or.inl (am_in3 97 rfl rfl), Or.inl rfl⟩
theorem p_Rl_24 (nm : String) : am_P "FlowFabric$Rule" nm 10 4 .int := ⟨am_qRl, rfl, by decide +kernel, Or.inl rfl⟩
theorem f_Rl_27 : am_F "FlowFabric$Rule" 27 10 5 := ⟨am_qRl, "FlowFabric$Rule", rfl, by decide, Or.inl (am_in3 99 rfl rfl), Or.inl rfl⟩
theorem p_Rl_27 (nm : String) : am_P "FlowFabric$Rule" nm 10 5 .int := ⟨am_qRl, rfl, by decide +kernel, Or.inl rfl⟩
theorem n_Ms_31 : am_NW "FlowFabric$Message" 31 6 := ⟨am_qDg, rfl, am_in3 119 rfl rfl, am_in2 189 rfl rfl, am_in1 18 rfl rfl⟩
theorem i_Ms_35 : am_CI "FlowFabric$Message" 35 y_Dg_new "(III)V" 3 := ⟨⟨am_in2 192 rfl rfl, am_in1 18 rfl rfl, by decide, by decide, by decide +kernel⟩, rfl, rfl, Or.inl (am_in3 120 rfl rfl), am_in2 191 rfl rfl⟩
theorem f_Nd_184 : am_F "FlowFabric$Node" 184 2 2 := ⟨am_qPt, "FlowFabric$Port", rfl, by decide, Or.inl (am_in1 86 rfl rfl), Or.inl rfl⟩
theorem s_Nd_187 : am_CS "FlowFabric$Node" 187 y_FF_endOf "(II)I" 2 := ⟨⟨am_in2 0 rfl rfl, am_in1 1 rfl rfl, by decide, by decide, by decide +kernel⟩, Or.inr ⟨"FlowFabric", by decide⟩, am_in1 239 rfl rfl⟩
theorem s_Nd_190 : am_CS "FlowFabric$Node" 190 y_Fr_ofProbe "(I)LFlowFabric$Frame;" 1 := ⟨⟨am_in3 132 rfl rfl, am_in1 19 rfl rfl, by decide, by decide, by decide +kernel⟩, Or.inl (am_in3 130 rfl rfl), am_in3 131 rfl rfl⟩
theorem f_FF_177 : am_F "FlowFabric" 177 1 6 := ⟨am_qNd, "FlowFabric$Node", rfl, by decide, Or.inl (am_in1 113 rfl rfl), Or.inl rfl⟩
theorem v_FF_180 : am_CV "FlowFabric" 180 y_Ct_handle "(ILFlowFabric$Message;)V" 2 4 := ⟨⟨am_in3 140 rfl rfl, am_in1 8 rfl rfl, by decide, by decide, by decide +kernel⟩, Or.inl (am_in3 137 rfl rfl), am_in3 138 rfl rfl, am_qCt, rfl, am_in3 139 rfl rfl⟩
theorem f_Ct_46 : am_F "FlowFabric$Controller" 46 9 0 := ⟨am_qMs, "FlowFabric$Message", rfl, by decide, Or.inl (am_in2 42 rfl rfl), Or.inl rfl⟩
theorem f_Ct_51 : am_F "FlowFabric$Controller" 51 9 1 := ⟨am_qMs, "FlowFabric$Message", rfl, by decide, Or.inl (am_in2 46 rfl rfl), Or.inl rfl⟩
theorem v_Ct_54 : am_CV "FlowFabric$Controller" 54 y_Ms_toDatagram "()LFlowFabric$Datagram;" 0 9 := ⟨⟨am_in3 118 rfl rfl, am_in1 12 rfl rfl, by decide, by decide, by decide +kernel⟩, Or.inl (am_in3 141 rfl rfl), am_in3 116 rfl rfl, am_qMs, rfl, am_in3 117 rfl rfl⟩
theorem v_Ct_58 : am_CV "FlowFabric$Controller" 58 y_Ct_handleMiss "(IILFlowFabric$Datagram;)V" 3 4 := ⟨⟨am_in3 145 rfl rfl, am_in1 8 rfl rfl, by decide, by decide, by decide +kernel⟩, Or.inl (am_in3 142 rfl rfl), am_in3 144 rfl rfl, am_qCt, rfl, am_inS (List.mem_of_getElem? (i := 16) rfl) rfl⟩
theorem s_Ct_62 : am_CS "FlowFabric$Controller" 62 y_FF_endOf "(II)I" 2 := ⟨⟨am_in2 0 rfl rfl, am_in1 1 rfl rfl, by decide, by decide, by decide +kernel⟩, Or.inr ⟨"FlowFabric", by decide⟩, am_in1 239 rfl rfl⟩
theorem f_Ct_66 : am_F "FlowFabric$Controller" 66 9 2 := ⟨am_qMs, "FlowFabric$Message", rfl, by decide, Or.inl (am_in2 49 rfl rfl), Or.inl rfl⟩
theorem v_Ct_69 : am_CV "FlowFabric$Controller" 69 y_Ct_handleSeen "(II)V" 2 4 := ⟨⟨am_in3 239 rfl rfl, am_in1 8 rfl rfl, by decide, by decide, by decide +kernel⟩, Or.inl (am_in3 236 rfl rfl), am_in3 238 rfl rfl, am_qCt, rfl, am_inS (List.mem_of_getElem? (i := 24) rfl) rfl⟩
theorem v_Ct_73 : am_CV "FlowFabric$Controller" 73 y_Ct_handleDone "(I)V" 1 4 := ⟨⟨am_in4 11 rfl rfl, am_in1 8 rfl rfl, by decide, by decide, by decide +kernel⟩, Or.inl (am_in4 8 rfl rfl), am_in4 10 rfl rfl, am_qCt, rfl, am_inS (List.mem_of_getElem? (i := 25) rfl) rfl⟩
theorem f_Ct_77 : am_F "FlowFabric$Controller" 77 9 3 := ⟨am_qMs, "FlowFabric$Message", rfl, by decide, Or.inl (am_in2 52 rfl rfl), Or.inl rfl⟩
theorem v_Ct_80 : am_CV "FlowFabric$Controller" 80 y_Ct_handleNoRoom "(II)V" 2 4 := ⟨⟨am_in4 24 rfl rfl, am_in1 8 rfl rfl, by decide, by decide, by decide +kernel⟩, Or.inl (am_in4 21 rfl rfl), am_in4 23 rfl rfl, am_qCt, rfl, am_inS (List.mem_of_getElem? (i := 28) rfl) rfl⟩
theorem v_Ct_83 : am_CV "FlowFabric$Controller" 83 y_Ct_handleGone "(III)V" 3 4 := ⟨⟨am_in4 28 rfl rfl, am_in1 8 rfl rfl, by decide, by decide, by decide +kernel⟩, Or.inl (am_in4 25 rfl rfl), am_in4 27 rfl rfl, am_qCt, rfl, am_inS (List.mem_of_getElem? (i := 29) rfl) rfl⟩
theorem v_Ct_87 : am_CV "FlowFabric$Controller" 87 y_Ct_handleDown "(I)V" 1 4 := ⟨⟨am_in4 37 rfl rfl, am_in1 8 rfl rfl, by decide, by decide, by decide +kernel⟩, Or.inl (am_in4 34 rfl rfl), am_in4 36 rfl rfl, am_qCt, rfl, am_inS (List.mem_of_getElem? (i := 30) rfl) rfl⟩
theorem f_Ct_90 : am_F "FlowFabric$Controller" 90 6 0 := ⟨am_qDg, "FlowFabric$Datagram", rfl, by decide, Or.inl (am_in2 196 rfl rfl), Or.inl rfl⟩
theorem f_Ct_93 : am_F "FlowFabric$Controller" 93 6 1 := ⟨am_qDg, "FlowFabric$Datagram", rfl, by decide, Or.inl (am_in2 201 rfl rfl), Or.inl rfl⟩
theorem v_Ct_94 : am_CV "FlowFabric$Controller" 94 y_Ct_courseOf "(II)LFlowFabric$Course;" 2 4 := ⟨⟨am_in3 150 rfl rfl, am_in1 8 rfl rfl, by decide, by decide, by decide +kernel⟩, Or.inl (am_in3 147 rfl rfl), am_in3 148 rfl rfl, am_qCt, rfl, am_in3 149 rfl rfl⟩
theorem f_Ct_98 : am_F "FlowFabric$Controller" 98 5 4 := ⟨am_qCo, "FlowFabric$Course", rfl, by decide, Or.inl (am_in3 202 rfl rfl), Or.inl rfl⟩
theorem p_Ct_98 (nm : String) : am_P "FlowFabric$Controller" nm 5 4 (.object "FlowFabric$Datagram") := ⟨am_qCo, rfl, by decide +kernel, Or.inl rfl⟩
theorem f_Ct_104 : am_F "FlowFabric$Controller" 104 5 2 := ⟨am_qCo, "FlowFabric$Course", rfl, by decide, Or.inl (am_in3 196 rfl rfl), Or.inl rfl⟩
theorem v_Ct_107 : am_CV "FlowFabric$Controller" 107 y_Ct_clearCourse "(LFlowFabric$Course;)V" 1 4 := ⟨⟨am_in3 157 rfl rfl, am_in1 8 rfl rfl, by decide, by decide, by decide +kernel⟩, Or.inl (am_in3 154 rfl rfl), am_in3 156 rfl rfl, am_qCt, rfl, am_inS (List.mem_of_getElem? (i := 17) rfl) rfl⟩
theorem v_Ct_111 : am_CV "FlowFabric$Controller" 111 y_Ct_orderOuts "(IILFlowFabric$Datagram;)V" 3 4 := ⟨⟨am_in3 165 rfl rfl, am_in1 8 rfl rfl, by decide, by decide, by decide +kernel⟩, Or.inl (am_in3 162 rfl rfl), am_in3 164 rfl rfl, am_qCt, rfl, am_inS (List.mem_of_getElem? (i := 18) rfl) rfl⟩
theorem v_Ct_114 : am_CV "FlowFabric$Controller" 114 y_Ct_makeCourse "(LFlowFabric$Datagram;)V" 1 4 := ⟨⟨am_in3 170 rfl rfl, am_in1 8 rfl rfl, by decide, by decide, by decide +kernel⟩, Or.inl (am_in3 167 rfl rfl), am_in3 169 rfl rfl, am_qCt, rfl, am_inS (List.mem_of_getElem? (i := 19) rfl) rfl⟩
theorem v_Ct_123 : am_CV "FlowFabric$Controller" 123 y_AL_size "()I" 0 12 := ⟨⟨am_in2 23 rfl rfl, am_in1 7 rfl rfl, by decide, by decide, by decide +kernel⟩, Or.inl (am_in3 151 rfl rfl), am_in2 21 rfl rfl, am_qAL, rfl, am_in2 22 rfl rfl⟩
theorem v_Ct_148 : am_CV "FlowFabric$Controller" 148 y_AL_get "(I)Ljava/lang/Object;" 1 12 := ⟨⟨am_in2 228 rfl rfl, am_in1 7 rfl rfl, by decide, by decide, by decide +kernel⟩, Or.inl (am_in3 152 rfl rfl), am_in2 226 rfl rfl, am_qAL, rfl, am_in2 227 rfl rfl⟩
theorem k_Ct_99 : Cond.classLink "FlowFabric$Controller" 99 "FlowFabric$Course" ∈ am_wz := am_in3 153 rfl rfl
theorem f_Ct_179 : am_F "FlowFabric$Controller" 179 5 0 := ⟨am_qCo, "FlowFabric$Course", rfl, by decide, Or.inl (am_in3 192 rfl rfl), Or.inl rfl⟩
theorem f_Ct_180 : am_F "FlowFabric$Controller" 180 5 1 := ⟨am_qCo, "FlowFabric$Course", rfl, by decide, Or.inl (am_in3 194 rfl rfl), Or.inl rfl⟩
theorem p_Ct_104 (nm : String) : am_P "FlowFabric$Controller" nm 5 2 .int := ⟨am_qCo, rfl, by decide +kernel, Or.inl rfl⟩
theorem f_Ct_160 : am_F "FlowFabric$Controller" 160 5 5 := ⟨am_qCo, "FlowFabric$Course", rfl, by decide, Or.inl (am_in3 205 rfl rfl), Or.inl rfl⟩
theorem p_Ct_160 (nm : String) : am_P "FlowFabric$Controller" nm 5 5 .int := ⟨am_qCo, rfl, by decide +kernel, Or.inl rfl⟩
theorem f_Ct_184 : am_F "FlowFabric$Controller" 184 5 3 := ⟨am_qCo, "FlowFabric$Course", rfl, by decide, Or.inl (am_in3 199 rfl rfl), Or.inl rfl⟩
theorem f_Ct_173 : am_F "FlowFabric$Controller" 173 5 6 := ⟨am_qCo, "FlowFabric$Course", rfl, by decide, Or.inl (am_in3 207 rfl rfl), Or.inl rfl⟩
theorem p_Ct_173 (nm : String) : am_P "FlowFabric$Controller" nm 5 6 .int := ⟨am_qCo, rfl, by decide +kernel, Or.inl rfl⟩
theorem s_Ct_197 : am_CS "FlowFabric$Controller" 197 y_Ms_ofPair "(IIII)LFlowFabric$Message;" 4 := ⟨⟨am_in3 83 rfl rfl, am_in1 12 rfl rfl, by decide, by decide, by decide +kernel⟩, Or.inl (am_in3 158 rfl rfl), am_in3 82 rfl rfl⟩
theorem s_Ct_201 : am_CS "FlowFabric$Controller" 201 y_Ms_ofValue "(II)LFlowFabric$Message;" 2 := ⟨⟨am_in2 34 rfl rfl, am_in1 12 rfl rfl, by decide, by decide, by decide +kernel⟩, Or.inl (am_in3 159 rfl rfl), am_in2 33 rfl rfl⟩
theorem s_Ct_187 : am_CS "FlowFabric$Controller" 187 y_FF_switchOf "(I)I" 1 := ⟨⟨am_in2 15 rfl rfl, am_in1 1 rfl rfl, by decide, by decide, by decide +kernel⟩, Or.inr ⟨"FlowFabric", by decide⟩, am_in2 14 rfl rfl⟩
theorem f_Ct_118 : am_F "FlowFabric$Controller" 118 1 5 := ⟨am_qNd, "FlowFabric$Node", rfl, by decide, Or.inl (am_in1 110 rfl rfl), Or.inl rfl⟩
theorem v_Ct_131 : am_CV "FlowFabric$Controller" 131 y_AL_add "(Ljava/lang/Object;)Z" 1 12 := ⟨⟨am_in2 69 rfl rfl, am_in1 7 rfl rfl, by decide, by decide, by decide +kernel⟩, Or.inl (am_in3 161 rfl rfl), am_in2 67 rfl rfl, am_qAL, rfl, am_in2 68 rfl rfl⟩
theorem s_Ct_127 : am_CS "FlowFabric$Controller" 127 y_Ms_ofDatagram "(IILFlowFabric$Datagram;)LFlowFabric$Message;" 3 := ⟨⟨am_in3 41 rfl rfl, am_in1 12 rfl rfl, by decide, by decide, by decide +kernel⟩, Or.inl (am_in3 166 rfl rfl), am_in3 40 rfl rfl⟩
theorem v_Ct_135 : am_CV "FlowFabric$Controller" 135 y_Ct_findWay "(II)[I" 2 4 := ⟨⟨am_in3 174 rfl rfl, am_in1 8 rfl rfl, by decide, by decide, by decide +kernel⟩, Or.inl (am_in3 171 rfl rfl), am_in3 173 rfl rfl, am_qCt, rfl, am_inS (List.mem_of_getElem? (i := 20) rfl) rfl⟩
theorem n_Ct_99 : am_NW "FlowFabric$Controller" 99 5 := ⟨am_qCo, rfl, am_in3 153 rfl rfl, am_in3 185 rfl rfl, am_in1 21 rfl rfl⟩
theorem i_Ct_139 : am_CI "FlowFabric$Controller" 139 y_Co_new "(IILFlowFabric$Datagram;)V" 3 := ⟨⟨am_in3 188 rfl rfl, am_in1 21 rfl rfl, by decide, by decide, by decide +kernel⟩, rfl, rfl, Or.inl (am_in3 186 rfl rfl), am_in3 187 rfl rfl⟩
theorem v_Ct_141 : am_CV "FlowFabric$Controller" 141 y_Co_beginLaying "([I)V" 1 5 := ⟨⟨am_in3 230 rfl rfl, am_in1 21 rfl rfl, by decide, by decide, by decide +kernel⟩, Or.inl (am_in3 227 rfl rfl), am_in3 228 rfl rfl, am_qCo, rfl, am_in3 229 rfl rfl⟩
theorem v_Ct_145 : am_CV "FlowFabric$Controller" 145 y_Ct_leadAhead "(LFlowFabric$Course;)V" 1 4 := ⟨⟨am_in3 234 rfl rfl, am_in1 8 rfl rfl, by decide, by decide, by decide +kernel⟩, Or.inl (am_in3 231 rfl rfl), am_in3 233 rfl rfl, am_qCt, rfl, am_inS (List.mem_of_getElem? (i := 23) rfl) rfl⟩
theorem v_Ct_208 : am_CV "FlowFabric$Controller" 208 y_Ct_countSteps "(I)V" 1 4 := ⟨⟨am_in3 180 rfl rfl, am_in1 8 rfl rfl, by decide, by decide, by decide +kernel⟩, Or.inl (am_in3 177 rfl rfl), am_in3 179 rfl rfl, am_qCt, rfl, am_inS (List.mem_of_getElem? (i := 21) rfl) rfl⟩
theorem v_Ct_211 : am_CV "FlowFabric$Controller" 211 y_Ct_nextEnd "(I)I" 1 4 := ⟨⟨am_in3 184 rfl rfl, am_in1 8 rfl rfl, by decide, by decide, by decide +kernel⟩, Or.inl (am_in3 181 rfl rfl), am_in3 183 rfl rfl, am_qCt, rfl, am_inS (List.mem_of_getElem? (i := 22) rfl) rfl⟩
theorem f_Co_9 : am_F "FlowFabric$Course" 9 5 0 := ⟨am_qCo, "FlowFabric$Course", rfl, by decide, Or.inl (am_in3 191 rfl rfl), Or.inl rfl⟩
theorem p_Co_9 : am_P "FlowFabric$Course" "<init>" 5 0 .int := ⟨am_qCo, rfl, by decide +kernel, Or.inr ⟨rfl, rfl, rfl⟩⟩
theorem f_Co_15 : am_F "FlowFabric$Course" 15 5 1 := ⟨am_qCo, "FlowFabric$Course", rfl, by decide, Or.inl (am_in3 193 rfl rfl), Or.inl rfl⟩
theorem p_Co_15 : am_P "FlowFabric$Course" "<init>" 5 1 .int := ⟨am_qCo, rfl, by decide +kernel, Or.inr ⟨rfl, rfl, rfl⟩⟩
theorem f_Co_18 : am_F "FlowFabric$Course" 18 5 2 := ⟨am_qCo, "FlowFabric$Course", rfl, by decide, Or.inl (am_in3 195 rfl rfl), Or.inl rfl⟩
theorem p_Co_18 (nm : String) : am_P "FlowFabric$Course" nm 5 2 .int := ⟨am_qCo, rfl, by decide +kernel, Or.inl rfl⟩
theorem f_Co_25 : am_F "FlowFabric$Course" 25 5 3 := ⟨am_qCo, "FlowFabric$Course", rfl, by decide, Or.inl (am_in3 198 rfl rfl), Or.inl rfl⟩
theorem p_Co_25 (nm : String) : am_P "FlowFabric$Course" nm 5 3 (.array .int) := ⟨am_qCo, rfl, by decide +kernel, Or.inl rfl⟩
theorem f_Co_28 : am_F "FlowFabric$Course" 28 5 4 := ⟨am_qCo, "FlowFabric$Course", rfl, by decide, Or.inl (am_in3 201 rfl rfl), Or.inl rfl⟩
theorem p_Co_28 (nm : String) : am_P "FlowFabric$Course" nm 5 4 (.object "FlowFabric$Datagram") := ⟨am_qCo, rfl, by decide +kernel, Or.inl rfl⟩
theorem f_Co_32 : am_F "FlowFabric$Course" 32 5 5 := ⟨am_qCo, "FlowFabric$Course", rfl, by decide, Or.inl (am_in3 204 rfl rfl), Or.inl rfl⟩
theorem p_Co_32 (nm : String) : am_P "FlowFabric$Course" nm 5 5 .int := ⟨am_qCo, rfl, by decide +kernel, Or.inl rfl⟩
theorem f_Co_35 : am_F "FlowFabric$Course" 35 5 6 := ⟨am_qCo, "FlowFabric$Course", rfl, by decide, Or.inl (am_in3 206 rfl rfl), Or.inl rfl⟩
theorem p_Co_35 (nm : String) : am_P "FlowFabric$Course" nm 5 6 .int := ⟨am_qCo, rfl, by decide +kernel, Or.inl rfl⟩
theorem f_Co_38 : am_F "FlowFabric$Course" 38 5 7 := ⟨am_qCo, "FlowFabric$Course", rfl, by decide, Or.inl (am_in3 208 rfl rfl), Or.inl rfl⟩
theorem p_Co_38 (nm : String) : am_P "FlowFabric$Course" nm 5 7 .int := ⟨am_qCo, rfl, by decide +kernel, Or.inl rfl⟩
theorem f_Ct_167 : am_F "FlowFabric$Controller" 167 5 7 := ⟨am_qCo, "FlowFabric$Course", rfl, by decide, Or.inl (am_in3 209 rfl rfl), Or.inl rfl⟩
theorem p_Ct_167 (nm : String) : am_P "FlowFabric$Controller" nm 5 7 .int := ⟨am_qCo, rfl, by decide +kernel, Or.inl rfl⟩
theorem s_Ct_205 : am_CS "FlowFabric$Controller" 205 y_FF_portOf "(I)I" 1 := ⟨⟨am_in2 124 rfl rfl, am_in1 1 rfl rfl, by decide, by decide, by decide +kernel⟩, Or.inr ⟨"FlowFabric", by decide⟩, am_in2 123 rfl rfl⟩
theorem v_Ct_152 : am_CV "FlowFabric$Controller" 152 y_Co_endsWith "(I)Z" 1 5 := ⟨⟨am_in4 3 rfl rfl, am_in1 21 rfl rfl, by decide, by decide, by decide +kernel⟩, Or.inl (am_in4 0 rfl rfl), am_in4 1 rfl rfl, am_qCo, rfl, am_in4 2 rfl rfl⟩
theorem v_Ct_156 : am_CV "FlowFabric$Controller" 156 y_Co_isLayingOrLaid "()Z" 0 5 := ⟨⟨am_in4 7 rfl rfl, am_in1 21 rfl rfl, by decide, by decide, by decide +kernel⟩, Or.inl (am_in4 4 rfl rfl), am_in4 5 rfl rfl, am_qCo, rfl, am_in4 6 rfl rfl⟩
theorem v_Ct_163 : am_CV "FlowFabric$Controller" 163 y_Ct_countDone "(LFlowFabric$Course;I)V" 2 4 := ⟨⟨am_in4 15 rfl rfl, am_in1 8 rfl rfl, by decide, by decide, by decide +kernel⟩, Or.inl (am_in4 12 rfl rfl), am_in4 14 rfl rfl, am_qCt, rfl, am_inS (List.mem_of_getElem? (i := 26) rfl) rfl⟩
theorem v_Ct_170 : am_CV "FlowFabric$Controller" 170 y_Ct_finishLaying "(LFlowFabric$Course;)V" 1 4 := ⟨⟨am_in4 20 rfl rfl, am_in1 8 rfl rfl, by decide, by decide, by decide +kernel⟩, Or.inl (am_in4 17 rfl rfl), am_in4 19 rfl rfl, am_qCt, rfl, am_inS (List.mem_of_getElem? (i := 27) rfl) rfl⟩
theorem v_Ct_181 : am_CV "FlowFabric$Controller" 181 y_AL_remove "(I)Ljava/lang/Object;" 1 12 := ⟨⟨am_in2 168 rfl rfl, am_in1 7 rfl rfl, by decide, by decide, by decide +kernel⟩, Or.inl (am_in4 16 rfl rfl), am_in2 166 rfl rfl, am_qAL, rfl, am_in2 167 rfl rfl⟩
theorem v_Ct_191 : am_CV "FlowFabric$Controller" 191 y_Co_passes "(I)Z" 1 5 := ⟨⟨am_in4 32 rfl rfl, am_in1 21 rfl rfl, by decide, by decide, by decide +kernel⟩, Or.inl (am_in4 29 rfl rfl), am_in4 30 rfl rfl, am_qCo, rfl, am_in4 31 rfl rfl⟩
theorem s_Co_41 : am_CS "FlowFabric$Course" 41 y_FF_switchOf "(I)I" 1 := ⟨⟨am_in2 15 rfl rfl, am_in1 1 rfl rfl, by decide, by decide, by decide +kernel⟩, Or.inr ⟨"FlowFabric", by decide⟩, am_in2 14 rfl rfl⟩
theorem v_Ct_194 : am_CV "FlowFabric$Controller" 194 y_Co_leadsOutOf "(I)Z" 1 5 := ⟨⟨am_in4 41 rfl rfl, am_in1 21 rfl rfl, by decide, by decide, by decide +kernel⟩, Or.inl (am_in4 38 rfl rfl), am_in4 39 rfl rfl, am_qCo, rfl, am_in4 40 rfl rfl⟩
theorem s_FF_184 : am_CS "FlowFabric" 184 y_Ms_ofValue "(II)LFlowFabric$Message;" 2 := ⟨⟨am_in2 34 rfl rfl, am_in1 12 rfl rfl, by decide, by decide, by decide +kernel⟩, Or.inl (am_in4 46 rfl rfl), am_in2 33 rfl rfl⟩
theorem v_FF_188 : am_CV "FlowFabric" 188 y_Nd_dropOldRules "(II)I" 2 1 := ⟨⟨am_in4 54 rfl rfl, am_in1 3 rfl rfl, by decide, by decide, by decide +kernel⟩, Or.inl (am_in4 51 rfl rfl), am_in4 52 rfl rfl, am_qNd, rfl, am_in4 53 rfl rfl⟩
theorem v_Nd_193 : am_CV "FlowFabric$Node" 193 y_Rl_isOld "(II)Z" 2 10 := ⟨⟨am_in4 58 rfl rfl, am_in1 20 rfl rfl, by decide, by decide, by decide +kernel⟩, Or.inl (am_in4 55 rfl rfl), am_in4 56 rfl rfl, am_qRl, rfl, am_in4 57 rfl rfl⟩
theorem v_FF_191 : am_CV "FlowFabric" 191 y_Nd_ruleIndex "(II)I" 2 1 := ⟨⟨am_in3 37 rfl rfl, am_in1 3 rfl rfl, by decide, by decide, by decide +kernel⟩, Or.inl (am_in4 67 rfl rfl), am_in3 35 rfl rfl, am_qNd, rfl, am_in3 36 rfl rfl⟩
theorem f_FF_194 : am_F "FlowFabric" 194 1 4 := ⟨am_qNd, "FlowFabric$Node", rfl, by decide, Or.inl (am_in1 108 rfl rfl), Or.inl rfl⟩
theorem v_FF_197 : am_CV "FlowFabric" 197 y_AL_get "(I)Ljava/lang/Object;" 1 12 := ⟨⟨am_in2 228 rfl rfl, am_in1 7 rfl rfl, by decide, by decide, by decide +kernel⟩, Or.inl (am_in4 68 rfl rfl), am_in2 226 rfl rfl, am_qAL, rfl, am_in2 227 rfl rfl⟩
theorem k_FF_200 : Cond.classLink "FlowFabric" 200 "FlowFabric$Rule" ∈ am_wz := am_in4 69 rfl rfl
theorem f_FF_202 : am_F "FlowFabric" 202 10 2 := ⟨am_qRl, "FlowFabric$Rule", rfl, by decide, Or.inl (am_in3 95 rfl rfl), Or.inl rfl⟩
theorem f_FF_203 : am_F "FlowFabric" 203 10 5 := ⟨am_qRl, "FlowFabric$Rule", rfl, by decide, Or.inl (am_in3 101 rfl rfl), Or.inl rfl⟩
theorem f_FF_206 : am_F "FlowFabric" 206 3 3 := ⟨am_qHo, "FlowFabric$Host", rfl, by decide, Or.inl (am_in1 216 rfl rfl), Or.inl rfl⟩
theorem f_FF_209 : am_F "FlowFabric" 209 3 4 := ⟨am_qHo, "FlowFabric$Host", rfl, by decide, Or.inl (am_in1 218 rfl rfl), Or.inl rfl⟩
theorem f_FF_212 : am_F "FlowFabric" 212 3 5 := ⟨am_qHo, "FlowFabric$Host", rfl, by decide, Or.inl (am_in1 220 rfl rfl), Or.inl rfl⟩
theorem f_FF_215 : am_F "FlowFabric" 215 4 1 := ⟨am_qCt, "FlowFabric$Controller", rfl, by decide, Or.inl (am_in1 144 rfl rfl), Or.inl rfl⟩
theorem f_FF_219 : am_F "FlowFabric" 219 4 3 := ⟨am_qCt, "FlowFabric$Controller", rfl, by decide, Or.inl (am_in1 147 rfl rfl), Or.inl rfl⟩
theorem v_FF_222 : am_CV "FlowFabric" 222 y_Ct_courseOf "(II)LFlowFabric$Course;" 2 4 := ⟨⟨am_in3 150 rfl rfl, am_in1 8 rfl rfl, by decide, by decide, by decide +kernel⟩, Or.inl (am_in4 90 rfl rfl), am_in3 148 rfl rfl, am_qCt, rfl, am_in3 149 rfl rfl⟩
theorem f_FF_226 : am_F "FlowFabric" 226 5 3 := ⟨am_qCo, "FlowFabric$Course", rfl, by decide, Or.inl (am_in3 200 rfl rfl), Or.inl rfl⟩
theorem f_FF_231 : am_F "FlowFabric" 231 5 2 := ⟨am_qCo, "FlowFabric$Course", rfl, by decide, Or.inl (am_in3 197 rfl rfl), Or.inl rfl⟩
theorem f_FF_234 : am_F "FlowFabric" 234 5 4 := ⟨am_qCo, "FlowFabric$Course", rfl, by decide, Or.inl (am_in3 203 rfl rfl), Or.inl rfl⟩
theorem f_FF_238 : am_F "FlowFabric" 238 6 2 := ⟨am_qDg, "FlowFabric$Datagram", rfl, by decide, Or.inl (am_in2 209 rfl rfl), Or.inl rfl⟩
theorem f_M_7 : am_F "FlowFabricModel" 7 11 4 := ⟨am_qM, "FlowFabricModel", rfl, by decide, Or.inl (am_in4 107 rfl rfl), Or.inl rfl⟩
theorem p_M_7 : am_P "FlowFabricModel" "<init>" 11 4 (.array .int) := ⟨am_qM, rfl, by decide +kernel, Or.inr ⟨rfl, rfl, rfl⟩⟩
theorem f_M_13 : am_F "FlowFabricModel" 13 11 5 := ⟨am_qM, "FlowFabricModel", rfl, by decide, Or.inl (am_in4 108 rfl rfl), Or.inl rfl⟩
theorem p_M_13 : am_P "FlowFabricModel" "<init>" 11 5 (.array .int) := ⟨am_qM, rfl, by decide +kernel, Or.inr ⟨rfl, rfl, rfl⟩⟩
theorem f_M_16 : am_F "FlowFabricModel" 16 11 6 := ⟨am_qM, "FlowFabricModel", rfl, by decide, Or.inl (am_in4 109 rfl rfl), Or.inl rfl⟩
theorem p_M_16 : am_P "FlowFabricModel" "<init>" 11 6 (.array .boolean) := ⟨am_qM, rfl, by decide +kernel, Or.inr ⟨rfl, rfl, rfl⟩⟩
theorem f_M_20 : am_F "FlowFabricModel" 20 11 8 := ⟨am_qM, "FlowFabricModel", rfl, by decide, Or.inl (am_in4 111 rfl rfl), Or.inl rfl⟩
theorem p_M_20 : am_P "FlowFabricModel" "<init>" 11 8 (.array .int) := ⟨am_qM, rfl, by decide +kernel, Or.inr ⟨rfl, rfl, rfl⟩⟩
theorem f_M_23 : am_F "FlowFabricModel" 23 11 9 := ⟨am_qM, "FlowFabricModel", rfl, by decide, Or.inl (am_in4 112 rfl rfl), Or.inl rfl⟩
theorem p_M_23 : am_P "FlowFabricModel" "<init>" 11 9 (.array .int) := ⟨am_qM, rfl, by decide +kernel, Or.inr ⟨rfl, rfl, rfl⟩⟩
theorem f_M_26 : am_F "FlowFabricModel" 26 11 10 := ⟨am_qM, "FlowFabricModel", rfl, by decide, Or.inl (am_in4 113 rfl rfl), Or.inl rfl⟩
theorem p_M_26 : am_P "FlowFabricModel" "<init>" 11 10 (.array .int) := ⟨am_qM, rfl, by decide +kernel, Or.inr ⟨rfl, rfl, rfl⟩⟩
theorem f_M_29 : am_F "FlowFabricModel" 29 11 11 := ⟨am_qM, "FlowFabricModel", rfl, by decide, Or.inl (am_in4 114 rfl rfl), Or.inl rfl⟩
theorem p_M_29 : am_P "FlowFabricModel" "<init>" 11 11 (.array .int) := ⟨am_qM, rfl, by decide +kernel, Or.inr ⟨rfl, rfl, rfl⟩⟩
theorem f_M_32 : am_F "FlowFabricModel" 32 11 12 := ⟨am_qM, "FlowFabricModel", rfl, by decide, Or.inl (am_in4 115 rfl rfl), Or.inl rfl⟩
theorem p_M_32 : am_P "FlowFabricModel" "<init>" 11 12 (.array .int) := ⟨am_qM, rfl, by decide +kernel, Or.inr ⟨rfl, rfl, rfl⟩⟩
theorem f_M_35 : am_F "FlowFabricModel" 35 11 13 := ⟨am_qM, "FlowFabricModel", rfl, by decide, Or.inl (am_in4 116 rfl rfl), Or.inl rfl⟩
theorem p_M_35 : am_P "FlowFabricModel" "<init>" 11 13 (.array .int) := ⟨am_qM, rfl, by decide +kernel, Or.inr ⟨rfl, rfl, rfl⟩⟩
theorem f_M_38 : am_F "FlowFabricModel" 38 11 14 := ⟨am_qM, "FlowFabricModel", rfl, by decide, Or.inl (am_in4 117 rfl rfl), Or.inl rfl⟩
theorem p_M_38 : am_P "FlowFabricModel" "<init>" 11 14 (.array .int) := ⟨am_qM, rfl, by decide +kernel, Or.inr ⟨rfl, rfl, rfl⟩⟩
theorem f_M_41 : am_F "FlowFabricModel" 41 11 15 := ⟨am_qM, "FlowFabricModel", rfl, by decide, Or.inl (am_in4 118 rfl rfl), Or.inl rfl⟩
theorem p_M_41 : am_P "FlowFabricModel" "<init>" 11 15 (.array .int) := ⟨am_qM, rfl, by decide +kernel, Or.inr ⟨rfl, rfl, rfl⟩⟩
theorem f_M_44 : am_F "FlowFabricModel" 44 11 16 := ⟨am_qM, "FlowFabricModel", rfl, by decide, Or.inl (am_in4 119 rfl rfl), Or.inl rfl⟩
theorem p_M_44 : am_P "FlowFabricModel" "<init>" 11 16 (.array .int) := ⟨am_qM, rfl, by decide +kernel, Or.inr ⟨rfl, rfl, rfl⟩⟩
theorem f_M_47 : am_F "FlowFabricModel" 47 11 17 := ⟨am_qM, "FlowFabricModel", rfl, by decide, Or.inl (am_in4 120 rfl rfl), Or.inl rfl⟩
theorem p_M_47 : am_P "FlowFabricModel" "<init>" 11 17 (.array .int) := ⟨am_qM, rfl, by decide +kernel, Or.inr ⟨rfl, rfl, rfl⟩⟩
theorem f_M_50 : am_F "FlowFabricModel" 50 11 18 := ⟨am_qM, "FlowFabricModel", rfl, by decide, Or.inl (am_in4 121 rfl rfl), Or.inl rfl⟩
theorem p_M_50 : am_P "FlowFabricModel" "<init>" 11 18 (.array .int) := ⟨am_qM, rfl, by decide +kernel, Or.inr ⟨rfl, rfl, rfl⟩⟩
theorem f_M_53 : am_F "FlowFabricModel" 53 11 19 := ⟨am_qM, "FlowFabricModel", rfl, by decide, Or.inl (am_in4 122 rfl rfl), Or.inl rfl⟩
theorem p_M_53 : am_P "FlowFabricModel" "<init>" 11 19 (.array .int) := ⟨am_qM, rfl, by decide +kernel, Or.inr ⟨rfl, rfl, rfl⟩⟩
theorem f_M_56 : am_F "FlowFabricModel" 56 11 20 := ⟨am_qM, "FlowFabricModel", rfl, by decide, Or.inl (am_in4 123 rfl rfl), Or.inl rfl⟩
theorem p_M_56 : am_P "FlowFabricModel" "<init>" 11 20 (.array .int) := ⟨am_qM, rfl, by decide +kernel, Or.inr ⟨rfl, rfl, rfl⟩⟩
theorem f_M_59 : am_F "FlowFabricModel" 59 11 21 := ⟨am_qM, "FlowFabricModel", rfl, by decide, Or.inl (am_in4 124 rfl rfl), Or.inl rfl⟩
theorem p_M_59 : am_P "FlowFabricModel" "<init>" 11 21 (.array .int) := ⟨am_qM, rfl, by decide +kernel, Or.inr ⟨rfl, rfl, rfl⟩⟩
theorem f_M_62 : am_F "FlowFabricModel" 62 11 22 := ⟨am_qM, "FlowFabricModel", rfl, by decide, Or.inl (am_in4 125 rfl rfl), Or.inl rfl⟩
theorem p_M_62 : am_P "FlowFabricModel" "<init>" 11 22 (.array .int) := ⟨am_qM, rfl, by decide +kernel, Or.inr ⟨rfl, rfl, rfl⟩⟩
theorem f_M_65 : am_F "FlowFabricModel" 65 11 23 := ⟨am_qM, "FlowFabricModel", rfl, by decide, Or.inl (am_in4 126 rfl rfl), Or.inl rfl⟩
theorem p_M_65 : am_P "FlowFabricModel" "<init>" 11 23 (.array .int) := ⟨am_qM, rfl, by decide +kernel, Or.inr ⟨rfl, rfl, rfl⟩⟩
theorem f_M_68 : am_F "FlowFabricModel" 68 11 24 := ⟨am_qM, "FlowFabricModel", rfl, by decide, Or.inl (am_in4 127 rfl rfl), Or.inl rfl⟩
theorem p_M_68 : am_P "FlowFabricModel" "<init>" 11 24 (.array .int) := ⟨am_qM, rfl, by decide +kernel, Or.inr ⟨rfl, rfl, rfl⟩⟩
theorem f_M_71 : am_F "FlowFabricModel" 71 11 25 := ⟨am_qM, "FlowFabricModel", rfl, by decide, Or.inl (am_in4 128 rfl rfl), Or.inl rfl⟩
theorem p_M_71 : am_P "FlowFabricModel" "<init>" 11 25 (.array .int) := ⟨am_qM, rfl, by decide +kernel, Or.inr ⟨rfl, rfl, rfl⟩⟩
theorem f_M_74 : am_F "FlowFabricModel" 74 11 26 := ⟨am_qM, "FlowFabricModel", rfl, by decide, Or.inl (am_in4 129 rfl rfl), Or.inl rfl⟩
theorem p_M_74 : am_P "FlowFabricModel" "<init>" 11 26 (.array .int) := ⟨am_qM, rfl, by decide +kernel, Or.inr ⟨rfl, rfl, rfl⟩⟩
theorem f_M_77 : am_F "FlowFabricModel" 77 11 27 := ⟨am_qM, "FlowFabricModel", rfl, by decide, Or.inl (am_in4 130 rfl rfl), Or.inl rfl⟩
theorem p_M_77 : am_P "FlowFabricModel" "<init>" 11 27 (.array .int) := ⟨am_qM, rfl, by decide +kernel, Or.inr ⟨rfl, rfl, rfl⟩⟩
theorem f_M_80 : am_F "FlowFabricModel" 80 11 28 := ⟨am_qM, "FlowFabricModel", rfl, by decide, Or.inl (am_in4 131 rfl rfl), Or.inl rfl⟩
theorem p_M_80 : am_P "FlowFabricModel" "<init>" 11 28 (.array .int) := ⟨am_qM, rfl, by decide +kernel, Or.inr ⟨rfl, rfl, rfl⟩⟩
theorem f_M_83 : am_F "FlowFabricModel" 83 11 29 := ⟨am_qM, "FlowFabricModel", rfl, by decide, Or.inl (am_in4 132 rfl rfl), Or.inl rfl⟩
theorem p_M_83 : am_P "FlowFabricModel" "<init>" 11 29 (.array .boolean) := ⟨am_qM, rfl, by decide +kernel, Or.inr ⟨rfl, rfl, rfl⟩⟩
theorem f_M_86 : am_F "FlowFabricModel" 86 11 30 := ⟨am_qM, "FlowFabricModel", rfl, by decide, Or.inl (am_in4 133 rfl rfl), Or.inl rfl⟩
theorem p_M_86 : am_P "FlowFabricModel" "<init>" 11 30 (.array .int) := ⟨am_qM, rfl, by decide +kernel, Or.inr ⟨rfl, rfl, rfl⟩⟩
theorem f_M_89 : am_F "FlowFabricModel" 89 11 33 := ⟨am_qM, "FlowFabricModel", rfl, by decide, Or.inl (am_in4 136 rfl rfl), Or.inl rfl⟩
theorem p_M_89 : am_P "FlowFabricModel" "<init>" 11 33 (.array .int) := ⟨am_qM, rfl, by decide +kernel, Or.inr ⟨rfl, rfl, rfl⟩⟩
theorem f_M_92 : am_F "FlowFabricModel" 92 11 34 := ⟨am_qM, "FlowFabricModel", rfl, by decide, Or.inl (am_in4 137 rfl rfl), Or.inl rfl⟩
theorem p_M_92 : am_P "FlowFabricModel" "<init>" 11 34 (.array .int) := ⟨am_qM, rfl, by decide +kernel, Or.inr ⟨rfl, rfl, rfl⟩⟩
theorem f_M_95 : am_F "FlowFabricModel" 95 11 35 := ⟨am_qM, "FlowFabricModel", rfl, by decide, Or.inl (am_in4 138 rfl rfl), Or.inl rfl⟩
theorem p_M_95 : am_P "FlowFabricModel" "<init>" 11 35 (.array .int) := ⟨am_qM, rfl, by decide +kernel, Or.inr ⟨rfl, rfl, rfl⟩⟩
theorem f_M_98 : am_F "FlowFabricModel" 98 11 36 := ⟨am_qM, "FlowFabricModel", rfl, by decide, Or.inl (am_in4 139 rfl rfl), Or.inl rfl⟩
theorem p_M_98 : am_P "FlowFabricModel" "<init>" 11 36 (.array .int) := ⟨am_qM, rfl, by decide +kernel, Or.inr ⟨rfl, rfl, rfl⟩⟩
theorem f_M_101 : am_F "FlowFabricModel" 101 11 37 := ⟨am_qM, "FlowFabricModel", rfl, by decide, Or.inl (am_in4 140 rfl rfl), Or.inl rfl⟩
theorem p_M_101 : am_P "FlowFabricModel" "<init>" 11 37 (.array .int) := ⟨am_qM, rfl, by decide +kernel, Or.inr ⟨rfl, rfl, rfl⟩⟩
theorem f_M_104 : am_F "FlowFabricModel" 104 11 38 := ⟨am_qM, "FlowFabricModel", rfl, by decide, Or.inl (am_in4 141 rfl rfl), Or.inl rfl⟩
theorem p_M_104 : am_P "FlowFabricModel" "<init>" 11 38 (.array .int) := ⟨am_qM, rfl, by decide +kernel, Or.inr ⟨rfl, rfl, rfl⟩⟩
theorem f_M_107 : am_F "FlowFabricModel" 107 11 39 := ⟨am_qM, "FlowFabricModel", rfl, by decide, Or.inl (am_in4 142 rfl rfl), Or.inl rfl⟩
theorem p_M_107 : am_P "FlowFabricModel" "<init>" 11 39 (.array .int) := ⟨am_qM, rfl, by decide +kernel, Or.inr ⟨rfl, rfl, rfl⟩⟩
theorem f_M_110 : am_F "FlowFabricModel" 110 11 40 := ⟨am_qM, "FlowFabricModel", rfl, by decide, Or.inl (am_in4 143 rfl rfl), Or.inl rfl⟩
theorem p_M_110 : am_P "FlowFabricModel" "<init>" 11 40 (.array .boolean) := ⟨am_qM, rfl, by decide +kernel, Or.inr ⟨rfl, rfl, rfl⟩⟩
theorem f_M_113 : am_F "FlowFabricModel" 113 11 41 := ⟨am_qM, "FlowFabricModel", rfl, by decide, Or.inl (am_in4 144 rfl rfl), Or.inl rfl⟩
theorem p_M_113 : am_P "FlowFabricModel" "<init>" 11 41 (.array .int) := ⟨am_qM, rfl, by decide +kernel, Or.inr ⟨rfl, rfl, rfl⟩⟩
theorem f_M_116 : am_F "FlowFabricModel" 116 11 43 := ⟨am_qM, "FlowFabricModel", rfl, by decide, Or.inl (am_in4 146 rfl rfl), Or.inl rfl⟩
theorem p_M_116 : am_P "FlowFabricModel" "<init>" 11 43 (.array .int) := ⟨am_qM, rfl, by decide +kernel, Or.inr ⟨rfl, rfl, rfl⟩⟩
theorem s_M_119 : am_CS "FlowFabricModel" 119 y_M_between "(III)I" 3 := ⟨⟨am_in4 102 rfl rfl, am_in1 10 rfl rfl, by decide, by decide, by decide +kernel⟩, Or.inl (am_in4 100 rfl rfl), am_in4 101 rfl rfl⟩
theorem f_M_123 : am_F "FlowFabricModel" 123 11 0 := ⟨am_qM, "FlowFabricModel", rfl, by decide, Or.inl (am_in4 103 rfl rfl), Or.inl rfl⟩
theorem p_M_123 : am_P "FlowFabricModel" "<init>" 11 0 .int := ⟨am_qM, rfl, by decide +kernel, Or.inr ⟨rfl, rfl, rfl⟩⟩
theorem f_M_127 : am_F "FlowFabricModel" 127 11 1 := ⟨am_qM, "FlowFabricModel", rfl, by decide, Or.inl (am_in4 104 rfl rfl), Or.inl rfl⟩
theorem p_M_127 : am_P "FlowFabricModel" "<init>" 11 1 .int := ⟨am_qM, rfl, by decide +kernel, Or.inr ⟨rfl, rfl, rfl⟩⟩
theorem f_M_130 : am_F "FlowFabricModel" 130 11 2 := ⟨am_qM, "FlowFabricModel", rfl, by decide, Or.inl (am_in4 105 rfl rfl), Or.inl rfl⟩
theorem p_M_130 : am_P "FlowFabricModel" "<init>" 11 2 .int := ⟨am_qM, rfl, by decide +kernel, Or.inr ⟨rfl, rfl, rfl⟩⟩
theorem v_M_140 : am_CV "FlowFabricModel" 140 y_M_isPort "(II)Z" 2 11 := ⟨⟨am_in5 3 rfl rfl, am_in1 10 rfl rfl, by decide, by decide, by decide +kernel⟩, Or.inl (am_in5 0 rfl rfl), am_in5 2 rfl rfl, am_qM, rfl, am_inS (List.mem_of_getElem? (i := 31) rfl) rfl⟩
theorem f_M_137 : am_F "FlowFabricModel" 137 11 7 := ⟨am_qM, "FlowFabricModel", rfl, by decide, Or.inl (am_in4 110 rfl rfl), Or.inl rfl⟩
theorem p_M_137 (nm : String) : am_P "FlowFabricModel" nm 11 7 .int := ⟨am_qM, rfl, by decide +kernel, Or.inl rfl⟩
theorem v_M_133 : am_CV "FlowFabricModel" 133 y_M_isSwitch "(I)Z" 1 11 := ⟨⟨am_in5 7 rfl rfl, am_in1 10 rfl rfl, by decide, by decide, by decide +kernel⟩, Or.inl (am_in5 4 rfl rfl), am_in5 6 rfl rfl, am_qM, rfl, am_inS (List.mem_of_getElem? (i := 32) rfl) rfl⟩
theorem v_M_144 : am_CV "FlowFabricModel" 144 y_M_join "(II)V" 2 11 := ⟨⟨am_in5 15 rfl rfl, am_in1 10 rfl rfl, by decide, by decide, by decide +kernel⟩, Or.inl (am_in5 12 rfl rfl), am_in5 14 rfl rfl, am_qM, rfl, am_inS (List.mem_of_getElem? (i := 33) rfl) rfl⟩
theorem v_M_148 : am_CV "FlowFabricModel" 148 y_M_tell "(IIIIII)V" 6 11 := ⟨⟨am_in5 23 rfl rfl, am_in1 10 rfl rfl, by decide, by decide, by decide +kernel⟩, Or.inl (am_in5 20 rfl rfl), am_in5 22 rfl rfl, am_qM, rfl, am_inS (List.mem_of_getElem? (i := 34) rfl) rfl⟩
theorem v_M_155 : am_CV "FlowFabricModel" 155 y_M_add "(IIIIII)V" 6 11 := ⟨⟨am_in5 27 rfl rfl, am_in1 10 rfl rfl, by decide, by decide, by decide +kernel⟩, Or.inl (am_in5 24 rfl rfl), am_in5 26 rfl rfl, am_qM, rfl, am_inS (List.mem_of_getElem? (i := 35) rfl) rfl⟩
theorem v_M_152 : am_CV "FlowFabricModel" 152 y_M_isGuard "(II)Z" 2 11 := ⟨⟨am_in5 39 rfl rfl, am_in1 10 rfl rfl, by decide, by decide, by decide +kernel⟩, Or.inl (am_in5 36 rfl rfl), am_in5 38 rfl rfl, am_qM, rfl, am_inS (List.mem_of_getElem? (i := 36) rfl) rfl⟩
theorem v_M_177 : am_CV "FlowFabricModel" 177 y_M_isHost "(I)Z" 1 11 := ⟨⟨am_in5 51 rfl rfl, am_in1 10 rfl rfl, by decide, by decide, by decide +kernel⟩, Or.inl (am_in5 48 rfl rfl), am_in5 50 rfl rfl, am_qM, rfl, am_inS (List.mem_of_getElem? (i := 37) rfl) rfl⟩
theorem v_M_180 : am_CV "FlowFabricModel" 180 y_M_comesIn "(IIIII)V" 5 11 := ⟨⟨am_in5 55 rfl rfl, am_in1 10 rfl rfl, by decide, by decide, by decide +kernel⟩, Or.inl (am_in5 52 rfl rfl), am_in5 54 rfl rfl, am_qM, rfl, am_inS (List.mem_of_getElem? (i := 38) rfl) rfl⟩
theorem s_M_158 : am_CS "FlowFabricModel" 158 y_M_matches "(IIII)Z" 4 := ⟨⟨am_in5 58 rfl rfl, am_in1 10 rfl rfl, by decide, by decide, by decide +kernel⟩, Or.inl (am_in5 56 rfl rfl), am_in5 57 rfl rfl⟩
theorem v_M_162 : am_CV "FlowFabricModel" 162 y_M_out "(IIII)V" 4 11 := ⟨⟨am_in5 62 rfl rfl, am_in1 10 rfl rfl, by decide, by decide, by decide +kernel⟩, Or.inl (am_in5 59 rfl rfl), am_in5 61 rfl rfl, am_qM, rfl, am_inS (List.mem_of_getElem? (i := 39) rfl) rfl⟩
theorem v_M_166 : am_CV "FlowFabricModel" 166 y_M_toRules "(IIIII)V" 5 11 := ⟨⟨am_in5 66 rfl rfl, am_in1 10 rfl rfl, by decide, by decide, by decide +kernel⟩, Or.inl (am_in5 63 rfl rfl), am_in5 65 rfl rfl, am_qM, rfl, am_inS (List.mem_of_getElem? (i := 40) rfl) rfl⟩
theorem v_M_170 : am_CV "FlowFabricModel" 170 y_M_ruleAt "(II)I" 2 11 := ⟨⟨am_in5 70 rfl rfl, am_in1 10 rfl rfl, by decide, by decide, by decide +kernel⟩, Or.inl (am_in5 67 rfl rfl), am_in5 69 rfl rfl, am_qM, rfl, am_inS (List.mem_of_getElem? (i := 41) rfl) rfl⟩
theorem f_M_174 : am_F "FlowFabricModel" 174 11 3 := ⟨am_qM, "FlowFabricModel", rfl, by decide, Or.inl (am_in4 106 rfl rfl), Or.inl rfl⟩
theorem v_M_186 : am_CV "FlowFabricModel" 186 y_M_take "(I)V" 1 11 := ⟨⟨am_in5 82 rfl rfl, am_in1 10 rfl rfl, by decide, by decide, by decide +kernel⟩, Or.inl (am_in5 79 rfl rfl), am_in5 81 rfl rfl, am_qM, rfl, am_inS (List.mem_of_getElem? (i := 42) rfl) rfl⟩
theorem v_M_190 : am_CV "FlowFabricModel" 190 y_M_put "(III)V" 3 11 := ⟨⟨am_in5 86 rfl rfl, am_in1 10 rfl rfl, by decide, by decide, by decide +kernel⟩, Or.inl (am_in5 83 rfl rfl), am_in5 85 rfl rfl, am_qM, rfl, am_inS (List.mem_of_getElem? (i := 43) rfl) rfl⟩
theorem v_M_183 : am_CV "FlowFabricModel" 183 y_M_removeRule "(II)V" 2 11 := ⟨⟨am_in5 90 rfl rfl, am_in1 10 rfl rfl, by decide, by decide, by decide +kernel⟩, Or.inl (am_in5 87 rfl rfl), am_in5 89 rfl rfl, am_qM, rfl, am_inS (List.mem_of_getElem? (i := 44) rfl) rfl⟩
theorem v_M_194 : am_CV "FlowFabricModel" 194 y_M_order "(IIIIII)V" 6 11 := ⟨⟨am_in5 98 rfl rfl, am_in1 10 rfl rfl, by decide, by decide, by decide +kernel⟩, Or.inl (am_in5 95 rfl rfl), am_in5 97 rfl rfl, am_qM, rfl, am_inS (List.mem_of_getElem? (i := 45) rfl) rfl⟩
theorem p_M_174 (nm : String) : am_P "FlowFabricModel" nm 11 3 .int := ⟨am_qM, rfl, by decide +kernel, Or.inl rfl⟩
theorem v_M_215 : am_CV "FlowFabricModel" 215 y_M_missed "(IIIII)V" 5 11 := ⟨⟨am_in5 110 rfl rfl, am_in1 10 rfl rfl, by decide, by decide, by decide +kernel⟩, Or.inl (am_in5 107 rfl rfl), am_in5 109 rfl rfl, am_qM, rfl, am_inS (List.mem_of_getElem? (i := 46) rfl) rfl⟩
theorem v_M_218 : am_CV "FlowFabricModel" 218 y_M_seen "(II)V" 2 11 := ⟨⟨am_in5 150 rfl rfl, am_in1 10 rfl rfl, by decide, by decide, by decide +kernel⟩, Or.inl (am_in5 147 rfl rfl), am_in5 149 rfl rfl, am_qM, rfl, am_inS (List.mem_of_getElem? (i := 56) rfl) rfl⟩
theorem v_M_221 : am_CV "FlowFabricModel" 221 y_M_done "(I)V" 1 11 := ⟨⟨am_in5 158 rfl rfl, am_in1 10 rfl rfl, by decide, by decide, by decide +kernel⟩, Or.inl (am_in5 155 rfl rfl), am_in5 157 rfl rfl, am_qM, rfl, am_inS (List.mem_of_getElem? (i := 58) rfl) rfl⟩
theorem v_M_224 : am_CV "FlowFabricModel" 224 y_M_down "(I)V" 1 11 := ⟨⟨am_in5 174 rfl rfl, am_in1 10 rfl rfl, by decide, by decide, by decide +kernel⟩, Or.inl (am_in5 171 rfl rfl), am_in5 173 rfl rfl, am_qM, rfl, am_inS (List.mem_of_getElem? (i := 62) rfl) rfl⟩
theorem v_M_227 : am_CV "FlowFabricModel" 227 y_M_courseOf "(I)I" 1 11 := ⟨⟨am_in5 114 rfl rfl, am_in1 10 rfl rfl, by decide, by decide, by decide +kernel⟩, Or.inl (am_in5 111 rfl rfl), am_in5 113 rfl rfl, am_qM, rfl, am_inS (List.mem_of_getElem? (i := 47) rfl) rfl⟩
theorem v_M_231 : am_CV "FlowFabricModel" 231 y_M_clear "(I)V" 1 11 := ⟨⟨am_in5 122 rfl rfl, am_in1 10 rfl rfl, by decide, by decide, by decide +kernel⟩, Or.inl (am_in5 119 rfl rfl), am_in5 121 rfl rfl, am_qM, rfl, am_inS (List.mem_of_getElem? (i := 49) rfl) rfl⟩
theorem v_M_234 : am_CV "FlowFabricModel" 234 y_M_passes "(II)Z" 2 11 := ⟨⟨am_in5 178 rfl rfl, am_in1 10 rfl rfl, by decide, by decide, by decide +kernel⟩, Or.inl (am_in5 175 rfl rfl), am_in5 177 rfl rfl, am_qM, rfl, am_inS (List.mem_of_getElem? (i := 63) rfl) rfl⟩
theorem v_M_237 : am_CV "FlowFabricModel" 237 y_M_keep "(II)V" 2 11 := ⟨⟨am_in5 118 rfl rfl, am_in1 10 rfl rfl, by decide, by decide, by decide +kernel⟩, Or.inl (am_in5 115 rfl rfl), am_in5 117 rfl rfl, am_qM, rfl, am_inS (List.mem_of_getElem? (i := 48) rfl) rfl⟩
theorem v_M_240 : am_CV "FlowFabricModel" 240 y_M_flood "(IIIII)V" 5 11 := ⟨⟨am_in5 126 rfl rfl, am_in1 10 rfl rfl, by decide, by decide, by decide +kernel⟩, Or.inl (am_in5 123 rfl rfl), am_in5 125 rfl rfl, am_qM, rfl, am_inS (List.mem_of_getElem? (i := 50) rfl) rfl⟩
theorem f_M_206 : am_F "FlowFabricModel" 206 11 32 := ⟨am_qM, "FlowFabricModel", rfl, by decide, Or.inl (am_in4 135 rfl rfl), Or.inl rfl⟩
theorem v_M_243 : am_CV "FlowFabricModel" 243 y_M_search "(I)Z" 1 11 := ⟨⟨am_in5 130 rfl rfl, am_in1 10 rfl rfl, by decide, by decide, by decide +kernel⟩, Or.inl (am_in5 127 rfl rfl), am_in5 129 rfl rfl, am_qM, rfl, am_inS (List.mem_of_getElem? (i := 51) rfl) rfl⟩
theorem p_M_206 (nm : String) : am_P "FlowFabricModel" nm 11 32 .int := ⟨am_qM, rfl, by decide +kernel, Or.inl rfl⟩
theorem v_M_246 : am_CV "FlowFabricModel" 246 y_M_lay "(I)V" 1 11 := ⟨⟨am_in5 142 rfl rfl, am_in1 10 rfl rfl, by decide, by decide, by decide +kernel⟩, Or.inl (am_in5 139 rfl rfl), am_in5 141 rfl rfl, am_qM, rfl, am_inS (List.mem_of_getElem? (i := 54) rfl) rfl⟩
theorem f_M_209 : am_F "FlowFabricModel" 209 11 31 := ⟨am_qM, "FlowFabricModel", rfl, by decide, Or.inl (am_in4 134 rfl rfl), Or.inl rfl⟩
theorem p_M_209 (nm : String) : am_P "FlowFabricModel" nm 11 31 .int := ⟨am_qM, rfl, by decide +kernel, Or.inl rfl⟩
theorem f_M_200 : am_F "FlowFabricModel" 200 11 42 := ⟨am_qM, "FlowFabricModel", rfl, by decide, Or.inl (am_in4 145 rfl rfl), Or.inl rfl⟩
theorem p_M_200 (nm : String) : am_P "FlowFabricModel" nm 11 42 .int := ⟨am_qM, rfl, by decide +kernel, Or.inl rfl⟩
theorem v_M_203 : am_CV "FlowFabricModel" 203 y_M_isWay "(IIII)Z" 4 11 := ⟨⟨am_in5 134 rfl rfl, am_in1 10 rfl rfl, by decide, by decide, by decide +kernel⟩, Or.inl (am_in5 131 rfl rfl), am_in5 133 rfl rfl, am_qM, rfl, am_inS (List.mem_of_getElem? (i := 52) rfl) rfl⟩
theorem v_M_197 : am_CV "FlowFabricModel" 197 y_M_leads "(II)I" 2 11 := ⟨⟨am_in5 138 rfl rfl, am_in1 10 rfl rfl, by decide, by decide, by decide +kernel⟩, Or.inl (am_in5 135 rfl rfl), am_in5 137 rfl rfl, am_qM, rfl, am_inS (List.mem_of_getElem? (i := 53) rfl) rfl⟩
theorem v_M_212 : am_CV "FlowFabricModel" 212 y_M_lead "(II)V" 2 11 := ⟨⟨am_in5 146 rfl rfl, am_in1 10 rfl rfl, by decide, by decide, by decide +kernel⟩, Or.inl (am_in5 143 rfl rfl), am_in5 145 rfl rfl, am_qM, rfl, am_inS (List.mem_of_getElem? (i := 55) rfl) rfl⟩
theorem v_M_249 : am_CV "FlowFabricModel" 249 y_M_portOf "(II)I" 2 11 := ⟨⟨am_in5 154 rfl rfl, am_in1 10 rfl rfl, by decide, by decide, by decide +kernel⟩, Or.inl (am_in5 151 rfl rfl), am_in5 153 rfl rfl, am_qM, rfl, am_inS (List.mem_of_getElem? (i := 57) rfl) rfl⟩
theorem v_M_252 : am_CV "FlowFabricModel" 252 y_M_cleared "(I)V" 1 11 := ⟨⟨am_in5 162 rfl rfl, am_in1 10 rfl rfl, by decide, by decide, by decide +kernel⟩, Or.inl (am_in5 159 rfl rfl), am_in5 161 rfl rfl, am_qM, rfl, am_inS (List.mem_of_getElem? (i := 59) rfl) rfl⟩
theorem v_M_255 : am_CV "FlowFabricModel" 255 y_M_led "(I)V" 1 11 := ⟨⟨am_in5 170 rfl rfl, am_in1 10 rfl rfl, by decide, by decide, by decide +kernel⟩, Or.inl (am_in5 167 rfl rfl), am_in5 169 rfl rfl, am_qM, rfl, am_inS (List.mem_of_getElem? (i := 61) rfl) rfl⟩
theorem v_M_258 : am_CV "FlowFabricModel" 258 y_M_drop "(I)V" 1 11 := ⟨⟨am_in5 166 rfl rfl, am_in1 10 rfl rfl, by decide, by decide, by decide +kernel⟩, Or.inl (am_in5 163 rfl rfl), am_in5 165 rfl rfl, am_qM, rfl, am_inS (List.mem_of_getElem? (i := 60) rfl) rfl⟩
