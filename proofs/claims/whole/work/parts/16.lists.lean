/-! lists of the JDK that change -/
theorem o_hi : Cond.instanceMethod Lib.objectInit ∈ am_wz := am_in1 28 rfl rfl
theorem o_hc : Cond.code Lib.objectInit ⟨#[0xb1]⟩ 1 none ∈ am_wz := am_in1 29 rfl rfl
theorem o_FF_1 : Cond.methodLink "FlowFabric" 1 Lib.objectInit ∈ am_wz := am_in1 27 rfl rfl
theorem o_Nd_3 : Cond.methodLink "FlowFabric$Node" 3 Lib.objectInit ∈ am_wz := am_in1 45 rfl rfl
theorem o_Pt_3 : Cond.methodLink "FlowFabric$Port" 3 Lib.objectInit ∈ am_wz := am_in1 52 rfl rfl
theorem o_Ac_1 : Cond.methodLink "java/util/AbstractCollection" 1 Lib.objectInit ∈ am_wz := am_in1 64 rfl rfl
theorem o_Ct_3 : Cond.methodLink "FlowFabric$Controller" 3 Lib.objectInit ∈ am_wz := am_in1 136 rfl rfl
theorem o_Ho_3 : Cond.methodLink "FlowFabric$Host" 3 Lib.objectInit ∈ am_wz := am_in1 207 rfl rfl
theorem o_Ms_3 : Cond.methodLink "FlowFabric$Message" 3 Lib.objectInit ∈ am_wz := am_in2 40 rfl rfl
theorem o_Gd_3 : Cond.methodLink "FlowFabric$Guard" 3 Lib.objectInit ∈ am_wz := am_in2 138 rfl rfl
theorem o_Dg_1 : Cond.methodLink "FlowFabric$Datagram" 1 Lib.objectInit ∈ am_wz := am_in2 193 rfl rfl
theorem o_Fr_3 : Cond.methodLink "FlowFabric$Frame" 3 Lib.objectInit ∈ am_wz := am_in3 9 rfl rfl
theorem o_Rl_3 : Cond.methodLink "FlowFabric$Rule" 3 Lib.objectInit ∈ am_wz := am_in3 88 rfl rfl
theorem o_Co_3 : Cond.methodLink "FlowFabric$Course" 3 Lib.objectInit ∈ am_wz := am_in3 189 rfl rfl
theorem o_M_1 : Cond.methodLink "FlowFabricModel" 1 Lib.objectInit ∈ am_wz := am_in4 99 rfl rfl
theorem o_cn : Cond.native arraycopyName ∈ am_wz := am_in2 119 rfl rfl
theorem o_cs : Cond.static arraycopyName ∈ am_wz := am_in2 118 rfl rfl
theorem o_ci : Cond.initialized "java/lang/System" ∈ am_wz := am_in1 14 rfl rfl
theorem o_c_As : Cond.methodLink "java/util/Arrays" 150 arraycopyName ∈ am_wz := am_in2 117 rfl rfl
theorem o_c_AL : Cond.methodLink "java/util/ArrayList" 112 arraycopyName ∈ am_wz := am_in2 179 rfl rfl
theorem o_gl : Cond.methodLink "java/util/Arrays" 86 ⟨"java/lang/Object", "getClass", "()Ljava/lang/Class;"⟩ ∈ am_wz := am_in2 93 rfl rfl
theorem o_gs : Cond.selects "[Ljava/lang/Object;" ⟨"java/lang/Object", "getClass", "()Ljava/lang/Class;"⟩ ⟨"java/lang/Object", "getClass", "()Ljava/lang/Class;"⟩ ∈ am_wz := am_in5 209 rfl rfl
theorem o_gi : Cond.instanceMethod ⟨"java/lang/Object", "getClass", "()Ljava/lang/Class;"⟩ ∈ am_wz := am_in2 94 rfl rfl
theorem o_gn : Cond.native ⟨"java/lang/Object", "getClass", "()Ljava/lang/Class;"⟩ ∈ am_wz := am_in2 109 rfl rfl
theorem o_lc : Cond.classLink "java/util/Arrays" 110 "[Ljava/lang/Object;" ∈ am_wz := am_in2 113 rfl rfl
theorem o_ld : Cond.constant "jdk/internal/util/ArraysSupport" 200 (2147483639) ∈ am_wz := am_in2 86 rfl rfl
theorem o_st : Cond.fieldLink "java/util/ArrayList" 39 "java/util/ArrayList" "DEFAULTCAPACITY_EMPTY_ELEMENTDATA" "[Ljava/lang/Object;" ∈ am_wz := am_in1 65 rfl rfl
theorem am_up_id {S : am_S} {a t : Nat} {x : am_K} (h : S.1 a = some (t, x)) : am_up S a t x = S := by
  unfold am_up
  refine Prod.ext ?_ rfl
  funext q
  by_cases e : q = a
  · subst e; simp [h]
  · simp [e]
/-- the elements of a list: objects, of other tags than the list's -/
def al_els (S : am_S) (t : Nat) (as : List Nat) : Prop := ∀ a ∈ as, ∃ (tb ci : Nat) (q : vw_C) (fs : List Value), S.1 a = some (tb, .inr (ci, fs)) ∧ am_cl[ci]? = some q ∧ (q.1, "java/lang/Object") ∈ am_nC ∧ tb ≠ t ∧ tb ≠ t + 1
theorem al_els.obj {S : am_S} {t : Nat} {as : List Nat} (h : al_els S t as) (vs : List Value) {i : Nat} (hi : i < as.length) : am_obj S ((as.map Value.ref ++ vs).getD i .null) := by
  have e : (as.map Value.ref ++ vs).getD i .null = .ref as[i] := by simp [List.getD_eq_getElem?_getD, List.getElem?_append_left, hi]
  obtain ⟨tb, ci, q, fs, h1, h2, h3, -⟩ := h _ (List.getElem_mem hi)
  exact Or.inr ⟨_, tb, ci, q, fs, e, h1, h2, h3⟩
theorem al_els.fr {S S' : am_S} {t : Nat} {as : List Nat} (h : al_els S t as) (hf : am_fr (am_lX t) S S') : al_els S' t as := by
  intro a ha
  obtain ⟨tb, ci, q, fs, h1, h2, h3, h4, h5⟩ := h a ha
  exact ⟨tb, ci, q, fs, hf.keep h1 (fun z => by rcases z with z | z <;> omega), h2, h3, h4, h5⟩
theorem al_cpy {xs : List Value} {m : Nat} (h : xs.length ≤ m) : am_cpy xs (List.replicate m .null) 0 0 xs.length = xs ++ List.replicate (m - xs.length) .null := by
  apply List.ext_getElem
  · simp [am_cpy]; omega
  · intro i h1 h2
    simp [am_cpy] at h1
    simp only [am_cpy, List.getElem_map, List.getElem_range, List.getElem_append]
    by_cases hi : i < xs.length
    · simp [hi]
    · simp [hi, h1]
section JDL
variable {g : am_G} {S : am_S} {e t w : Nat} {as : List Nat}

theorem jd_ac  : am_M g y_Ac_new "()V" 1 14 [.ref w] S (fun v S' => v = none ∧ S' = S) := by
  refine am_Mof (L0 := [some (.ref w)]) pl_Ac_new (am_k1 rfl am_k0) (Nat.le_of_ble_eq_true rfl) rfl ?_
  refine am_aload_n d_Ac_new_0 rfl (by first | exact am_rvR _ | exact am_rvN | assumption) ?_
  refine am_objInit d_Ac_new_1 o_Ac_1 o_hi o_hc (by decide) (Nat.le_of_ble_eq_true rfl) ?_
  refine am_vret d_Ac_new_4 rfl ?_
  exact ⟨rfl, rfl⟩
theorem jd_al (h : S.1 w = some (t, .inr (am_cAL, [.int 0, .null, .int 0]))) (ht : t ≠ 0) : am_M g y_Al_new "()V" 2 34 [.ref w] S (fun v S' => v = none ∧ S' = S) := by
  refine am_Mof (L0 := [some (.ref w)]) pl_Al_new (am_k1 rfl am_k0) (Nat.le_of_ble_eq_true rfl) rfl ?_
  refine am_aload_n d_Al_new_0 rfl (by first | exact am_rvR _ | exact am_rvN | assumption) ?_
  refine am_cI (b := w) d_Al_new_1 i_Al_1 (vs := []) (st := []) rfl rfl (by decide) (Nat.le_of_ble_eq_true rfl) (jd_ac) ?_
  rintro v S1 ⟨rfl, rfl⟩
  refine am_aload_n d_Al_new_4 rfl (by first | exact am_rvR _ | exact am_rvN | assumption) ?_
  refine am_iconst (v := nI 0) d_Al_new_5 (by decide) ?_
  refine am_put _ d_Al_new_6 f_Al_7 (p_Al_7 _) (by first | assumption | exact am_up_at _ _ _ _) (by first | decide | omega) (by first | rfl | exact am_b_nar _) (by first | rfl | exact am_b_fit _) ?_
  refine am_vret d_Al_new_9 rfl ?_
  exact ⟨rfl, am_up_id h⟩
theorem al_new (h : S.1 w = some (t, .inr (am_cAL, [.int 0, .null, .int 0]))) (ht : t ≠ 0) (he : am_gE g e) : am_M g y_AL_new "()V" 3 54 [.ref w] S (fun v S' => v = none ∧ S' = am_up S w t (.inr (am_cAL, [.int 0, .ref e, .int 0]))) := by
  refine am_Mof (L0 := [some (.ref w)]) pl_AL_new (am_k1 rfl am_k0) (Nat.le_of_ble_eq_true rfl) rfl ?_
  refine am_aload_n d_AL_new_0 rfl (by first | exact am_rvR _ | exact am_rvN | assumption) ?_
  refine am_cI (b := w) d_AL_new_1 i_AL_1 (vs := []) (st := []) rfl rfl (by decide) (Nat.le_of_ble_eq_true rfl) (jd_al h ht) ?_
  rintro v S1 ⟨rfl, rfl⟩
  refine am_aload_n d_AL_new_4 rfl (by first | exact am_rvR _ | exact am_rvN | assumption) ?_
  refine am_gets d_AL_new_5 o_st (Or.inl rfl) he ?_
  refine am_put _ d_AL_new_8 f_AL_9 (p_AL_9 _) (by first | assumption | exact am_up_at _ _ _ _) (by first | decide | omega) (by first | rfl | exact am_b_nar _) (by first | rfl | exact am_b_fit _) ?_
  refine am_vret d_AL_new_11 rfl ?_
  exact ⟨rfl, rfl⟩
theorem jd_nl {a b c : Nat} (h : a + max b c ≤ 1000) (h0 : 0 < a + max b c) : am_M g y_Sp_newLength "(III)I" 1 21 [.int (nI a), .int (nI b), .int (nI c)] S (fun v S' => v = some (.int (nI (a + max b c))) ∧ S' = S) := by
  refine am_Mof (L0 := [some (.int (nI a)), some (.int (nI b)), some (.int (nI c)), none]) pl_Sp_newLength (am_k1 rfl (am_k1 rfl (am_k1 rfl am_k0))) (Nat.le_of_ble_eq_true rfl) rfl ?_
  have hm : (if nI b < nI c then nI c else nI b) = nI (max b c) := by
    by_cases q : b < c
    · rw [if_pos ((nI_ltI (by omega) (by omega)).mpr q)]; congr 1; omega
    · rw [if_neg (fun z => q ((nI_ltI (by omega) (by omega)).mp z))]; congr 1; omega
  refine am_iload_n d_Sp_newLength_0 rfl ?_
  refine am_iload_n d_Sp_newLength_1 rfl ?_
  refine am_iload_n d_Sp_newLength_2 rfl ?_
  refine am_cS d_Sp_newLength_3 s_Sp_194 (vs := [.int (nI b), .int (nI c)]) (st := [.int (nI a)]) rfl rfl (by decide) (Nat.le_of_ble_eq_true rfl) (jd_max _ _) ?_
  rintro v S1 ⟨rfl, rfl⟩
  rw [hm]
  first | refine am_iaddN d_Sp_newLength_6 ?_ | refine am_iadd d_Sp_newLength_6 ?_
  refine am_istore_n (L1 := [_, _, _, _]) d_Sp_newLength_7 (by decide) rfl ?_
  refine am_iconst (v := nI 0) d_Sp_newLength_8 (by decide) ?_
  refine am_iload_n d_Sp_newLength_9 rfl ?_
  refine am_icmp_geN (tgt := 21) d_Sp_newLength_10 (by decide) (by omega) (by omega) (fun q => absurd q (by omega)) (fun _ => ?_)
  refine am_iload_n d_Sp_newLength_13 rfl ?_
  refine am_ldc (v := nI 2147483639) d_Sp_newLength_14 o_ld ?_
  refine am_icmp_gtN (tgt := 21) d_Sp_newLength_16 (by decide) (by omega) (by omega) (fun q => absurd q (by omega)) (fun _ => ?_)
  refine am_iload_n d_Sp_newLength_19 rfl ?_
  refine am_iret d_Sp_newLength_20 rfl rfl ?_
  exact ⟨rfl, rfl⟩
theorem jd_cp2 (o : am_ok S) (tg : Nat) (htg : tg ≠ 0) {a ta m : Nat} (hta : ta ≠ 0) (ha : S.1 a = some (ta, .inl (am_kO, as.map Value.ref))) (hm : as.length ≤ m) (hm2 : m ≤ 1000) (hel : al_els S t as) : am_M g y_As_copyOf2 "([Ljava/lang/Object;ILjava/lang/Class;)[Ljava/lang/Object;" 1 21 [.ref a, .int (nI m), .ref g.mir] S (fun v S' => v = some (.ref S.2.1) ∧ S' = am_mk S tg m (.inl (am_kO, as.map Value.ref ++ List.replicate (m - as.length) .null))) := by
  refine am_Mof (L0 := [some (.ref a), some (.int (nI m)), some (.ref g.mir), none]) pl_As_copyOf2 (am_k1 rfl (am_k1 rfl (am_k1 rfl am_k0))) (Nat.le_of_ble_eq_true rfl) rfl ?_
  refine am_aload_n d_As_copyOf2_0 rfl (by first | exact am_rvR _ | exact am_rvN | assumption) ?_
  refine am_ldcM d_As_copyOf2_1 o_lc ?_
  refine am_acmp_ne (rx := some g.mir) (ry := some g.mir) (tgt := 13) d_As_copyOf2_3 (by decide) (fun q => absurd rfl q) (fun _ => ?_)
  refine am_iload_n d_As_copyOf2_6 rfl ?_
  refine am_newq (t := am_kO) (N := m) tg d_As_copyOf2_7 am_kO_ok k_As_2 (by decide) (nI_pos (by omega)) (nI_clamp (by omega)) (by omega) ?_
  have ha1 := am_mk_old (t := tg) (n := m) (x := .inl (am_kO, List.replicate m .null)) ha o
  have hb1 := am_mk_at S tg m (.inl (am_kO, List.replicate m .null))
  refine am_goto (tgt := 24) d_As_copyOf2_10 (by decide) ?_
  refine am_astore_n (L1 := [_, _, _, _]) d_As_copyOf2_24 (by decide) (by first | exact am_rvR _ | exact am_rvN | assumption) rfl ?_
  refine am_aload_n d_As_copyOf2_25 rfl (by first | exact am_rvR _ | exact am_rvN | assumption) ?_
  refine am_iconst (v := nI 0) d_As_copyOf2_26 (by decide) ?_
  refine am_aload_n d_As_copyOf2_27 rfl (by first | exact am_rvR _ | exact am_rvN | assumption) ?_
  refine am_iconst (v := nI 0) d_As_copyOf2_28 (by decide) ?_
  refine am_aload_n d_As_copyOf2_29 rfl (by first | exact am_rvR _ | exact am_rvN | assumption) ?_
  refine am_alen (v := nI as.length) d_As_copyOf2_30 am_kO_ok ha1 (by simp; rfl) ?_
  refine am_iload_n d_As_copyOf2_31 rfl ?_
  refine am_cS d_As_copyOf2_32 s_As_304 (vs := [.int (nI as.length), .int (nI m)]) (st := [.int (nI 0), .ref S.2.1, .int (nI 0), .ref a]) rfl rfl (by decide) (Nat.le_of_ble_eq_true rfl) (jd_min _ _) ?_
  rintro v S1 ⟨rfl, rfl⟩
  rw [if_neg (nI_nlt hm (by omega))]
  refine am_copy (sp := 0) (dp := 0) (N := as.length) d_As_copyOf2_35 o_c_As o_cn o_cs o_ci am_kO_ok ha1 hb1 hta htg (by simp) (by simp; omega) (by simp; omega) (by simp; omega) (fun i hi => ?_) (by decide) (Nat.le_of_ble_eq_true rfl) ?_
  · have h2 := hel.obj [] hi
    rw [List.append_nil] at h2
    rw [Nat.zero_add]
    rcases h2 with h2 | ⟨b, tb, ci, q, fs, h3, h4, h5⟩
    · exact Or.inl h2
    · exact Or.inr ⟨b, tb, ci, q, fs, h3, am_mk_old h4 o, h5⟩
  rw [am_up_mk]
  have ec := al_cpy (xs := as.map Value.ref) (m := m) (by simpa using hm)
  rw [List.length_map] at ec
  rw [ec]
  refine am_aload_n d_As_copyOf2_38 rfl (by first | exact am_rvR _ | exact am_rvN | assumption) ?_
  refine am_aret d_As_copyOf2_39 rfl (by first | exact Or.inl ⟨_, rfl⟩ | exact Or.inr ⟨_, rfl⟩) (by first | exact am_rvR _ | exact am_rvN | assumption) ?_
  exact ⟨rfl, rfl⟩
theorem jd_cp (o : am_ok S) (tg : Nat) (htg : tg ≠ 0) {a ta m : Nat} (hta : ta ≠ 0) (ha : S.1 a = some (ta, .inl (am_kO, as.map Value.ref))) (hm : as.length ≤ m) (hm2 : m ≤ 1000) (hel : al_els S t as) : am_M g y_As_copyOf "([Ljava/lang/Object;I)[Ljava/lang/Object;" 2 44 [.ref a, .int (nI m)] S (fun v S' => v = some (.ref S.2.1) ∧ S' = am_mk S tg m (.inl (am_kO, as.map Value.ref ++ List.replicate (m - as.length) .null))) := by
  refine am_Mof (L0 := [some (.ref a), some (.int (nI m))]) pl_As_copyOf (am_k1 rfl (am_k1 rfl am_k0)) (Nat.le_of_ble_eq_true rfl) rfl ?_
  refine am_aload_n d_As_copyOf_0 rfl (by first | exact am_rvR _ | exact am_rvN | assumption) ?_
  refine am_iload_n d_As_copyOf_1 rfl ?_
  refine am_aload_n d_As_copyOf_2 rfl (by first | exact am_rvR _ | exact am_rvN | assumption) ?_
  refine am_getC d_As_copyOf_3 o_gl o_gs o_gi o_gn am_kO_ok ha hta (by decide) (Nat.le_of_ble_eq_true rfl) ?_
  refine am_cS d_As_copyOf_6 s_As_300 (vs := [.ref a, .int (nI m), .ref g.mir]) (st := []) rfl rfl (by decide) (Nat.le_of_ble_eq_true rfl) (jd_cp2 o tg htg hta ha hm hm2 hel) ?_
  rintro v S1 ⟨rfl, rfl⟩
  refine am_aret d_As_copyOf_9 rfl (by first | exact Or.inl ⟨_, rfl⟩ | exact Or.inr ⟨_, rfl⟩) (by first | exact am_rvR _ | exact am_rvN | assumption) ?_
  exact ⟨rfl, rfl⟩
theorem al_grow2 (o : am_ok S) (ht : t ≠ 0) (he : am_gE g e) {mc : Int32} {ea ta : Nat} (h1 : S.1 w = some (t, .inr (am_cAL, [.int mc, .ref ea, .int (nI as.length)]))) (h2 : S.1 ea = some (ta, .inl (am_kO, as.map Value.ref))) (h3 : as.length ≤ 60) (h5 : (ta = t + 1 ∧ 1 ≤ as.length) ∨ (ta = 0 ∧ ea = e ∧ as = [])) (hel : al_els S t as) : am_M g y_AL_grow2 "(I)[Ljava/lang/Object;" 3 65 [.ref w, .int (nI (as.length + 1))] S (fun v S' => ∃ m, as.length < m ∧ m ≤ 90 ∧ v = some (.ref S.2.1) ∧ S' = am_up (am_mk S (t + 1) m (.inl (am_kO, as.map Value.ref ++ List.replicate (m - as.length) .null))) w t (.inr (am_cAL, [.int mc, .ref S.2.1, .int (nI as.length)]))) := by
  refine am_Mof (L0 := [some (.ref w), some (.int (nI (as.length + 1))), none, none]) pl_AL_grow2 (am_k1 rfl (am_k1 rfl am_k0)) (Nat.le_of_ble_eq_true rfl) rfl ?_
  refine am_aload_n d_AL_grow2_0 rfl (by first | exact am_rvR _ | exact am_rvN | assumption) ?_
  refine am_get d_AL_grow2_1 f_AL_9 (by first | assumption | exact am_up_at _ _ _ _) (by rfl) ?_
  refine am_alen (v := nI as.length) d_AL_grow2_4 am_kO_ok h2 (by simp; rfl) ?_
  refine am_istore_n (L1 := [_, _, _, _]) d_AL_grow2_5 (by decide) rfl ?_
  refine am_iload_n d_AL_grow2_6 rfl ?_
  first | refine am_if_gtN (tgt := 20) d_AL_grow2_7 (by decide) (by omega) (fun q1 => ?_) (fun q1 => ?_) | refine am_if_gt (tgt := 20) d_AL_grow2_7 (by decide) (fun q1 => ?_) (fun q1 => ?_)
  · have hpos : 0 < as.length := q1
    refine am_iload_n d_AL_grow2_20 rfl ?_
    refine am_iload_n d_AL_grow2_21 rfl ?_
    refine am_iload_n d_AL_grow2_22 rfl ?_
    refine am_isubN d_AL_grow2_23 (by omega) ?_
    rw [Nat.add_sub_cancel_left]
    refine am_iload_n d_AL_grow2_24 rfl ?_
    refine am_iconst (v := nI 1) d_AL_grow2_25 (by decide) ?_
    refine am_ishr d_AL_grow2_26 ?_
    rw [pk_shrN (by omega) _ 1 (by decide)]
    refine am_cS d_AL_grow2_27 s_AL_73 (vs := [.int (nI as.length), .int (nI 1), .int (nI (as.length / 2 ^ 1))]) (st := []) rfl rfl (by decide) (Nat.le_of_ble_eq_true rfl) (jd_nl (by omega) (by omega)) ?_
    rintro v S1 ⟨rfl, rfl⟩
    refine am_istore_n (L1 := [_, _, _, _]) d_AL_grow2_30 (by decide) rfl ?_
    refine am_aload_n d_AL_grow2_31 rfl (by first | exact am_rvR _ | exact am_rvN | assumption) ?_
    refine am_aload_n d_AL_grow2_32 rfl (by first | exact am_rvR _ | exact am_rvN | assumption) ?_
    refine am_get d_AL_grow2_33 f_AL_9 (by first | assumption | exact am_up_at _ _ _ _) (by rfl) ?_
    refine am_iload_n d_AL_grow2_36 rfl ?_
    refine am_cS d_AL_grow2_37 s_AL_66 (vs := [.ref ea, .int (nI (as.length + max 1 (as.length / 2 ^ 1)))]) (st := [.ref w]) rfl rfl (by decide) (Nat.le_of_ble_eq_true rfl) (jd_cp o (t + 1) (by omega) (h5.elim (fun h => (show ta ≠ 0 by omega)) (fun h => absurd hpos (by rw [h.2.2]; exact Nat.lt_irrefl 0))) h2 (by omega) (by omega) hel) ?_
    rintro v S1 ⟨rfl, rfl⟩
    have h1b := am_mk_old (t := t + 1) (n := as.length + max 1 (as.length / 2 ^ 1)) (x := .inl (am_kO, as.map Value.ref ++ List.replicate (as.length + max 1 (as.length / 2 ^ 1) - as.length) .null)) h1 o
    refine am_dup_x1 d_AL_grow2_40 rfl rfl ?_
    refine am_put _ d_AL_grow2_41 f_AL_9 (p_AL_9 _) (by first | assumption | exact am_up_at _ _ _ _) (by first | decide | omega) (by first | rfl | exact am_b_nar _) (by first | rfl | exact am_b_fit _) ?_
    refine am_aret d_AL_grow2_44 rfl (by first | exact Or.inl ⟨_, rfl⟩ | exact Or.inr ⟨_, rfl⟩) (by first | exact am_rvR _ | exact am_rvN | assumption) ?_
    exact ⟨as.length + max 1 (as.length / 2 ^ 1), by omega, by omega, rfl, rfl⟩
  · refine am_aload_n d_AL_grow2_10 rfl (by first | exact am_rvR _ | exact am_rvN | assumption) ?_
    refine am_get d_AL_grow2_11 f_AL_9 (by first | assumption | exact am_up_at _ _ _ _) (by rfl) ?_
    refine am_gets d_AL_grow2_14 o_st (Or.inl rfl) he ?_
    refine am_acmp_eq (rx := some ea) (ry := some e) (tgt := 45) d_AL_grow2_17 (by decide) (fun q => ?_) (fun q => ?_)
    · refine am_aload_n d_AL_grow2_45 rfl (by first | exact am_rvR _ | exact am_rvN | assumption) ?_
      refine am_bipush (v := nI 10) d_AL_grow2_46 (by decide) ?_
      refine am_iload_n d_AL_grow2_48 rfl ?_
      refine am_cS d_AL_grow2_49 s_AL_79 (vs := [.int (nI 10), .int (nI (as.length + 1))]) (st := [.ref w]) rfl rfl (by decide) (Nat.le_of_ble_eq_true rfl) (jd_max _ _) ?_
      rintro v S1 ⟨rfl, rfl⟩
      have h0 : as.length = 0 := by omega
      rw [if_neg (nI_nlt (by omega) (by omega))]
      refine am_newq (t := am_kO) (N := 10) (t + 1) d_AL_grow2_52 am_kO_ok k_AL_7 (by decide) (nI_pos (by omega)) (nI_clamp (by omega)) (by omega) ?_
      have h1b := am_mk_old (t := t + 1) (n := 10) (x := .inl (am_kO, List.replicate 10 .null)) h1 o
      refine am_dup_x1 d_AL_grow2_55 rfl rfl ?_
      refine am_put _ d_AL_grow2_56 f_AL_9 (p_AL_9 _) (by first | assumption | exact am_up_at _ _ _ _) (by first | decide | omega) (by first | rfl | exact am_b_nar _) (by first | rfl | exact am_b_fit _) ?_
      refine am_aret d_AL_grow2_59 rfl (by first | exact Or.inl ⟨_, rfl⟩ | exact Or.inr ⟨_, rfl⟩) (by first | exact am_rvR _ | exact am_rvN | assumption) ?_
      have e0 : as = [] := List.length_eq_zero_iff.mp h0
      subst e0
      exact ⟨10, by decide, by decide, rfl, rfl⟩
    · exfalso
      rcases h5 with h5 | h5
      · omega
      · exact q (congrArg some h5.2.1)
theorem al_grow (o : am_ok S) (ht : t ≠ 0) (he : am_gE g e) {mc : Int32} {ea ta : Nat} (h1 : S.1 w = some (t, .inr (am_cAL, [.int mc, .ref ea, .int (nI as.length)]))) (h2 : S.1 ea = some (ta, .inl (am_kO, as.map Value.ref))) (h3 : as.length ≤ 60) (h5 : (ta = t + 1 ∧ 1 ≤ as.length) ∨ (ta = 0 ∧ ea = e ∧ as = [])) (hel : al_els S t as) : am_M g y_AL_grow "()[Ljava/lang/Object;" 4 88 [.ref w] S (fun v S' => ∃ m, as.length < m ∧ m ≤ 90 ∧ v = some (.ref S.2.1) ∧ S' = am_up (am_mk S (t + 1) m (.inl (am_kO, as.map Value.ref ++ List.replicate (m - as.length) .null))) w t (.inr (am_cAL, [.int mc, .ref S.2.1, .int (nI as.length)]))) := by
  refine am_Mof (L0 := [some (.ref w)]) pl_AL_grow (am_k1 rfl am_k0) (Nat.le_of_ble_eq_true rfl) rfl ?_
  refine am_aload_n d_AL_grow_0 rfl (by first | exact am_rvR _ | exact am_rvN | assumption) ?_
  refine am_aload_n d_AL_grow_1 rfl (by first | exact am_rvR _ | exact am_rvN | assumption) ?_
  refine am_get d_AL_grow_2 f_AL_48 (by first | assumption | exact am_up_at _ _ _ _) (by rfl) ?_
  refine am_iconst (v := nI 1) d_AL_grow_5 (by decide) ?_
  first | refine am_iaddN d_AL_grow_6 ?_ | refine am_iadd d_AL_grow_6 ?_
  refine am_cV (b := w) d_AL_grow_7 v_AL_69 (vs := [.int (nI (as.length + 1))]) (st := []) rfl rfl (by decide) (Nat.le_of_ble_eq_true rfl) h1 (al_grow2 o ht he h1 h2 h3 h5 hel) ?_
  rintro v S1 ⟨m, m1, m2, rfl, rfl⟩
  refine am_aret d_AL_grow_10 rfl (by first | exact Or.inl ⟨_, rfl⟩ | exact Or.inr ⟨_, rfl⟩) (by first | exact am_rvR _ | exact am_rvN | assumption) ?_
  exact ⟨m, m1, m2, rfl, rfl⟩
theorem al_add2 (o : am_ok S) (ht : t ≠ 0) (he : am_gE g e) {mc : Int32} {ea ta : Nat} {vs : List Value} (h1 : S.1 w = some (t, .inr (am_cAL, [.int mc, .ref ea, .int (nI as.length)]))) (h2 : S.1 ea = some (ta, .inl (am_kO, as.map Value.ref ++ vs))) (h3 : as.length < 60) (h4 : as.length + vs.length ≤ 90) (h5 : (ta = t + 1 ∧ 1 ≤ as.length + vs.length) ∨ (ta = 0 ∧ ea = e ∧ as = [] ∧ vs = [])) (hel : al_els S t as) {a tb ci : Nat} {q : vw_C} {fs : List Value} (ha : S.1 a = some (tb, .inr (ci, fs))) (hq : am_cl[ci]? = some q) (hc : (q.1, "java/lang/Object") ∈ am_nC) (htb : tb ≠ t ∧ tb ≠ t + 1) : am_M g y_AL_add2 "(Ljava/lang/Object;[Ljava/lang/Object;I)V" 5 108 [.ref w, .ref a, .ref ea, .int (nI as.length)] S (fun v S' => v = none ∧ am_li e S' t w (as ++ [a]) ∧ am_fr (am_lX t) S S' ∧ am_co 1 90 S S') := by
  have key : ∀ (S1 : am_S) (eb : Nat) (ws : List Value), S1.1 w = some (t, .inr (am_cAL, [.int mc, .ref eb, .int (nI as.length)])) → S1.1 eb = some (t + 1, .inl (am_kO, as.map Value.ref ++ ws)) → 0 < ws.length → as.length + ws.length ≤ 90 → S1.1 a = some (tb, .inr (ci, fs)) → am_fr (am_lX t) S S1 → am_co 1 90 S S1 → am_W g y_AL_add2 5 108 (fun v S' => v = none ∧ am_li e S' t w (as ++ [a]) ∧ am_fr (am_lX t) S S' ∧ am_co 1 90 S S') 11 [some (.ref w), some (.ref a), some (.ref eb), some (.int (nI as.length))] [] S1 := by
    intro S1 eb ws k1 k2 kw kw2 ka kf kc
    refine am_aload_n d_AL_add2_11 rfl (by first | exact am_rvR _ | exact am_rvN | assumption) ?_
    refine am_iload_n d_AL_add2_12 rfl ?_
    refine am_aload_n d_AL_add2_13 rfl (by first | exact am_rvR _ | exact am_rvN | assumption) ?_
    refine am_aast (j := as.length) d_AL_add2_14 am_kO_ok k2 (by omega) ka hq (Or.inr hc) rfl (by simp; omega) (by simp; omega) ?_
    have k1' := am_up_tag (t' := t + 1) (x' := .inl (am_kO, (as.map Value.ref ++ ws).set as.length (Value.ref a))) k1 k2 (by omega)
    refine am_aload_n d_AL_add2_15 rfl (by first | exact am_rvR _ | exact am_rvN | assumption) ?_
    refine am_iload_n d_AL_add2_16 rfl ?_
    refine am_iconst (v := nI 1) d_AL_add2_17 (by decide) ?_
    first | refine am_iaddN d_AL_add2_18 ?_ | refine am_iadd d_AL_add2_18 ?_
    refine am_put _ d_AL_add2_19 f_AL_48 (p_AL_48 _) k1' ht rfl rfl ?_
    refine am_vret d_AL_add2_22 rfl ?_
    refine ⟨rfl, ⟨mc, eb, t + 1, ws.tail, ?_, ?_, ?_, ?_, ?_⟩, (kf.trans (am_fr.up k2 (Or.inr rfl))).trans (am_fr.up k1' (Or.inl rfl)), kc⟩
    · rw [am_up_at, List.length_append]; rfl
    · have ee : (as.map Value.ref ++ ws).set as.length (Value.ref a) = (as ++ [a]).map Value.ref ++ ws.tail := by
        cases ws with
        | nil => simp at kw
        | cons x ws => simp
      rw [← ee]
      exact am_up_tag (am_up_at _ _ _ _) k1' (by omega)
    · simp; omega
    · simp; omega
    · exact Or.inl ⟨rfl, by simp; omega⟩
  refine am_Mof (L0 := [some (.ref w), some (.ref a), some (.ref ea), some (.int (nI as.length))]) pl_AL_add2 (am_k1 rfl (am_k1 rfl (am_k1 rfl (am_k1 rfl am_k0)))) (Nat.le_of_ble_eq_true rfl) rfl ?_
  refine am_iload_n d_AL_add2_0 rfl ?_
  refine am_aload_n d_AL_add2_1 rfl (by first | exact am_rvR _ | exact am_rvN | assumption) ?_
  refine am_alen (v := nI (as.length + vs.length)) d_AL_add2_2 am_kO_ok h2 (by rw [List.length_append, List.length_map]; rfl) ?_
  refine am_icmp_neN (tgt := 11) d_AL_add2_3 (by decide) (by omega) (by omega) (fun q1 => ?_) (fun q1 => ?_)
  · rcases h5 with ⟨rfl, h5⟩ | ⟨-, -, rfl, rfl⟩
    · exact key S ea vs h1 h2 (by omega) h4 ha (am_fr.refl _ _) ((am_co.refl S).mono (by omega) (by omega))
    · exact absurd rfl q1
  · have e0 : vs = [] := List.length_eq_zero_iff.mp (by omega)
    subst e0
    rw [List.append_nil] at h2
    refine am_aload_n d_AL_add2_6 rfl (am_rvR _) ?_
    refine am_cV (b := w) d_AL_add2_7 v_AL_129 (vs := []) (st := []) rfl rfl (by decide) (Nat.le_of_ble_eq_true rfl) h1 (al_grow o ht he h1 h2 (by omega) (h5.elim (fun h => Or.inl ⟨h.1, by simpa using h.2⟩) (fun h => Or.inr ⟨h.1, h.2.1, h.2.2.1⟩)) hel) ?_
    rintro v S1 ⟨m, m1, m2, rfl, rfl⟩
    refine am_astore_n (L1 := [_, _, _, _]) d_AL_add2_10 (by decide) (am_rvR _) rfl ?_
    have g1 := am_mk_old (t := t + 1) (n := m) (x := .inl (am_kO, as.map Value.ref ++ List.replicate (m - as.length) .null)) h1 o
    refine key _ S.2.1 (List.replicate (m - as.length) .null) (am_up_at _ _ _ _) (am_up_tag (am_mk_at _ _ _ _) g1 (by omega)) (by simp; omega) (by simp; omega) (am_up_tag (am_mk_old ha o) g1 (by omega)) ((am_fr.mk _ _ _ _ o).trans (am_fr.up g1 (Or.inl rfl))) ?_
    exact ((am_co.mk S _ _ _).trans (am_co.up _ _ _ _)).mono (by omega) (by omega)
theorem al_add (o : am_ok S) (ht : t ≠ 0) (he : am_gE g e) (h : am_li e S t w as) (h3 : as.length < 60) (hel : al_els S t as) {a tb ci : Nat} {q : vw_C} {fs : List Value} (ha : S.1 a = some (tb, .inr (ci, fs))) (hq : am_cl[ci]? = some q) (hc : (q.1, "java/lang/Object") ∈ am_nC) (htb : tb ≠ t ∧ tb ≠ t + 1) : am_M g y_AL_add "(Ljava/lang/Object;)Z" 6 131 [.ref w, .ref a] S (fun v S' => v = some (.int 1) ∧ am_li e S' t w (as ++ [a]) ∧ am_fr (am_lX t) S S' ∧ am_co 1 90 S S') := by
  refine am_Mof (L0 := [some (.ref w), some (.ref a)]) pl_AL_add (am_k1 rfl (am_k1 rfl am_k0)) (Nat.le_of_ble_eq_true rfl) rfl ?_
  obtain ⟨mc, ea, ta, vs, h1, h2, -, h4, h5⟩ := h
  refine am_aload_n d_AL_add_0 rfl (by first | exact am_rvR _ | exact am_rvN | assumption) ?_
  refine am_dup d_AL_add_1 rfl ?_
  refine am_get d_AL_add_2 f_AL_63 (by first | assumption | exact am_up_at _ _ _ _) (by rfl) ?_
  refine am_iconst (v := nI 1) d_AL_add_5 (by decide) ?_
  first | refine am_iaddN d_AL_add_6 ?_ | refine am_iadd d_AL_add_6 ?_
  have h1' := am_up_at S w t (.inr (am_cAL, [.int (mc + nI 1), .ref ea, .int (nI as.length)]))
  have h2' := am_up_tag (t' := t) (x' := .inr (am_cAL, [.int (mc + nI 1), .ref ea, .int (nI as.length)])) h2 h1 (by rcases h5 with h5 | h5 <;> omega)
  have ha' := am_up_tag (t' := t) (x' := .inr (am_cAL, [.int (mc + nI 1), .ref ea, .int (nI as.length)])) ha h1 (by omega)
  have hf' : am_fr (am_lX t) S (am_up S w t (.inr (am_cAL, [.int (mc + nI 1), .ref ea, .int (nI as.length)]))) := am_fr.up h1 (Or.inl rfl)
  refine am_put _ d_AL_add_7 f_AL_63 (p_AL_63 _) (by first | assumption | exact am_up_at _ _ _ _) (by first | decide | omega) (by first | rfl | exact am_b_nar _) (by first | rfl | exact am_b_fit _) ?_
  refine am_aload_n d_AL_add_10 rfl (by first | exact am_rvR _ | exact am_rvN | assumption) ?_
  refine am_aload_n d_AL_add_11 rfl (by first | exact am_rvR _ | exact am_rvN | assumption) ?_
  refine am_aload_n d_AL_add_12 rfl (by first | exact am_rvR _ | exact am_rvN | assumption) ?_
  refine am_get d_AL_add_13 f_AL_9 (by first | assumption | exact am_up_at _ _ _ _) (by rfl) ?_
  refine am_aload_n d_AL_add_16 rfl (by first | exact am_rvR _ | exact am_rvN | assumption) ?_
  refine am_get d_AL_add_17 f_AL_48 (by first | assumption | exact am_up_at _ _ _ _) (by rfl) ?_
  refine am_cV (b := w) d_AL_add_20 v_AL_131 (vs := [.ref a, .ref ea, .int (nI as.length)]) (st := []) rfl rfl (by decide) (Nat.le_of_ble_eq_true rfl) h1' (al_add2 (o.up h1) ht he h1' h2' h3 h4 h5 (hel.fr hf') ha' hq hc htb) ?_
  rintro v S1 ⟨rfl, p1, p2, p3⟩
  refine am_iconst (v := nI 1) d_AL_add_23 (by decide) ?_
  refine am_iret d_AL_add_24 rfl (by first | rfl | exact am_b_nar _) ?_
  exact ⟨rfl, p1, hf'.trans p2, p3⟩
theorem al_rm {as : List Nat} {vs : List Value} {k : Nat} (hk : k < as.length) : ((am_cpy (as.map Value.ref ++ vs) (as.map Value.ref ++ vs) (k + 1) k (as.length - 1 - k)).set (as.length - 1) .null) = (as.eraseIdx k).map Value.ref ++ (.null :: vs) := by
  apply List.ext_getElem
  · simp [am_cpy, List.length_eraseIdx, hk]; omega
  · intro i h1 h2
    simp [am_cpy] at h1
    simp only [List.getElem_set, am_cpy, List.getElem_map, List.getElem_range, List.getElem_append, List.length_map, List.length_eraseIdx, if_pos hk]
    by_cases c1 : as.length - 1 = i
    · subst c1
      simp
    · rw [if_neg c1]
      by_cases c2 : i < as.length - 1
      · by_cases c3 : i < k
        · rw [if_neg (by omega)]
          simp [c2, List.getElem_eraseIdx, c3, List.getD_eq_getElem?_getD, List.getElem?_append_left (show i < (as.map Value.ref).length by simp; omega), List.getElem?_eq_getElem (show i < as.length by omega)]
        · rw [if_pos (by omega)]
          have e1 : k + 1 + (i - k) = i + 1 := by omega
          rw [e1]
          simp [c2, List.getElem_eraseIdx, c3, List.getD_eq_getElem?_getD, List.getElem?_append_left (show i + 1 < (as.map Value.ref).length by simp; omega), List.getElem?_eq_getElem (show i + 1 < as.length by omega)]
      · rw [if_neg (by omega)]
        have e2 : i - (as.length - 1) = (i - as.length) + 1 := by omega
        simp [c2, List.getD_eq_getElem?_getD, List.getElem?_append_right (show (as.map Value.ref).length ≤ i by simp; omega), e2, List.getElem?_eq_getElem (show i - as.length < vs.length by omega)]
theorem al_rm1 {as : List Nat} {vs : List Value} {k : Nat} (hk : k < as.length) (h : as.length - 1 ≤ k) : ((as.map Value.ref ++ vs).set (as.length - 1) .null) = (as.eraseIdx k).map Value.ref ++ (.null :: vs) := by
  have h2 := al_rm (vs := vs) hk
  have e : as.length - 1 - k = 0 := by omega
  rw [e] at h2
  rw [← h2]
  congr 1
  apply List.ext_getElem
  · simp [am_cpy]
  · intro i h1 h2
    have e3 : ¬ (k ≤ i ∧ i < k + 0) := by omega
    simp only [am_cpy, List.getElem_map, List.getElem_range, if_neg e3]
    rw [List.getD_eq_getElem?_getD, List.getElem?_eq_getElem h1]
    rfl
theorem al_fr (o : am_ok S) (ht : t ≠ 0) {mc : Int32} {ea k : Nat} {vs : List Value} (h1 : S.1 w = some (t, .inr (am_cAL, [.int mc, .ref ea, .int (nI as.length)]))) (h2 : S.1 ea = some (t + 1, .inl (am_kO, as.map Value.ref ++ vs))) (h3 : as.length ≤ 60) (h4 : as.length + vs.length ≤ 90) (hk : k < as.length) (hel : al_els S t as) : am_M g y_AL_fastRemove "([Ljava/lang/Object;I)V" 1 20 [.ref w, .ref ea, .int (nI k)] S (fun v S' => v = none ∧ am_li e S' t w (as.eraseIdx k) ∧ am_fr (am_lX t) S S' ∧ S'.2 = S.2) := by
  have key : ∀ (S1 : am_S) (xs : List Value), xs.set (as.length - 1) .null = (as.eraseIdx k).map Value.ref ++ (.null :: vs) → xs.length = as.length + vs.length → S1.1 w = some (t, .inr (am_cAL, [.int (mc + nI 1), .ref ea, .int (nI as.length)])) → S1.1 ea = some (t + 1, .inl (am_kO, xs)) → am_fr (am_lX t) S S1 → S1.2 = S.2 → am_W g y_AL_fastRemove 1 20 (fun v S' => v = none ∧ am_li e S' t w (as.eraseIdx k) ∧ am_fr (am_lX t) S S' ∧ S'.2 = S.2) 34 [some (.ref w), some (.ref ea), some (.int (nI k)), some (.int (nI (as.length - 1)))] [] S1 := by
    intro S1 xs kx kl k1 k2 kf kc
    refine am_aload_n d_AL_fastRemove_34 rfl (by first | exact am_rvR _ | exact am_rvN | assumption) ?_
    refine am_aload_n d_AL_fastRemove_35 rfl (by first | exact am_rvR _ | exact am_rvN | assumption) ?_
    refine am_iload_n d_AL_fastRemove_36 rfl ?_
    refine am_dup_x1 d_AL_fastRemove_37 rfl rfl ?_
    refine am_put _ d_AL_fastRemove_38 f_AL_48 (p_AL_48 _) k1 ht rfl rfl ?_
    have k1' := am_up_at S1 w t (.inr (am_cAL, [.int (mc + nI 1), .ref ea, .int (nI (as.length - 1))]))
    have k2' := am_up_tag (t' := t) (x' := .inr (am_cAL, [.int (mc + nI 1), .ref ea, .int (nI (as.length - 1))])) k2 k1 (by omega)
    refine am_null d_AL_fastRemove_41 ?_
    refine am_aastN (j := as.length - 1) d_AL_fastRemove_42 am_kO_ok k2' (by omega) rfl (by omega) (by omega) ?_
    refine am_vret d_AL_fastRemove_43 rfl ?_
    refine ⟨rfl, ⟨mc + nI 1, ea, t + 1, .null :: vs, ?_, ?_, ?_, ?_, ?_⟩, (kf.trans (am_fr.up k1 (Or.inl rfl))).trans (am_fr.up k2' (Or.inr rfl)), kc⟩
    · have e3 : (as.eraseIdx k).length = as.length - 1 := by simp [List.length_eraseIdx, hk]
      rw [e3]
      exact am_up_tag k1' k2' (by omega)
    · rw [am_up_at, kx]
    · rw [List.length_eraseIdx, if_pos hk]; omega
    · rw [List.length_eraseIdx, if_pos hk, List.length_cons]; omega
    · exact Or.inl ⟨rfl, by rw [List.length_cons]; omega⟩
  refine am_Mof (L0 := [some (.ref w), some (.ref ea), some (.int (nI k)), none]) pl_AL_fastRemove (am_k1 rfl (am_k1 rfl (am_k1 rfl am_k0))) (Nat.le_of_ble_eq_true rfl) rfl ?_
  refine am_aload_n d_AL_fastRemove_0 rfl (by first | exact am_rvR _ | exact am_rvN | assumption) ?_
  refine am_dup d_AL_fastRemove_1 rfl ?_
  refine am_get d_AL_fastRemove_2 f_AL_63 (by first | assumption | exact am_up_at _ _ _ _) (by rfl) ?_
  refine am_iconst (v := nI 1) d_AL_fastRemove_5 (by decide) ?_
  first | refine am_iaddN d_AL_fastRemove_6 ?_ | refine am_iadd d_AL_fastRemove_6 ?_
  refine am_put _ d_AL_fastRemove_7 f_AL_63 (p_AL_63 _) h1 ht rfl rfl ?_
  have k1' := am_up_at S w t (.inr (am_cAL, [.int (mc + nI 1), .ref ea, .int (nI as.length)]))
  have k2' := am_up_tag (t' := t) (x' := .inr (am_cAL, [.int (mc + nI 1), .ref ea, .int (nI as.length)])) h2 h1 (by omega)
  have hf' : am_fr (am_lX t) S (am_up S w t (.inr (am_cAL, [.int (mc + nI 1), .ref ea, .int (nI as.length)]))) := am_fr.up h1 (Or.inl rfl)
  refine am_aload_n d_AL_fastRemove_10 rfl (by first | exact am_rvR _ | exact am_rvN | assumption) ?_
  refine am_get d_AL_fastRemove_11 f_AL_48 (by first | assumption | exact am_up_at _ _ _ _) (by rfl) ?_
  refine am_iconst (v := nI 1) d_AL_fastRemove_14 (by decide) ?_
  first | refine am_isubN d_AL_fastRemove_15 (by omega) ?_ | refine am_isub d_AL_fastRemove_15 ?_
  refine am_dup d_AL_fastRemove_16 rfl ?_
  refine am_istore_n (L1 := [_, _, _, _]) d_AL_fastRemove_17 (by decide) rfl ?_
  refine am_iload_n d_AL_fastRemove_18 rfl ?_
  first | refine am_icmp_leN (tgt := 34) d_AL_fastRemove_19 (by decide) (by omega) (by omega) (fun q1 => ?_) (fun q1 => ?_) | refine am_icmp_le (tgt := 34) d_AL_fastRemove_19 (by decide) (fun q1 => ?_) (fun q1 => ?_)
  · first | exact key _ _ (al_rm hk) (by simp [am_cpy]) (am_up_tag k1' k2' (by omega)) (am_up_at _ _ _ _) (hf'.trans (am_fr.up k2' (Or.inr rfl))) rfl | exact key _ _ (al_rm1 hk (by omega)) (by simp) k1' k2' hf' rfl
  · refine am_aload_n d_AL_fastRemove_22 rfl (by first | exact am_rvR _ | exact am_rvN | assumption) ?_
    refine am_iload_n d_AL_fastRemove_23 rfl ?_
    refine am_iconst (v := nI 1) d_AL_fastRemove_24 (by decide) ?_
    first | refine am_iaddN d_AL_fastRemove_25 ?_ | refine am_iadd d_AL_fastRemove_25 ?_
    refine am_aload_n d_AL_fastRemove_26 rfl (by first | exact am_rvR _ | exact am_rvN | assumption) ?_
    refine am_iload_n d_AL_fastRemove_27 rfl ?_
    refine am_iload_n d_AL_fastRemove_28 rfl ?_
    refine am_iload_n d_AL_fastRemove_29 rfl ?_
    first | refine am_isubN d_AL_fastRemove_30 (by omega) ?_ | refine am_isub d_AL_fastRemove_30 ?_
    refine am_copy (sp := k + 1) (dp := k) (N := as.length - 1 - k) d_AL_fastRemove_31 o_c_AL o_cn o_cs o_ci am_kO_ok k2' k2' (by omega) (by omega) (by simp; omega) (by simp; omega) (by simp; omega) (by simp; omega) (fun i hi => (hel.fr hf').obj vs (by omega)) (by decide) (Nat.le_of_ble_eq_true rfl) ?_
    first | exact key _ _ (al_rm hk) (by simp [am_cpy]) (am_up_tag k1' k2' (by omega)) (am_up_at _ _ _ _) (hf'.trans (am_fr.up k2' (Or.inr rfl))) rfl | exact key _ _ (al_rm1 hk (by omega)) (by simp) k1' k2' hf' rfl
theorem al_remove (o : am_ok S) (ht : t ≠ 0) {k a : Nat} (h : am_li e S t w as) (ha : as[k]? = some a) (hel : al_els S t as) : am_M g y_AL_remove "(I)Ljava/lang/Object;" 2 43 [.ref w, .int (nI k)] S (fun v S' => v = some (.ref a) ∧ am_li e S' t w (as.eraseIdx k) ∧ am_fr (am_lX t) S S' ∧ S'.2 = S.2) := by
  refine am_Mof (L0 := [some (.ref w), some (.int (nI k)), none, none]) pl_AL_remove (am_k1 rfl (am_k1 rfl am_k0)) (Nat.le_of_ble_eq_true rfl) rfl ?_
  have hk := (List.getElem?_eq_some_iff.mp ha).1
  obtain ⟨mc, ea, ta, vs, h1, h2, h3, h4, h5⟩ := h
  rcases h5 with ⟨rfl, h5⟩ | ⟨-, -, rfl, rfl⟩
  rotate_left
  · exact absurd hk (Nat.not_lt_zero _)
  refine am_iload_n d_AL_remove_0 rfl ?_
  refine am_aload_n d_AL_remove_1 rfl (by first | exact am_rvR _ | exact am_rvN | assumption) ?_
  refine am_get d_AL_remove_2 f_AL_48 (by first | assumption | exact am_up_at _ _ _ _) (by rfl) ?_
  refine am_cS d_AL_remove_5 s_AL_118 (vs := [.int (nI k), .int (nI as.length)]) (st := []) rfl rfl (by decide) (Nat.le_of_ble_eq_true rfl) (jd_oci hk (by omega)) ?_
  rintro v S1 ⟨rfl, rfl⟩
  refine am_pop d_AL_remove_8 rfl ?_
  refine am_aload_n d_AL_remove_9 rfl (by first | exact am_rvR _ | exact am_rvN | assumption) ?_
  refine am_get d_AL_remove_10 f_AL_9 (by first | assumption | exact am_up_at _ _ _ _) (by rfl) ?_
  refine am_astore_n (L1 := [_, _, _, _]) d_AL_remove_13 (by decide) (by first | exact am_rvR _ | exact am_rvN | assumption) rfl ?_
  refine am_aload_n d_AL_remove_14 rfl (by first | exact am_rvR _ | exact am_rvN | assumption) ?_
  refine am_iload_n d_AL_remove_15 rfl ?_
  refine am_aald d_AL_remove_16 am_kO_ok rfl h2 rfl (by rw [List.getElem?_append_left (by simpa using hk), List.getElem?_map, ha]; rfl) (by simp; omega) ?_
  refine am_astore_n (L1 := [_, _, _, _]) d_AL_remove_17 (by decide) (by first | exact am_rvR _ | exact am_rvN | assumption) rfl ?_
  refine am_aload_n d_AL_remove_18 rfl (by first | exact am_rvR _ | exact am_rvN | assumption) ?_
  refine am_aload_n d_AL_remove_19 rfl (by first | exact am_rvR _ | exact am_rvN | assumption) ?_
  refine am_iload_n d_AL_remove_20 rfl ?_
  refine am_cV (b := w) d_AL_remove_21 v_AL_144 (vs := [.ref ea, .int (nI k)]) (st := []) rfl rfl (by decide) (Nat.le_of_ble_eq_true rfl) h1 (al_fr (e := e) o ht h1 h2 h3 h4 hk hel) ?_
  rintro v S1 ⟨rfl, p1, p2, p3⟩
  refine am_aload_n d_AL_remove_24 rfl (by first | exact am_rvR _ | exact am_rvN | assumption) ?_
  refine am_aret d_AL_remove_25 rfl (by first | exact Or.inl ⟨_, rfl⟩ | exact Or.inr ⟨_, rfl⟩) (by first | exact am_rvR _ | exact am_rvN | assumption) ?_
  exact ⟨rfl, p1, p2, p3⟩
end JDL
