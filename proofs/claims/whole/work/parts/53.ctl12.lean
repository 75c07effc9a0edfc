/-! the class: courses are made -/
section CTL
variable {g : am_G} {e nw ns room idle : Nat} {A : Nat → Nat} {s : cl_S} {S : am_S}
theorem mk_Co (hW : am_gW g nw) {a t : Nat} (ht : t ≠ 0) (ha : S.1 a = some (t, .inr (am_cCo, [.int 0, .int 0, .int 0, .null, .null, .int 0, .int 0, .int 0]))) (x z : Int32) (dd : Nat) : am_M g y_Co_new "(IILFlowFabric$Datagram;)V" 1 14 [.ref a, .int x, .int z, .ref dd] S (fun v S' => v = none ∧ S' = am_up S a t (.inr (am_cCo, [.int x, .int z, .int 2, .ref nw, .ref dd, .int 0, .int 0, .int 0]))) := by
  refine am_Mof (L0 := [some (.ref a), some (.int x), some (.int z), some (.ref dd)]) pl_Co_new (am_k1 rfl (am_k1 rfl (am_k1 rfl (am_k1 rfl am_k0)))) (Nat.le_of_ble_eq_true rfl) rfl ?_
  refine am_aload_n d_Co_new_0 rfl (by first | exact am_rvR _ | exact am_rvN | assumption) ?_
  refine am_objInit d_Co_new_1 o_Co_3 o_hi o_hc (by decide) (Nat.le_of_ble_eq_true rfl) ?_
  refine am_aload_n d_Co_new_4 rfl (by first | exact am_rvR _ | exact am_rvN | assumption) ?_
  refine am_iload_n d_Co_new_5 rfl ?_
  refine am_put _ d_Co_new_6 f_Co_9 p_Co_9 (by first | assumption | exact am_up_at _ _ _ _) (by first | decide | omega) (by first | rfl | exact am_b_nar _) (by first | rfl | exact am_b_fit _) ?_
  refine am_aload_n d_Co_new_9 rfl (by first | exact am_rvR _ | exact am_rvN | assumption) ?_
  refine am_iload_n d_Co_new_10 rfl ?_
  refine am_put _ d_Co_new_11 f_Co_15 p_Co_15 (by first | assumption | exact am_up_at _ _ _ _) (by first | decide | omega) (by first | rfl | exact am_b_nar _) (by first | rfl | exact am_b_fit _) ?_
  refine am_aload_n d_Co_new_14 rfl (by first | exact am_rvR _ | exact am_rvN | assumption) ?_
  refine am_iconst (v := (2)) d_Co_new_15 (by decide) ?_
  refine am_put _ d_Co_new_16 f_Co_18 (p_Co_18 _) (by first | assumption | exact am_up_at _ _ _ _) (by first | decide | omega) (by first | rfl | exact am_b_nar _) (by first | rfl | exact am_b_fit _) ?_
  refine am_aload_n d_Co_new_19 rfl (by first | exact am_rvR _ | exact am_rvN | assumption) ?_
  refine am_getsN (v := .ref nw) d_Co_new_20 (by exact List.mem_cons_of_mem _ List.mem_cons_self) hW ?_
  refine am_put _ d_Co_new_23 f_Co_25 (p_Co_25 _) (by first | assumption | exact am_up_at _ _ _ _) (by first | decide | omega) (by first | rfl | exact am_b_nar _) (by first | rfl | exact am_b_fit _) ?_
  refine am_aload_n d_Co_new_26 rfl (by first | exact am_rvR _ | exact am_rvN | assumption) ?_
  refine am_aload_n d_Co_new_27 rfl (by first | exact am_rvR _ | exact am_rvN | assumption) ?_
  refine am_put _ d_Co_new_28 f_Co_28 (p_Co_28 _) (by first | assumption | exact am_up_at _ _ _ _) (by first | decide | omega) (by first | rfl | exact am_b_nar _) (by first | rfl | exact am_b_fit _) ?_
  refine am_aload_n d_Co_new_31 rfl (by first | exact am_rvR _ | exact am_rvN | assumption) ?_
  refine am_iconst (v := (0)) d_Co_new_32 (by decide) ?_
  refine am_put _ d_Co_new_33 f_Co_32 (p_Co_32 _) (by first | assumption | exact am_up_at _ _ _ _) (by first | decide | omega) (by first | rfl | exact am_b_nar _) (by first | rfl | exact am_b_fit _) ?_
  refine am_aload_n d_Co_new_36 rfl (by first | exact am_rvR _ | exact am_rvN | assumption) ?_
  refine am_iconst (v := (0)) d_Co_new_37 (by decide) ?_
  refine am_put _ d_Co_new_38 f_Co_35 (p_Co_35 _) (by first | assumption | exact am_up_at _ _ _ _) (by first | decide | omega) (by first | rfl | exact am_b_nar _) (by first | rfl | exact am_b_fit _) ?_
  refine am_aload_n d_Co_new_41 rfl (by first | exact am_rvR _ | exact am_rvN | assumption) ?_
  refine am_iconst (v := (0)) d_Co_new_42 (by decide) ?_
  refine am_put _ d_Co_new_43 f_Co_38 (p_Co_38 _) (by first | assumption | exact am_up_at _ _ _ _) (by first | decide | omega) (by first | rfl | exact am_b_nar _) (by first | rfl | exact am_b_fit _) ?_
  refine am_vret d_Co_new_46 rfl ?_
  exact ⟨rfl, by simp only [am_up_up]; rfl⟩
theorem fc_lay_row {s : fc_S} {k : Nat} {f t st wv aw ld kp kn : Int32} {way0 : List Int32} (hr : (s 7)[k]? = some ([f, t, st, wv, aw, ld, kp, kn] ++ way0)) (way : List Int32) : fc_lay s k way = fc_lead (fc_up s 7 ((s 7).set k ([f, t, 2, wv, aw, nI way.length, kp, kn] ++ way))) k := by
  unfold fc_lay
  rw [List.getD_eq_getElem?_getD, hr]
  rfl
/-- the last end of a way -/
theorem fc_last {way : List Int32} (hne : way.length ≠ 0) (h : ∀ x ∈ way, ∃ m, m < 4 * ns ∧ x = nI m) : ∃ m, m < 4 * ns ∧ way[way.length - 1]? = some (nI m) := by
  have hl : way.length - 1 < way.length := by omega
  obtain ⟨m, h1, h2⟩ := h _ (List.getElem_mem hl)
  exact ⟨m, h1, by rw [List.getElem?_eq_getElem hl, h2]⟩
theorem ct_make (hn : ns ≤ 5) (he : am_gE g e) (hW : am_gW g nw) (hS : cl_P e nw ns room idle A s S) (I : fc_iK ns s.1) (Io : fc_iO ns s.1) {f t dd : Nat} {nr : Int32} (hf : f < 6) (ht : t < 6) (hd : S.1 dd = some (0, .inr (am_cDg, [.int (nI f), .int (nI t), .int nr]))) (hlen : ∀ u, u < ns → (s.1 (30 + u)).length + 2 < 60) : am_M g y_Ct_makeCourse "(LFlowFabric$Datagram;)V" 8 175 [.ref (A 2), .ref dd] S (fun v S' => v = none ∧ cl_Q e nw ns room idle A s S (fc_make ns s.1 (nI f) (nI t) nr) 8 300 S') := by
  have hL : cl_isL ns 7 := Or.inl rfl
  have h6 := I.1
  obtain ⟨⟨x0, h2⟩, -⟩ := id Io
  obtain ⟨hw5, hwe⟩ := fc_wayOf_ok hn Io hf ht
  by_cases h7 : (s.1 7).length < 6
  rotate_left
  · refine am_Mof (L0 := [some (.ref (A 2)), some (.ref dd), none, none]) pl_Ct_makeCourse (am_k1 rfl (am_k1 rfl am_k0)) (Nat.le_of_ble_eq_true rfl) rfl ?_
    refine am_aload_n d_Ct_makeCourse_0 rfl (by first | exact am_rvR _ | exact am_rvN | assumption) ?_
    refine am_get d_Ct_makeCourse_1 f_Ct_29 (cl_ctl hS) (by rfl) ?_
    refine am_cV (b := A 7) d_Ct_makeCourse_4 v_Ct_123 (vs := []) (st := []) rfl rfl (by decide) (Nat.le_of_ble_eq_true rfl) (cl_list hS hL).1.choose_spec.choose_spec.choose_spec.choose_spec.1 (cl_size hS hL) ?_
    rintro v S9 ⟨rfl, hS9⟩
    rw [hS9]
    refine am_bipush (v := nI 6) d_Ct_makeCourse_7 (by decide) ?_
    refine am_icmp_ltN (tgt := 13) d_Ct_makeCourse_9 (by decide) (by omega) (by omega) (fun q => absurd q (by omega)) (fun _ => ?_)
    refine am_vret d_Ct_makeCourse_12 rfl ?_
    refine ⟨rfl, ?_⟩
    unfold fc_make fc_len
    rw [if_pos (by omega)]
    exact (cl_Q.id hS).wide (by omega) (by omega)
  refine am_Mof (L0 := [some (.ref (A 2)), some (.ref dd), none, none]) pl_Ct_makeCourse (am_k1 rfl (am_k1 rfl am_k0)) (Nat.le_of_ble_eq_true rfl) rfl ?_
  refine am_aload_n d_Ct_makeCourse_0 rfl (by first | exact am_rvR _ | exact am_rvN | assumption) ?_
  refine am_get d_Ct_makeCourse_1 f_Ct_29 (cl_ctl hS) (by rfl) ?_
  refine am_cV (b := A 7) d_Ct_makeCourse_4 v_Ct_123 (vs := []) (st := []) rfl rfl (by decide) (Nat.le_of_ble_eq_true rfl) (cl_list hS hL).1.choose_spec.choose_spec.choose_spec.choose_spec.1 (cl_size hS hL) ?_
  rintro v S9 ⟨rfl, hS9⟩
  rw [hS9]
  refine am_bipush (v := nI 6) d_Ct_makeCourse_7 (by decide) ?_
  refine am_icmp_ltN (tgt := 13) d_Ct_makeCourse_9 (by decide) (by omega) (by omega) (fun _ => ?_) (fun q => absurd q (by omega))
  refine am_aload_n d_Ct_makeCourse_13 rfl (by first | exact am_rvR _ | exact am_rvN | assumption) ?_
  refine am_aload_n d_Ct_makeCourse_14 rfl (by first | exact am_rvR _ | exact am_rvN | assumption) ?_
  refine am_get d_Ct_makeCourse_15 f_Ct_90 hd (by rfl) ?_
  refine am_aload_n d_Ct_makeCourse_18 rfl (by first | exact am_rvR _ | exact am_rvN | assumption) ?_
  refine am_get d_Ct_makeCourse_19 f_Ct_93 hd (by rfl) ?_
  refine am_cV (b := A 2) d_Ct_makeCourse_22 v_Ct_135 (vs := [.int (nI f), .int (nI t)]) (st := []) rfl rfl (by decide) (Nat.le_of_ble_eq_true rfl) (cl_ctl hS) (ct_findWay hn hW hS Io hf ht) ?_
  rintro v S1 ⟨q, rfl, hq, s1, e1, ⟨b11, b12, b13⟩, hS1, hf1⟩
  have hd1 := hf1.keep hd (fun z => by unfold cl_X at z; omega)
  have o1 : am_ok S1 := hS1.1.1
  refine am_astore_n (L1 := [_, _, _, _]) d_Ct_makeCourse_25 (by decide) (by first | exact am_rvR _ | exact am_rvN | assumption) rfl ?_
  refine am_aload_n d_Ct_makeCourse_26 rfl (by first | exact am_rvR _ | exact am_rvN | assumption) ?_
  refine am_alen (v := nI (fc_wayOf ns s.1 (nI f) (nI t)).length) d_Ct_makeCourse_27 am_kI_ok hq (by rw [List.length_map]; rfl) ?_
  have hw31 : (fc_wayOf ns s.1 (nI f) (nI t)).length < 2 ^ 31 := by omega
  first | refine am_if_neB (tgt := 32) d_Ct_makeCourse_28 (by decide) (fun q1 => ?_) (fun q1 => ?_) | refine am_if_neN (tgt := 32) d_Ct_makeCourse_28 (by decide) (by omega) (fun q1 => ?_) (fun q1 => ?_) | refine am_if_ne (tgt := 32) d_Ct_makeCourse_28 (by decide) (fun q1 => ?_) (fun q1 => ?_)
  · refine am_nw 73 d_Ct_makeCourse_32 n_Ct_99 df_Co ?_
    have hb0 := am_mk_at S1 73 8 (.inr (am_cCo, [.int 0, .int 0, .int 0, .null, .null, .int 0, .int 0, .int 0]))
    have hd2 := am_mk_old (t := 73) (n := 8) (x := .inr (am_cCo, [.int 0, .int 0, .int 0, .null, .null, .int 0, .int 0, .int 0])) hd1 o1
    refine am_dup d_Ct_makeCourse_35 rfl ?_
    refine am_aload_n d_Ct_makeCourse_36 rfl (by first | exact am_rvR _ | exact am_rvN | assumption) ?_
    refine am_get d_Ct_makeCourse_37 f_Ct_90 hd2 (by rfl) ?_
    refine am_aload_n d_Ct_makeCourse_40 rfl (by first | exact am_rvR _ | exact am_rvN | assumption) ?_
    refine am_get d_Ct_makeCourse_41 f_Ct_93 hd2 (by rfl) ?_
    refine am_aload_n d_Ct_makeCourse_44 rfl (by first | exact am_rvR _ | exact am_rvN | assumption) ?_
    refine am_cI (b := S1.2.1) d_Ct_makeCourse_45 i_Ct_139 (vs := [.int (nI f), .int (nI t), .ref dd]) (st := [.ref S1.2.1]) rfl rfl (by decide) (Nat.le_of_ble_eq_true rfl) (mk_Co hW (by decide) hb0 _ _ _) ?_
    rintro v S2 ⟨rfl, rfl⟩
    rw [am_up_mk]
    obtain ⟨s2, e2, ⟨c2, b21, b22⟩, hS2⟩ : ∃ s2 : cl_S, s2.1 = s1.1 ∧ (s2.2.1 = s1.2.1 ∧ s2.2.2.1 = s1.2.2.1 + 1 ∧ s2.2.2.2 = s1.2.2.2 + 8) ∧ cl_P e nw ns room idle A s2 (am_mk S1 73 8 (.inr (am_cCo, [.int (nI f), .int (nI t), .int 2, .ref nw, .ref dd, .int 0, .int 0, .int 0]))) := ⟨cl_bg s1 1 8, rfl, ⟨rfl, rfl, rfl⟩, hS1.more (am_fr.mk _ _ _ _ o1) (am_co.mk _ _ _ _)⟩
    have hf2 : am_fr cl_X S1 (am_mk S1 73 8 (.inr (am_cCo, [.int (nI f), .int (nI t), .int 2, .ref nw, .ref dd, .int 0, .int 0, .int 0]))) := am_fr.mk _ _ _ _ o1
    have hd3 : (am_mk S1 73 8 (.inr (am_cCo, [.int (nI f), .int (nI t), .int 2, .ref nw, .ref dd, .int 0, .int 0, .int 0]))).1 dd = _ := am_mk_old hd1 o1
    have hq2 : (am_mk S1 73 8 (.inr (am_cCo, [.int (nI f), .int (nI t), .int 2, .ref nw, .ref dd, .int 0, .int 0, .int 0]))).1 q = _ := am_mk_old hq o1
    have hel : cl_el 7 S1.2.1 [nI f, nI t, 2, 0, 0, 0, 1, nr] (am_mk S1 73 8 (.inr (am_cCo, [.int (nI f), .int (nI t), .int 2, .ref nw, .ref dd, .int 0, .int 0, .int 0]))) := by
      unfold cl_el
      rw [if_neg (by decide), if_pos rfl]
      exact (cl_co_iff (way := [])).mpr ⟨nw, .ref dd, am_mk_at _ _ _ _, hS2.2.1.2.1, Or.inr ⟨by decide, dd, rfl, hd3⟩⟩
    refine am_astore_n (L1 := [_, _, _, _]) d_Ct_makeCourse_48 (by decide) (by first | exact am_rvR _ | exact am_rvN | assumption) rfl ?_
    refine am_aload_n d_Ct_makeCourse_49 rfl (by first | exact am_rvR _ | exact am_rvN | assumption) ?_
    refine am_get d_Ct_makeCourse_50 f_Ct_29 (cl_ctl hS2) (by rfl) ?_
    refine am_aload_n d_Ct_makeCourse_53 rfl (by first | exact am_rvR _ | exact am_rvN | assumption) ?_
    refine am_cV (b := A 7) d_Ct_makeCourse_54 v_Ct_131 (vs := [.ref S1.2.1]) (st := []) rfl rfl (by decide) (Nat.le_of_ble_eq_true rfl) (cl_list hS2 hL).1.choose_spec.choose_spec.choose_spec.choose_spec.1 (cl_addQ (row := [nI f, nI t, 2, 0, 0, 0, 1, nr]) hn he hS2 hL (by rw [e2, e1]; omega) hel (fun _ => by rw [c2]; exact cl_fresh hn hS1 hL)) ?_
    rintro v S3 ⟨rfl, s3, e3, ⟨c3, b31, b32⟩, hS3, hf3⟩
    have hl7 := (cl_list hS hL).2.1
    have e37 : s3.1 7 = s.1 7 ++ [[nI f, nI t, 2, 0, 0, 0, 1, nr]] := by rw [e3, e2, e1]; exact fc_up_same _ _ _
    have hr3 : (s3.1 7)[(s.1 7).length]? = some ([nI f, nI t, 2, 0, 0, 0, 1, nr] ++ ([] : List Int32)) := by rw [e37, List.getElem?_append_right (Nat.le_refl _), Nat.sub_self]; rfl
    have hk3 := (List.getElem?_eq_some_iff.mp hr3).1
    have ha3 : (s3.2.1 7)[(s.1 7).length]? = some S1.2.1 := by rw [c3, c2, b11, ← hl7, List.getElem?_append_right (Nat.le_refl _), Nat.sub_self]; rfl
    obtain ⟨a', w0, kv, ha', ho3, hw3, hkv3⟩ := cl_cr2 hS3 hr3
    cases ha3.symm.trans ha'
    have hq3 := hf3.keep hq2 (fun z => by unfold cl_X at z; omega)
    refine am_pop d_Ct_makeCourse_57 rfl ?_
    refine am_aload_n d_Ct_makeCourse_58 rfl (by first | exact am_rvR _ | exact am_rvN | assumption) ?_
    refine am_aload_n d_Ct_makeCourse_59 rfl (by first | exact am_rvR _ | exact am_rvN | assumption) ?_
    refine am_cV (b := S1.2.1) d_Ct_makeCourse_60 v_Ct_141 (vs := [.ref q]) (st := []) rfl rfl (by decide) (Nat.le_of_ble_eq_true rfl) ho3 (co_begin ho3 hq3) ?_
    rintro v S4 ⟨rfl, rfl⟩
    obtain ⟨s4, e4, b4, hS4, hf4⟩ := cl_setQ (st := 2) (wv := 0) (aw := 0) (ld := nI (fc_wayOf ns s.1 (nI f) (nI t)).length) hS3 ha3 hk3 ho3 hq3 hkv3
    obtain ⟨m, hm, hx⟩ := fc_last (by assumption) hwe
    have hi : m / 4 < ns := by omega
    have hr4 : (s4.1 7)[(s.1 7).length]? = some ([nI f, nI t, 2, 0, 0, nI ((fc_wayOf ns s.1 (nI f) (nI t)).length - 1 + 1), 1, nr] ++ (fc_wayOf ns s.1 (nI f) (nI t))) := by rw [e4, fc_up_same, List.getElem?_set_self hk3, show (fc_wayOf ns s.1 (nI f) (nI t)).length - 1 + 1 = (fc_wayOf ns s.1 (nI f) (nI t)).length by omega]
    have h24 : s4.1 2 = [[x0]] := by rw [e4, fc_up_ne _ (by omega), e3, e2, e1]; exact (fc_up_ne _ (by omega)).trans h2
    have hl4 : (s4.1 (30 + m / 4)).length + 2 < 60 := by
      have z := hlen _ hi
      rw [e4, fc_up_ne _ (by omega), e3, e2, e1, show fc_add s.1 7 [nI f, nI t, 2, 0, 0, 0, 1, nr] (30 + m / 4) = s.1 (30 + m / 4) from fc_up_ne _ (by omega)]
      exact z
    refine am_aload_n d_Ct_makeCourse_63 rfl (by first | exact am_rvR _ | exact am_rvN | assumption) ?_
    refine am_aload_n d_Ct_makeCourse_64 rfl (by first | exact am_rvR _ | exact am_rvN | assumption) ?_
    refine am_cV (b := A 2) d_Ct_makeCourse_65 v_Ct_145 (vs := [.ref S1.2.1]) (st := []) rfl rfl (by decide) (Nat.le_of_ble_eq_true rfl) (cl_ctl hS4) (ct_lead hn he hS4 h24 hr4 (by rw [b4]; exact ha3) hw5 hx hm hl4) ?_
    rintro v S5 ⟨rfl, s5, e5, ⟨b51, b52⟩, hS5, hf5⟩
    rw [b4] at b51 b52
    refine am_vret d_Ct_makeCourse_68 rfl ?_
    first
      | (refine ⟨rfl, s5, ?_, ⟨by omega, by omega⟩, hS5, ((((hf1.trans hf2).trans hf3).trans hf4).trans hf5)⟩
         unfold fc_make fc_len
         rw [if_neg (by omega), if_neg (by rw [List.isEmpty_iff_length_eq_zero]; assumption), e5, e4]
         rw [e3, e2, e1] at hr3 ⊢
         exact (fc_lay_row hr3 _).symm)
      | (refine ⟨rfl, s1, ?_, ⟨by omega, by omega⟩, hS1, hf1⟩
         unfold fc_make fc_len
         rw [if_neg (by omega), if_pos (by rw [List.isEmpty_iff_length_eq_zero]; assumption), e1])
  · refine am_vret d_Ct_makeCourse_31 rfl ?_
    first
      | (refine ⟨rfl, s5, ?_, ⟨by omega, by omega⟩, hS5, ((((hf1.trans hf2).trans hf3).trans hf4).trans hf5)⟩
         unfold fc_make fc_len
         rw [if_neg (by omega), if_neg (by rw [List.isEmpty_iff_length_eq_zero]; assumption), e5, e4]
         rw [e3, e2, e1] at hr3 ⊢
         exact (fc_lay_row hr3 _).symm)
      | (refine ⟨rfl, s1, ?_, ⟨by omega, by omega⟩, hS1, hf1⟩
         unfold fc_make fc_len
         rw [if_neg (by omega), if_pos (by rw [List.isEmpty_iff_length_eq_zero]; assumption), e1])
end CTL
