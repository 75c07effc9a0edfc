/-! the class: a port, the controller, at the start -/
section CIA
variable {g : am_G} {e nw ns room idle : Nat} {A : Nat → Nat} {s : cl_S} {S : am_S}
theorem mk_Pt (he : am_gE g e) {a t : Nat} (tw : Nat) (htw : tw ≠ 0) (ht : t ≠ 0) (o : am_ok S) (ha : S.1 a = some (t, .inr (am_cPt, [.null, .null, .int 0, .int 0]))) : am_M g y_Pt_new "()V" 4 74 [.ref a] S (fun v S' => v = none ∧ S' = am_up (am_mk S tw 3 (.inr (am_cAL, [.int 0, .ref e, .int 0]))) a t (.inr (am_cPt, [.ref S.2.1, .null, .int (-1), .int 0]))) := by
  refine am_Mof (L0 := [some (.ref a)]) pl_Pt_new (am_k1 rfl am_k0) (Nat.le_of_ble_eq_true rfl) rfl ?_
  refine am_aload_n d_Pt_new_0 rfl (by first | exact am_rvR _ | exact am_rvN | assumption) ?_
  refine am_objInit d_Pt_new_1 o_Pt_3 o_hi o_hc (by decide) (Nat.le_of_ble_eq_true rfl) ?_
  refine am_aload_n d_Pt_new_4 rfl (by first | exact am_rvR _ | exact am_rvN | assumption) ?_
  refine am_nw tw d_Pt_new_5 n_Pt_9 df_AL ?_
  have hb0 := am_mk_at S tw 3 (.inr (am_cAL, [.int 0, .null, .int 0]))
  refine am_dup d_Pt_new_8 rfl ?_
  refine am_cI (b := S.2.1) d_Pt_new_9 i_Pt_11 (vs := []) (st := [.ref S.2.1, .ref a]) rfl rfl (by decide) (Nat.le_of_ble_eq_true rfl) (al_new hb0 htw he) ?_
  rintro v S2 ⟨rfl, rfl⟩
  rw [am_up_mk]
  have ha1 := am_mk_old (t := tw) (n := 3) (x := (.inr (am_cAL, [.int 0, .ref e, .int 0]))) ha o
  refine am_put _ d_Pt_new_12 f_Pt_12 p_Pt_12 ha1 ht rfl rfl ?_
  refine am_aload_n d_Pt_new_15 rfl (by first | exact am_rvR _ | exact am_rvN | assumption) ?_
  refine am_null d_Pt_new_16 ?_
  refine am_put _ d_Pt_new_17 f_Pt_18 (p_Pt_18 _) (am_up_at _ _ _ _) ht rfl rfl ?_
  refine am_aload_n d_Pt_new_20 rfl (by first | exact am_rvR _ | exact am_rvN | assumption) ?_
  refine am_iconst (v := (-1)) d_Pt_new_21 (by decide) ?_
  refine am_put _ d_Pt_new_22 f_Pt_22 (p_Pt_22 _) (am_up_at _ _ _ _) ht rfl rfl ?_
  refine am_aload_n d_Pt_new_25 rfl (by first | exact am_rvR _ | exact am_rvN | assumption) ?_
  refine am_iconst (v := (0)) d_Pt_new_26 (by decide) ?_
  refine am_put _ d_Pt_new_27 f_Pt_26 (p_Pt_26 _) (am_up_at _ _ _ _) ht rfl rfl ?_
  refine am_vret d_Pt_new_30 rfl ?_
  exact ⟨rfl, by simp only [am_up_up]; rfl⟩
def ci_X (t : Nat) : Prop := 20 ≤ t ∧ t ≤ 80
theorem mk_Ct (hn : ns ≤ 5) (he : am_gE g e) {a na : Nat} {xs : List Value} (hx : xs.length = ns) (o : am_ok S) (fct_0 : S.1 a = some (21, (.inr (am_cCt, [.null, .null, .null, .null, .null, .null, .int 0])))) (fna_0 : S.1 na = some (0, .inl (am_kN, xs))) : am_M g y_Ct_new "([LFlowFabric$Node;)V" 4 74 [.ref a, .ref na] S (fun v S' => v = none ∧ (S'.2.1 = S.2.1 + 5 ∧ S'.2.2 = S.2.2 + (9 * ns + 9)) ∧ S'.1 a = some (21, (.inr (am_cCt, [.ref na, .ref S.2.1, .ref (S.2.1 + 1), .ref (S.2.1 + 2), .ref (S.2.1 + 3), .ref (S.2.1 + 4), .int 0]))) ∧ S'.1 S.2.1 = some (31, .inl (am_kI, List.replicate (4 * ns) (.int (-1)))) ∧ S'.1 (S.2.1 + 1) = some (41, .inl (am_kZ, List.replicate (4 * ns) (.int 0))) ∧ S'.1 (S.2.1 + 2) = some (51, .inl (am_kI, List.replicate 6 (.int (-1)))) ∧ S'.1 (S.2.1 + 3) = some (71, (.inr (am_cAL, [.int 0, .ref e, .int 0]))) ∧ S'.1 (S.2.1 + 4) = some (61, .inl (am_kI, List.replicate ns (.int 0))) ∧ am_fr ci_X S S') := by
  refine am_Mof (L0 := [some (.ref a), some (.ref na), none]) pl_Ct_new (am_k1 rfl (am_k1 rfl am_k0)) (Nat.le_of_ble_eq_true rfl) rfl ?_
  refine am_aload_n d_Ct_new_0 rfl (by first | exact am_rvR _ | exact am_rvN | assumption) ?_
  refine am_objInit d_Ct_new_1 o_Ct_3 o_hi o_hc (by decide) (Nat.le_of_ble_eq_true rfl) ?_
  refine am_aload_n d_Ct_new_4 rfl (by first | exact am_rvR _ | exact am_rvN | assumption) ?_
  refine am_alen (v := nI ns) d_Ct_new_5 am_kN_ok fna_0 (by rw [hx]; rfl) ?_
  refine am_iconst (v := nI 4) d_Ct_new_6 (by decide) ?_
  refine am_imulN d_Ct_new_7 ?_
  rw [show ns * 4 = 4 * ns by omega]
  refine am_istore_n (L1 := [_, _, _]) d_Ct_new_8 (by decide) rfl ?_
  refine am_aload_n d_Ct_new_9 rfl (by first | exact am_rvR _ | exact am_rvN | assumption) ?_
  refine am_aload_n d_Ct_new_10 rfl (by first | exact am_rvR _ | exact am_rvN | assumption) ?_
  refine am_put _ d_Ct_new_11 f_Ct_9 p_Ct_9 fct_0 (by decide) rfl rfl ?_
  obtain ⟨T1, eT1⟩ : ∃ q, q = am_up S a 21 (.inr (am_cCt, [.ref na, .null, .null, .null, .null, .null, .int 0])) := ⟨_, rfl⟩
  have zT1 : T1.2.1 = S.2.1 ∧ T1.2.2 = S.2.2 := by rw [eT1]; exact ⟨rfl, rfl⟩
  have fna_1 : T1.1 na = some (0, (.inl (am_kN, xs))) := by rw [eT1]; exact am_up_tag fna_0 fct_0 (by decide)
  have fct_1 : T1.1 a = some (21, (.inr (am_cCt, [.ref na, .null, .null, .null, .null, .null, .int 0]))) := by rw [eT1]; exact am_up_at _ _ _ _
  have rT1 : am_fr ci_X S T1 := by rw [eT1]; exact am_fr.up fct_0 (by unfold ci_X; decide)
  have oT1 : am_ok T1 := rT1.2.2.2 o
  change am_W g _ _ _ _ _ _ _ (am_up S a 21 (.inr (am_cCt, [.ref na, .null, .null, .null, .null, .null, .int 0])))
  rw [← eT1]
  refine am_aload_n d_Ct_new_14 rfl (by first | exact am_rvR _ | exact am_rvN | assumption) ?_
  refine am_iload_n d_Ct_new_15 rfl ?_
  refine am_newi (t := am_kI) (N := 4 * ns) (v := .int 0) 31 d_Ct_new_16 am_kI_ok (nI_pos (n := 4 * ns) (by omega)) (nI_clamp (by omega)) (by show 4 * ns * 4 ≤ 536870912; omega) rfl ?_
  obtain ⟨T2, eT2⟩ : ∃ q, q = am_mk T1 31 (4 * ns) (.inl (am_kI, List.replicate (4 * ns) (.int 0))) := ⟨_, rfl⟩
  have zT2 : T2.2.1 = T1.2.1 + 1 ∧ T2.2.2 = T1.2.2 + (4 * ns) := by rw [eT2]; exact ⟨rfl, rfl⟩
  have fct_2 : T2.1 a = some (21, (.inr (am_cCt, [.ref na, .null, .null, .null, .null, .null, .int 0]))) := by rw [eT2]; exact am_mk_old fct_1 oT1
  have fna_2 : T2.1 na = some (0, (.inl (am_kN, xs))) := by rw [eT2]; exact am_mk_old fna_1 oT1
  have foe_2 : T2.1 T1.2.1 = some (31, (.inl (am_kI, List.replicate (4 * ns) (.int 0)))) := by rw [eT2]; exact am_mk_at _ _ _ _
  have oT2 : am_ok T2 := by rw [eT2]; exact (am_fr.mk (fun _ => False) _ _ _ oT1).2.2.2 oT1
  have rT2 : am_fr ci_X T1 T2 := by rw [eT2]; exact am_fr.mk _ _ _ _ oT1
  change am_W g _ _ _ _ _ _ _ (am_mk T1 31 (4 * ns) (.inl (am_kI, List.replicate (4 * ns) (.int 0))))
  rw [← eT2]
  refine am_put _ d_Ct_new_18 f_Ct_15 p_Ct_15 fct_2 (by decide) rfl rfl ?_
  obtain ⟨T3, eT3⟩ : ∃ q, q = am_up T2 a 21 (.inr (am_cCt, [.ref na, .ref T1.2.1, .null, .null, .null, .null, .int 0])) := ⟨_, rfl⟩
  have zT3 : T3.2.1 = T2.2.1 ∧ T3.2.2 = T2.2.2 := by rw [eT3]; exact ⟨rfl, rfl⟩
  have fna_3 : T3.1 na = some (0, (.inl (am_kN, xs))) := by rw [eT3]; exact am_up_tag fna_2 fct_2 (by decide)
  have foe_3 : T3.1 T1.2.1 = some (31, (.inl (am_kI, List.replicate (4 * ns) (.int 0)))) := by rw [eT3]; exact am_up_tag foe_2 fct_2 (by decide)
  have fct_3 : T3.1 a = some (21, (.inr (am_cCt, [.ref na, .ref T1.2.1, .null, .null, .null, .null, .int 0]))) := by rw [eT3]; exact am_up_at _ _ _ _
  have rT3 : am_fr ci_X T2 T3 := by rw [eT3]; exact am_fr.up fct_2 (by unfold ci_X; decide)
  have oT3 : am_ok T3 := rT3.2.2.2 oT2
  change am_W g _ _ _ _ _ _ _ (am_up T2 a 21 (.inr (am_cCt, [.ref na, .ref T1.2.1, .null, .null, .null, .null, .int 0])))
  rw [← eT3]
  refine am_aload_n d_Ct_new_21 rfl (by first | exact am_rvR _ | exact am_rvN | assumption) ?_
  refine am_iload_n d_Ct_new_22 rfl ?_
  refine am_newi (t := am_kZ) (N := 4 * ns) (v := .int 0) 41 d_Ct_new_23 am_kZ_ok (nI_pos (n := 4 * ns) (by omega)) (nI_clamp (by omega)) (by show 4 * ns * 1 ≤ 536870912; omega) rfl ?_
  obtain ⟨T4, eT4⟩ : ∃ q, q = am_mk T3 41 (4 * ns) (.inl (am_kZ, List.replicate (4 * ns) (.int 0))) := ⟨_, rfl⟩
  have zT4 : T4.2.1 = T3.2.1 + 1 ∧ T4.2.2 = T3.2.2 + (4 * ns) := by rw [eT4]; exact ⟨rfl, rfl⟩
  have fct_4 : T4.1 a = some (21, (.inr (am_cCt, [.ref na, .ref T1.2.1, .null, .null, .null, .null, .int 0]))) := by rw [eT4]; exact am_mk_old fct_3 oT3
  have fna_4 : T4.1 na = some (0, (.inl (am_kN, xs))) := by rw [eT4]; exact am_mk_old fna_3 oT3
  have foe_4 : T4.1 T1.2.1 = some (31, (.inl (am_kI, List.replicate (4 * ns) (.int 0)))) := by rw [eT4]; exact am_mk_old foe_3 oT3
  have fmk_4 : T4.1 T3.2.1 = some (41, (.inl (am_kZ, List.replicate (4 * ns) (.int 0)))) := by rw [eT4]; exact am_mk_at _ _ _ _
  have oT4 : am_ok T4 := by rw [eT4]; exact (am_fr.mk (fun _ => False) _ _ _ oT3).2.2.2 oT3
  have rT4 : am_fr ci_X T3 T4 := by rw [eT4]; exact am_fr.mk _ _ _ _ oT3
  change am_W g _ _ _ _ _ _ _ (am_mk T3 41 (4 * ns) (.inl (am_kZ, List.replicate (4 * ns) (.int 0))))
  rw [← eT4]
  refine am_put _ d_Ct_new_25 f_Ct_19 p_Ct_19 fct_4 (by decide) rfl rfl ?_
  obtain ⟨T5, eT5⟩ : ∃ q, q = am_up T4 a 21 (.inr (am_cCt, [.ref na, .ref T1.2.1, .ref T3.2.1, .null, .null, .null, .int 0])) := ⟨_, rfl⟩
  have zT5 : T5.2.1 = T4.2.1 ∧ T5.2.2 = T4.2.2 := by rw [eT5]; exact ⟨rfl, rfl⟩
  have fna_5 : T5.1 na = some (0, (.inl (am_kN, xs))) := by rw [eT5]; exact am_up_tag fna_4 fct_4 (by decide)
  have foe_5 : T5.1 T1.2.1 = some (31, (.inl (am_kI, List.replicate (4 * ns) (.int 0)))) := by rw [eT5]; exact am_up_tag foe_4 fct_4 (by decide)
  have fmk_5 : T5.1 T3.2.1 = some (41, (.inl (am_kZ, List.replicate (4 * ns) (.int 0)))) := by rw [eT5]; exact am_up_tag fmk_4 fct_4 (by decide)
  have fct_5 : T5.1 a = some (21, (.inr (am_cCt, [.ref na, .ref T1.2.1, .ref T3.2.1, .null, .null, .null, .int 0]))) := by rw [eT5]; exact am_up_at _ _ _ _
  have rT5 : am_fr ci_X T4 T5 := by rw [eT5]; exact am_fr.up fct_4 (by unfold ci_X; decide)
  have oT5 : am_ok T5 := rT5.2.2.2 oT4
  change am_W g _ _ _ _ _ _ _ (am_up T4 a 21 (.inr (am_cCt, [.ref na, .ref T1.2.1, .ref T3.2.1, .null, .null, .null, .int 0])))
  rw [← eT5]
  refine am_aload_n d_Ct_new_28 rfl (by first | exact am_rvR _ | exact am_rvN | assumption) ?_
  refine am_bipush (v := nI 6) d_Ct_new_29 (by decide) ?_
  refine am_newi (t := am_kI) (N := 6) (v := .int 0) 51 d_Ct_new_31 am_kI_ok (nI_pos (n := 6) (by omega)) (nI_clamp (by omega)) (by show 6 * 4 ≤ 536870912; omega) rfl ?_
  obtain ⟨T6, eT6⟩ : ∃ q, q = am_mk T5 51 (6) (.inl (am_kI, List.replicate (6) (.int 0))) := ⟨_, rfl⟩
  have zT6 : T6.2.1 = T5.2.1 + 1 ∧ T6.2.2 = T5.2.2 + (6) := by rw [eT6]; exact ⟨rfl, rfl⟩
  have fct_6 : T6.1 a = some (21, (.inr (am_cCt, [.ref na, .ref T1.2.1, .ref T3.2.1, .null, .null, .null, .int 0]))) := by rw [eT6]; exact am_mk_old fct_5 oT5
  have fna_6 : T6.1 na = some (0, (.inl (am_kN, xs))) := by rw [eT6]; exact am_mk_old fna_5 oT5
  have foe_6 : T6.1 T1.2.1 = some (31, (.inl (am_kI, List.replicate (4 * ns) (.int 0)))) := by rw [eT6]; exact am_mk_old foe_5 oT5
  have fmk_6 : T6.1 T3.2.1 = some (41, (.inl (am_kZ, List.replicate (4 * ns) (.int 0)))) := by rw [eT6]; exact am_mk_old fmk_5 oT5
  have fpl_6 : T6.1 T5.2.1 = some (51, (.inl (am_kI, List.replicate (6) (.int 0)))) := by rw [eT6]; exact am_mk_at _ _ _ _
  have oT6 : am_ok T6 := by rw [eT6]; exact (am_fr.mk (fun _ => False) _ _ _ oT5).2.2.2 oT5
  have rT6 : am_fr ci_X T5 T6 := by rw [eT6]; exact am_fr.mk _ _ _ _ oT5
  change am_W g _ _ _ _ _ _ _ (am_mk T5 51 (6) (.inl (am_kI, List.replicate (6) (.int 0))))
  rw [← eT6]
  refine am_put _ d_Ct_new_33 f_Ct_23 p_Ct_23 fct_6 (by decide) rfl rfl ?_
  obtain ⟨T7, eT7⟩ : ∃ q, q = am_up T6 a 21 (.inr (am_cCt, [.ref na, .ref T1.2.1, .ref T3.2.1, .ref T5.2.1, .null, .null, .int 0])) := ⟨_, rfl⟩
  have zT7 : T7.2.1 = T6.2.1 ∧ T7.2.2 = T6.2.2 := by rw [eT7]; exact ⟨rfl, rfl⟩
  have fna_7 : T7.1 na = some (0, (.inl (am_kN, xs))) := by rw [eT7]; exact am_up_tag fna_6 fct_6 (by decide)
  have foe_7 : T7.1 T1.2.1 = some (31, (.inl (am_kI, List.replicate (4 * ns) (.int 0)))) := by rw [eT7]; exact am_up_tag foe_6 fct_6 (by decide)
  have fmk_7 : T7.1 T3.2.1 = some (41, (.inl (am_kZ, List.replicate (4 * ns) (.int 0)))) := by rw [eT7]; exact am_up_tag fmk_6 fct_6 (by decide)
  have fpl_7 : T7.1 T5.2.1 = some (51, (.inl (am_kI, List.replicate (6) (.int 0)))) := by rw [eT7]; exact am_up_tag fpl_6 fct_6 (by decide)
  have fct_7 : T7.1 a = some (21, (.inr (am_cCt, [.ref na, .ref T1.2.1, .ref T3.2.1, .ref T5.2.1, .null, .null, .int 0]))) := by rw [eT7]; exact am_up_at _ _ _ _
  have rT7 : am_fr ci_X T6 T7 := by rw [eT7]; exact am_fr.up fct_6 (by unfold ci_X; decide)
  have oT7 : am_ok T7 := rT7.2.2.2 oT6
  change am_W g _ _ _ _ _ _ _ (am_up T6 a 21 (.inr (am_cCt, [.ref na, .ref T1.2.1, .ref T3.2.1, .ref T5.2.1, .null, .null, .int 0])))
  rw [← eT7]
  refine am_aload_n d_Ct_new_36 rfl (by first | exact am_rvR _ | exact am_rvN | assumption) ?_
  refine am_nw 71 d_Ct_new_37 n_Ct_26 df_AL ?_
  obtain ⟨T8, eT8⟩ : ∃ q, q = am_mk T7 71 (3) (.inr (am_cAL, [.int 0, .null, .int 0])) := ⟨_, rfl⟩
  have zT8 : T8.2.1 = T7.2.1 + 1 ∧ T8.2.2 = T7.2.2 + (3) := by rw [eT8]; exact ⟨rfl, rfl⟩
  have fct_8 : T8.1 a = some (21, (.inr (am_cCt, [.ref na, .ref T1.2.1, .ref T3.2.1, .ref T5.2.1, .null, .null, .int 0]))) := by rw [eT8]; exact am_mk_old fct_7 oT7
  have fna_8 : T8.1 na = some (0, (.inl (am_kN, xs))) := by rw [eT8]; exact am_mk_old fna_7 oT7
  have foe_8 : T8.1 T1.2.1 = some (31, (.inl (am_kI, List.replicate (4 * ns) (.int 0)))) := by rw [eT8]; exact am_mk_old foe_7 oT7
  have fmk_8 : T8.1 T3.2.1 = some (41, (.inl (am_kZ, List.replicate (4 * ns) (.int 0)))) := by rw [eT8]; exact am_mk_old fmk_7 oT7
  have fpl_8 : T8.1 T5.2.1 = some (51, (.inl (am_kI, List.replicate (6) (.int 0)))) := by rw [eT8]; exact am_mk_old fpl_7 oT7
  have fco_8 : T8.1 T7.2.1 = some (71, (.inr (am_cAL, [.int 0, .null, .int 0]))) := by rw [eT8]; exact am_mk_at _ _ _ _
  have oT8 : am_ok T8 := by rw [eT8]; exact (am_fr.mk (fun _ => False) _ _ _ oT7).2.2.2 oT7
  have rT8 : am_fr ci_X T7 T8 := by rw [eT8]; exact am_fr.mk _ _ _ _ oT7
  change am_W g _ _ _ _ _ _ _ (am_mk T7 71 (3) (.inr (am_cAL, [.int 0, .null, .int 0])))
  rw [← eT8]
  refine am_dup d_Ct_new_40 rfl ?_
  refine am_cI (b := T7.2.1) d_Ct_new_41 i_Ct_28 (vs := []) (st := [.ref T7.2.1, .ref a]) rfl rfl (by decide) (Nat.le_of_ble_eq_true rfl) (al_new fco_8 (by decide) he) ?_
  rintro v S2 ⟨rfl, rfl⟩
  obtain ⟨T9, eT9⟩ : ∃ q, q = am_up T8 T7.2.1 71 (.inr (am_cAL, [.int 0, .ref e, .int 0])) := ⟨_, rfl⟩
  have zT9 : T9.2.1 = T8.2.1 ∧ T9.2.2 = T8.2.2 := by rw [eT9]; exact ⟨rfl, rfl⟩
  have fct_9 : T9.1 a = some (21, (.inr (am_cCt, [.ref na, .ref T1.2.1, .ref T3.2.1, .ref T5.2.1, .null, .null, .int 0]))) := by rw [eT9]; exact am_up_tag fct_8 fco_8 (by decide)
  have fna_9 : T9.1 na = some (0, (.inl (am_kN, xs))) := by rw [eT9]; exact am_up_tag fna_8 fco_8 (by decide)
  have foe_9 : T9.1 T1.2.1 = some (31, (.inl (am_kI, List.replicate (4 * ns) (.int 0)))) := by rw [eT9]; exact am_up_tag foe_8 fco_8 (by decide)
  have fmk_9 : T9.1 T3.2.1 = some (41, (.inl (am_kZ, List.replicate (4 * ns) (.int 0)))) := by rw [eT9]; exact am_up_tag fmk_8 fco_8 (by decide)
  have fpl_9 : T9.1 T5.2.1 = some (51, (.inl (am_kI, List.replicate (6) (.int 0)))) := by rw [eT9]; exact am_up_tag fpl_8 fco_8 (by decide)
  have fco_9 : T9.1 T7.2.1 = some (71, (.inr (am_cAL, [.int 0, .ref e, .int 0]))) := by rw [eT9]; exact am_up_at _ _ _ _
  have rT9 : am_fr ci_X T8 T9 := by rw [eT9]; exact am_fr.up fco_8 (by unfold ci_X; decide)
  have oT9 : am_ok T9 := rT9.2.2.2 oT8
  change am_W g _ _ _ _ _ _ _ (am_up T8 T7.2.1 71 (.inr (am_cAL, [.int 0, .ref e, .int 0])))
  rw [← eT9]
  refine am_put _ d_Ct_new_44 f_Ct_29 p_Ct_29 fct_9 (by decide) rfl rfl ?_
  obtain ⟨T10, eT10⟩ : ∃ q, q = am_up T9 a 21 (.inr (am_cCt, [.ref na, .ref T1.2.1, .ref T3.2.1, .ref T5.2.1, .ref T7.2.1, .null, .int 0])) := ⟨_, rfl⟩
  have zT10 : T10.2.1 = T9.2.1 ∧ T10.2.2 = T9.2.2 := by rw [eT10]; exact ⟨rfl, rfl⟩
  have fna_10 : T10.1 na = some (0, (.inl (am_kN, xs))) := by rw [eT10]; exact am_up_tag fna_9 fct_9 (by decide)
  have foe_10 : T10.1 T1.2.1 = some (31, (.inl (am_kI, List.replicate (4 * ns) (.int 0)))) := by rw [eT10]; exact am_up_tag foe_9 fct_9 (by decide)
  have fmk_10 : T10.1 T3.2.1 = some (41, (.inl (am_kZ, List.replicate (4 * ns) (.int 0)))) := by rw [eT10]; exact am_up_tag fmk_9 fct_9 (by decide)
  have fpl_10 : T10.1 T5.2.1 = some (51, (.inl (am_kI, List.replicate (6) (.int 0)))) := by rw [eT10]; exact am_up_tag fpl_9 fct_9 (by decide)
  have fco_10 : T10.1 T7.2.1 = some (71, (.inr (am_cAL, [.int 0, .ref e, .int 0]))) := by rw [eT10]; exact am_up_tag fco_9 fct_9 (by decide)
  have fct_10 : T10.1 a = some (21, (.inr (am_cCt, [.ref na, .ref T1.2.1, .ref T3.2.1, .ref T5.2.1, .ref T7.2.1, .null, .int 0]))) := by rw [eT10]; exact am_up_at _ _ _ _
  have rT10 : am_fr ci_X T9 T10 := by rw [eT10]; exact am_fr.up fct_9 (by unfold ci_X; decide)
  have oT10 : am_ok T10 := rT10.2.2.2 oT9
  change am_W g _ _ _ _ _ _ _ (am_up T9 a 21 (.inr (am_cCt, [.ref na, .ref T1.2.1, .ref T3.2.1, .ref T5.2.1, .ref T7.2.1, .null, .int 0])))
  rw [← eT10]
  refine am_aload_n d_Ct_new_47 rfl (by first | exact am_rvR _ | exact am_rvN | assumption) ?_
  refine am_aload_n d_Ct_new_48 rfl (by first | exact am_rvR _ | exact am_rvN | assumption) ?_
  refine am_alen (v := nI ns) d_Ct_new_49 am_kN_ok fna_10 (by rw [hx]; rfl) ?_
  refine am_newi (t := am_kI) (N := ns) (v := .int 0) 61 d_Ct_new_50 am_kI_ok (nI_pos (n := ns) (by omega)) (nI_clamp (by omega)) (by show ns * 4 ≤ 536870912; omega) rfl ?_
  obtain ⟨T11, eT11⟩ : ∃ q, q = am_mk T10 61 (ns) (.inl (am_kI, List.replicate (ns) (.int 0))) := ⟨_, rfl⟩
  have zT11 : T11.2.1 = T10.2.1 + 1 ∧ T11.2.2 = T10.2.2 + (ns) := by rw [eT11]; exact ⟨rfl, rfl⟩
  have fct_11 : T11.1 a = some (21, (.inr (am_cCt, [.ref na, .ref T1.2.1, .ref T3.2.1, .ref T5.2.1, .ref T7.2.1, .null, .int 0]))) := by rw [eT11]; exact am_mk_old fct_10 oT10
  have fna_11 : T11.1 na = some (0, (.inl (am_kN, xs))) := by rw [eT11]; exact am_mk_old fna_10 oT10
  have foe_11 : T11.1 T1.2.1 = some (31, (.inl (am_kI, List.replicate (4 * ns) (.int 0)))) := by rw [eT11]; exact am_mk_old foe_10 oT10
  have fmk_11 : T11.1 T3.2.1 = some (41, (.inl (am_kZ, List.replicate (4 * ns) (.int 0)))) := by rw [eT11]; exact am_mk_old fmk_10 oT10
  have fpl_11 : T11.1 T5.2.1 = some (51, (.inl (am_kI, List.replicate (6) (.int 0)))) := by rw [eT11]; exact am_mk_old fpl_10 oT10
  have fco_11 : T11.1 T7.2.1 = some (71, (.inr (am_cAL, [.int 0, .ref e, .int 0]))) := by rw [eT11]; exact am_mk_old fco_10 oT10
  have fsp_11 : T11.1 T10.2.1 = some (61, (.inl (am_kI, List.replicate (ns) (.int 0)))) := by rw [eT11]; exact am_mk_at _ _ _ _
  have oT11 : am_ok T11 := by rw [eT11]; exact (am_fr.mk (fun _ => False) _ _ _ oT10).2.2.2 oT10
  have rT11 : am_fr ci_X T10 T11 := by rw [eT11]; exact am_fr.mk _ _ _ _ oT10
  change am_W g _ _ _ _ _ _ _ (am_mk T10 61 (ns) (.inl (am_kI, List.replicate (ns) (.int 0))))
  rw [← eT11]
  refine am_put _ d_Ct_new_52 f_Ct_33 p_Ct_33 fct_11 (by decide) rfl rfl ?_
  obtain ⟨T12, eT12⟩ : ∃ q, q = am_up T11 a 21 (.inr (am_cCt, [.ref na, .ref T1.2.1, .ref T3.2.1, .ref T5.2.1, .ref T7.2.1, .ref T10.2.1, .int 0])) := ⟨_, rfl⟩
  have zT12 : T12.2.1 = T11.2.1 ∧ T12.2.2 = T11.2.2 := by rw [eT12]; exact ⟨rfl, rfl⟩
  have fna_12 : T12.1 na = some (0, (.inl (am_kN, xs))) := by rw [eT12]; exact am_up_tag fna_11 fct_11 (by decide)
  have foe_12 : T12.1 T1.2.1 = some (31, (.inl (am_kI, List.replicate (4 * ns) (.int 0)))) := by rw [eT12]; exact am_up_tag foe_11 fct_11 (by decide)
  have fmk_12 : T12.1 T3.2.1 = some (41, (.inl (am_kZ, List.replicate (4 * ns) (.int 0)))) := by rw [eT12]; exact am_up_tag fmk_11 fct_11 (by decide)
  have fpl_12 : T12.1 T5.2.1 = some (51, (.inl (am_kI, List.replicate (6) (.int 0)))) := by rw [eT12]; exact am_up_tag fpl_11 fct_11 (by decide)
  have fco_12 : T12.1 T7.2.1 = some (71, (.inr (am_cAL, [.int 0, .ref e, .int 0]))) := by rw [eT12]; exact am_up_tag fco_11 fct_11 (by decide)
  have fsp_12 : T12.1 T10.2.1 = some (61, (.inl (am_kI, List.replicate (ns) (.int 0)))) := by rw [eT12]; exact am_up_tag fsp_11 fct_11 (by decide)
  have fct_12 : T12.1 a = some (21, (.inr (am_cCt, [.ref na, .ref T1.2.1, .ref T3.2.1, .ref T5.2.1, .ref T7.2.1, .ref T10.2.1, .int 0]))) := by rw [eT12]; exact am_up_at _ _ _ _
  have rT12 : am_fr ci_X T11 T12 := by rw [eT12]; exact am_fr.up fct_11 (by unfold ci_X; decide)
  have oT12 : am_ok T12 := rT12.2.2.2 oT11
  change am_W g _ _ _ _ _ _ _ (am_up T11 a 21 (.inr (am_cCt, [.ref na, .ref T1.2.1, .ref T3.2.1, .ref T5.2.1, .ref T7.2.1, .ref T10.2.1, .int 0])))
  rw [← eT12]
  refine am_aload_n d_Ct_new_55 rfl (by first | exact am_rvR _ | exact am_rvN | assumption) ?_
  refine am_iconst (v := (0 : Int32)) d_Ct_new_56 (by decide) ?_
  refine am_put _ d_Ct_new_57 f_Ct_36 (p_Ct_36 _) fct_12 (by decide) rfl rfl ?_
  obtain ⟨T13, eT13⟩ : ∃ q, q = am_up T12 a 21 (.inr (am_cCt, [.ref na, .ref T1.2.1, .ref T3.2.1, .ref T5.2.1, .ref T7.2.1, .ref T10.2.1, .int 0])) := ⟨_, rfl⟩
  have zT13 : T13.2.1 = T12.2.1 ∧ T13.2.2 = T12.2.2 := by rw [eT13]; exact ⟨rfl, rfl⟩
  have fna_13 : T13.1 na = some (0, (.inl (am_kN, xs))) := by rw [eT13]; exact am_up_tag fna_12 fct_12 (by decide)
  have foe_13 : T13.1 T1.2.1 = some (31, (.inl (am_kI, List.replicate (4 * ns) (.int 0)))) := by rw [eT13]; exact am_up_tag foe_12 fct_12 (by decide)
  have fmk_13 : T13.1 T3.2.1 = some (41, (.inl (am_kZ, List.replicate (4 * ns) (.int 0)))) := by rw [eT13]; exact am_up_tag fmk_12 fct_12 (by decide)
  have fpl_13 : T13.1 T5.2.1 = some (51, (.inl (am_kI, List.replicate (6) (.int 0)))) := by rw [eT13]; exact am_up_tag fpl_12 fct_12 (by decide)
  have fco_13 : T13.1 T7.2.1 = some (71, (.inr (am_cAL, [.int 0, .ref e, .int 0]))) := by rw [eT13]; exact am_up_tag fco_12 fct_12 (by decide)
  have fsp_13 : T13.1 T10.2.1 = some (61, (.inl (am_kI, List.replicate (ns) (.int 0)))) := by rw [eT13]; exact am_up_tag fsp_12 fct_12 (by decide)
  have fct_13 : T13.1 a = some (21, (.inr (am_cCt, [.ref na, .ref T1.2.1, .ref T3.2.1, .ref T5.2.1, .ref T7.2.1, .ref T10.2.1, .int 0]))) := by rw [eT13]; exact am_up_at _ _ _ _
  have rT13 : am_fr ci_X T12 T13 := by rw [eT13]; exact am_fr.up fct_12 (by unfold ci_X; decide)
  have oT13 : am_ok T13 := rT13.2.2.2 oT12
  change am_W g _ _ _ _ _ _ _ (am_up T12 a 21 (.inr (am_cCt, [.ref na, .ref T1.2.1, .ref T3.2.1, .ref T5.2.1, .ref T7.2.1, .ref T10.2.1, .int 0])))
  rw [← eT13]
  refine am_aload_n d_Ct_new_60 rfl (by first | exact am_rvR _ | exact am_rvN | assumption) ?_
  refine am_get d_Ct_new_61 f_Ct_15 fct_13 (by rfl) ?_
  refine am_iconst (v := (-1)) d_Ct_new_64 (by decide) ?_
  refine am_cS d_Ct_new_65 s_Ct_40 (vs := [.ref T1.2.1, .int (-1)]) (st := []) rfl rfl (by decide) (Nat.le_of_ble_eq_true rfl) (jd_fill (-1) foe_13 (by decide) (by rw [List.length_replicate]; omega)) ?_
  rintro v S2 ⟨rfl, rfl⟩
  rw [List.length_replicate]
  obtain ⟨T14, eT14⟩ : ∃ q, q = am_up T13 T1.2.1 31 (.inl (am_kI, List.replicate (4 * ns) (.int (-1)))) := ⟨_, rfl⟩
  have zT14 : T14.2.1 = T13.2.1 ∧ T14.2.2 = T13.2.2 := by rw [eT14]; exact ⟨rfl, rfl⟩
  have fct_14 : T14.1 a = some (21, (.inr (am_cCt, [.ref na, .ref T1.2.1, .ref T3.2.1, .ref T5.2.1, .ref T7.2.1, .ref T10.2.1, .int 0]))) := by rw [eT14]; exact am_up_tag fct_13 foe_13 (by decide)
  have fna_14 : T14.1 na = some (0, (.inl (am_kN, xs))) := by rw [eT14]; exact am_up_tag fna_13 foe_13 (by decide)
  have fmk_14 : T14.1 T3.2.1 = some (41, (.inl (am_kZ, List.replicate (4 * ns) (.int 0)))) := by rw [eT14]; exact am_up_tag fmk_13 foe_13 (by decide)
  have fpl_14 : T14.1 T5.2.1 = some (51, (.inl (am_kI, List.replicate (6) (.int 0)))) := by rw [eT14]; exact am_up_tag fpl_13 foe_13 (by decide)
  have fco_14 : T14.1 T7.2.1 = some (71, (.inr (am_cAL, [.int 0, .ref e, .int 0]))) := by rw [eT14]; exact am_up_tag fco_13 foe_13 (by decide)
  have fsp_14 : T14.1 T10.2.1 = some (61, (.inl (am_kI, List.replicate (ns) (.int 0)))) := by rw [eT14]; exact am_up_tag fsp_13 foe_13 (by decide)
  have foe_14 : T14.1 T1.2.1 = some (31, (.inl (am_kI, List.replicate (4 * ns) (.int (-1))))) := by rw [eT14]; exact am_up_at _ _ _ _
  have rT14 : am_fr ci_X T13 T14 := by rw [eT14]; exact am_fr.up foe_13 (by unfold ci_X; decide)
  have oT14 : am_ok T14 := rT14.2.2.2 oT13
  change am_W g _ _ _ _ _ _ _ (am_up T13 T1.2.1 31 (.inl (am_kI, List.replicate (4 * ns) (.int (-1)))))
  rw [← eT14]
  refine am_aload_n d_Ct_new_68 rfl (by first | exact am_rvR _ | exact am_rvN | assumption) ?_
  refine am_get d_Ct_new_69 f_Ct_23 fct_14 (by rfl) ?_
  refine am_iconst (v := (-1)) d_Ct_new_72 (by decide) ?_
  refine am_cS d_Ct_new_73 s_Ct_40 (vs := [.ref T5.2.1, .int (-1)]) (st := []) rfl rfl (by decide) (Nat.le_of_ble_eq_true rfl) (jd_fill (-1) fpl_14 (by decide) (by rw [List.length_replicate]; omega)) ?_
  rintro v S2 ⟨rfl, rfl⟩
  rw [List.length_replicate]
  obtain ⟨T15, eT15⟩ : ∃ q, q = am_up T14 T5.2.1 51 (.inl (am_kI, List.replicate (6) (.int (-1)))) := ⟨_, rfl⟩
  have zT15 : T15.2.1 = T14.2.1 ∧ T15.2.2 = T14.2.2 := by rw [eT15]; exact ⟨rfl, rfl⟩
  have fct_15 : T15.1 a = some (21, (.inr (am_cCt, [.ref na, .ref T1.2.1, .ref T3.2.1, .ref T5.2.1, .ref T7.2.1, .ref T10.2.1, .int 0]))) := by rw [eT15]; exact am_up_tag fct_14 fpl_14 (by decide)
  have fna_15 : T15.1 na = some (0, (.inl (am_kN, xs))) := by rw [eT15]; exact am_up_tag fna_14 fpl_14 (by decide)
  have foe_15 : T15.1 T1.2.1 = some (31, (.inl (am_kI, List.replicate (4 * ns) (.int (-1))))) := by rw [eT15]; exact am_up_tag foe_14 fpl_14 (by decide)
  have fmk_15 : T15.1 T3.2.1 = some (41, (.inl (am_kZ, List.replicate (4 * ns) (.int 0)))) := by rw [eT15]; exact am_up_tag fmk_14 fpl_14 (by decide)
  have fco_15 : T15.1 T7.2.1 = some (71, (.inr (am_cAL, [.int 0, .ref e, .int 0]))) := by rw [eT15]; exact am_up_tag fco_14 fpl_14 (by decide)
  have fsp_15 : T15.1 T10.2.1 = some (61, (.inl (am_kI, List.replicate (ns) (.int 0)))) := by rw [eT15]; exact am_up_tag fsp_14 fpl_14 (by decide)
  have fpl_15 : T15.1 T5.2.1 = some (51, (.inl (am_kI, List.replicate (6) (.int (-1))))) := by rw [eT15]; exact am_up_at _ _ _ _
  have rT15 : am_fr ci_X T14 T15 := by rw [eT15]; exact am_fr.up fpl_14 (by unfold ci_X; decide)
  have oT15 : am_ok T15 := rT15.2.2.2 oT14
  change am_W g _ _ _ _ _ _ _ (am_up T14 T5.2.1 51 (.inl (am_kI, List.replicate (6) (.int (-1)))))
  rw [← eT15]
  refine am_vret d_Ct_new_76 rfl ?_
  obtain ⟨y1, x1⟩ := zT1
  obtain ⟨y2, x2⟩ := zT2
  obtain ⟨y3, x3⟩ := zT3
  obtain ⟨y4, x4⟩ := zT4
  obtain ⟨y5, x5⟩ := zT5
  obtain ⟨y6, x6⟩ := zT6
  obtain ⟨y7, x7⟩ := zT7
  obtain ⟨y8, x8⟩ := zT8
  obtain ⟨y9, x9⟩ := zT9
  obtain ⟨y10, x10⟩ := zT10
  obtain ⟨y11, x11⟩ := zT11
  obtain ⟨y12, x12⟩ := zT12
  obtain ⟨y13, x13⟩ := zT13
  obtain ⟨y14, x14⟩ := zT14
  obtain ⟨y15, x15⟩ := zT15
  have amk : T3.2.1 = S.2.1 + 1 := by omega
  have apl : T5.2.1 = S.2.1 + 2 := by omega
  have aco : T7.2.1 = S.2.1 + 3 := by omega
  have asp : T10.2.1 = S.2.1 + 4 := by omega
  have aoe : T1.2.1 = S.2.1 := by omega
  simp only [aoe, amk, apl, aco, asp] at fct_15 foe_15 fmk_15 fpl_15 fco_15 fsp_15
  exact ⟨rfl, ⟨by omega, by omega⟩, fct_15, foe_15, fmk_15, fpl_15, fco_15, fsp_15, ((((((((((((((rT1.trans rT2).trans rT3).trans rT4).trans rT5).trans rT6).trans rT7).trans rT8).trans rT9).trans rT10).trans rT11).trans rT12).trans rT13).trans rT14).trans rT15)⟩
end CIA
