/-! the reference: attach, link, guards, what is asked -/
section REH
variable {g : am_G} {A : Nat → Nat} {r : fr_S} {ns room idle : Nat} {s : fc_S}
theorem rf_attach (H : fr_rel ns room idle s r) (D : fc_iD ns room s) (x p : Int32) : gm_M (fr_P A) fr_X g y_M_attach "(II)I" 2 43 [.ref (A 44), .int x, .int p] (fun v r' => v = some (.int (fc_attach ns s x p).1) ∧ fr_rel ns room idle (fc_attach ns s x p).2 r') r := by
  refine gm_Mof (L0 := [some (.ref (A 44)), some (.int x), some (.int p)]) pl_M_attach (am_k1 rfl (am_k1 rfl (am_k1 rfl am_k0))) (Nat.le_of_ble_eq_true rfl) rfl ?_
  refine gm_aload_n d_M_attach_0 rfl (by first | exact am_rvR _ | exact am_rvN | assumption) ?_
  refine gm_iload_n d_M_attach_1 rfl ?_
  refine gm_iload_n d_M_attach_2 rfl ?_
  refine gm_cV (b := A 44) d_M_attach_3 v_M_140 (vs := [.int x, .int p]) (st := []) rfl rfl (by decide) (Nat.le_of_ble_eq_true rfl) (fr_at _) (rf_isPort H.1.1 x p) ?_
  rintro v r1 ⟨rfl, hr1⟩
  subst r1
  first | refine gm_if_eqB (tgt := 22) d_M_attach_6 (by decide) (fun q1 => ?_) (fun q1 => ?_) | refine gm_if_eqN (tgt := 22) d_M_attach_6 (by decide) (by omega) (fun q1 => ?_) (fun q1 => ?_) | refine gm_if_eq (tgt := 22) d_M_attach_6 (by decide) (fun q1 => ?_) (fun q1 => ?_)
  · refine gm_iconst (v := (-1)) d_M_attach_22 (by decide) ?_
    refine gm_iret d_M_attach_23 rfl rfl ?_
    first | (refine ⟨?_, ?_⟩; (focus (rw [fc_attach_bad q1]; try rfl)); (focus (rw [fc_attach_bad q1]; exact H))) | (refine ⟨?_, ?_⟩; (focus (rw [fc_attach_at n5 hi hp q1, if_neg (fun z => q2 (hu0.mpr z))]; try rfl)); (focus (rw [fc_attach_at n5 hi hp q1, if_neg (fun z => q2 (hu0.mpr z))]; exact H))) | (refine ⟨?_, ?_⟩; (focus (rw [fc_attach_at n5 hi hp q1, if_pos (hu0.mp q2), if_pos (show 6 ≤ (s 1).length by omega)]; try rfl)); (focus (rw [fc_attach_at n5 hi hp q1, if_pos (hu0.mp q2), if_pos (show 6 ≤ (s 1).length by omega)]; exact H))) | (refine ⟨?_, ?_⟩; (focus (rw [fc_attach_at n5 hi hp q1, if_pos (hu0.mp q2), if_neg (show ¬ 6 ≤ (s 1).length by omega)]; try rfl)); (focus (rw [fc_attach_at n5 hi hp q1, if_pos (hu0.mp q2), if_neg (show ¬ 6 ≤ (s 1).length by omega)]; exact H.att D hi hp (hu0.mp q2) (by omega))))
  · obtain ⟨i, p', hi, hp, rfl, rfl⟩ := fc_pt_nat D.1.2.1 q1
    have n5 := D.1.2.1
    obtain ⟨u, hu2, h4, hu0, -, -, -, -⟩ := fr_use H D (show 4 * i + p' < 4 * ns by omega)
    have h7 : r.1 7 = nI (s 1).length := H.2.1.1
    have h6 := D.2.1.2.1
    refine gm_aload_n d_M_attach_9 rfl (by first | exact am_rvR _ | exact am_rvN | assumption) ?_
    refine fr_gA 4 d_M_attach_10 f_M_7 (by decide) (by decide) ?_
    refine gm_iconst (v := nI 4) d_M_attach_13 (by decide) ?_
    refine gm_iload_n d_M_attach_14 rfl ?_
    first | refine gm_imulN d_M_attach_15 ?_ | refine gm_imul d_M_attach_15 ?_
    refine gm_iload_n d_M_attach_16 rfl ?_
    first | refine gm_iaddN d_M_attach_17 ?_ | refine gm_iadd d_M_attach_17 ?_
    refine fr_aldv d_M_attach_18 (by decide) rfl (show _ < 20 by omega) (by first | assumption | (simp only [fr_up_at, fr_up_s, fr_sc_at, fr_sc_a, Nat.reduceEqDiff, false_and, if_false, ite_false, reduceCtorEq]; first | assumption | rfl) | rfl) ?_
    first | refine gm_if_eqB (tgt := 24) d_M_attach_19 (by decide) (fun q2 => ?_) (fun q2 => ?_) | refine gm_if_eqN (tgt := 24) d_M_attach_19 (by decide) (by omega) (fun q2 => ?_) (fun q2 => ?_) | refine gm_if_eq (tgt := 24) d_M_attach_19 (by decide) (fun q2 => ?_) (fun q2 => ?_)
    · refine gm_aload_n d_M_attach_24 rfl (by first | exact am_rvR _ | exact am_rvN | assumption) ?_
      refine fr_gSv 7 d_M_attach_25 f_M_137 (by decide) rfl (by first | assumption | (simp only [fr_up_at, fr_up_s, fr_sc_at, fr_sc_a, Nat.reduceEqDiff, false_and, if_false, ite_false, reduceCtorEq]; first | assumption | rfl) | rfl) ?_
      refine gm_bipush (v := nI 6) d_M_attach_28 (by decide) ?_
      first | refine gm_icmp_neN (tgt := 36) d_M_attach_30 (by decide) (by omega) (by omega) (fun q3 => ?_) (fun q3 => ?_) | refine gm_icmp_ne (tgt := 36) d_M_attach_30 (by decide) (fun q3 => ?_) (fun q3 => ?_)
      · refine gm_aload_n d_M_attach_36 rfl (by first | exact am_rvR _ | exact am_rvN | assumption) ?_
        refine fr_gA 4 d_M_attach_37 f_M_7 (by decide) (by decide) ?_
        refine gm_iconst (v := nI 4) d_M_attach_40 (by decide) ?_
        refine gm_iload_n d_M_attach_41 rfl ?_
        first | refine gm_imulN d_M_attach_42 ?_ | refine gm_imul d_M_attach_42 ?_
        refine gm_iload_n d_M_attach_43 rfl ?_
        first | refine gm_iaddN d_M_attach_44 ?_ | refine gm_iadd d_M_attach_44 ?_
        refine gm_iconst (v := nI 1) d_M_attach_45 (by decide) ?_
        refine fr_ast d_M_attach_46 (by decide) rfl (show _ < 20 by omega) ?_
        refine gm_aload_n d_M_attach_47 rfl (by first | exact am_rvR _ | exact am_rvN | assumption) ?_
        refine fr_gA 5 d_M_attach_48 f_M_13 (by decide) (by decide) ?_
        refine gm_iconst (v := nI 4) d_M_attach_51 (by decide) ?_
        refine gm_iload_n d_M_attach_52 rfl ?_
        first | refine gm_imulN d_M_attach_53 ?_ | refine gm_imul d_M_attach_53 ?_
        refine gm_iload_n d_M_attach_54 rfl ?_
        first | refine gm_iaddN d_M_attach_55 ?_ | refine gm_iadd d_M_attach_55 ?_
        refine gm_aload_n d_M_attach_56 rfl (by first | exact am_rvR _ | exact am_rvN | assumption) ?_
        refine fr_gSv 7 d_M_attach_57 f_M_137 (by decide) rfl (by first | assumption | (simp only [fr_up_at, fr_up_s, fr_sc_at, fr_sc_a, Nat.reduceEqDiff, false_and, if_false, ite_false, reduceCtorEq]; first | assumption | rfl) | rfl) ?_
        refine fr_ast d_M_attach_60 (by decide) rfl (show _ < 20 by omega) ?_
        refine gm_aload_n d_M_attach_61 rfl (by first | exact am_rvR _ | exact am_rvN | assumption) ?_
        refine fr_gA 8 d_M_attach_62 f_M_20 (by decide) (by decide) ?_
        refine gm_aload_n d_M_attach_65 rfl (by first | exact am_rvR _ | exact am_rvN | assumption) ?_
        refine fr_gSv 7 d_M_attach_66 f_M_137 (by decide) rfl (by first | assumption | (simp only [fr_up_at, fr_up_s, fr_sc_at, fr_sc_a, Nat.reduceEqDiff, false_and, if_false, ite_false, reduceCtorEq]; first | assumption | rfl) | rfl) ?_
        refine gm_iconst (v := nI 4) d_M_attach_69 (by decide) ?_
        refine gm_iload_n d_M_attach_70 rfl ?_
        first | refine gm_imulN d_M_attach_71 ?_ | refine gm_imul d_M_attach_71 ?_
        refine gm_iload_n d_M_attach_72 rfl ?_
        first | refine gm_iaddN d_M_attach_73 ?_ | refine gm_iadd d_M_attach_73 ?_
        refine fr_ast d_M_attach_74 (by decide) rfl (show _ < 6 by omega) ?_
        refine gm_aload_n d_M_attach_75 rfl (by first | exact am_rvR _ | exact am_rvN | assumption) ?_
        refine fr_gA 11 d_M_attach_76 f_M_29 (by decide) (by decide) ?_
        refine gm_aload_n d_M_attach_79 rfl (by first | exact am_rvR _ | exact am_rvN | assumption) ?_
        refine fr_gSv 7 d_M_attach_80 f_M_137 (by decide) rfl (by first | assumption | (simp only [fr_up_at, fr_up_s, fr_sc_at, fr_sc_a, Nat.reduceEqDiff, false_and, if_false, ite_false, reduceCtorEq]; first | assumption | rfl) | rfl) ?_
        refine gm_iconst (v := (-1)) d_M_attach_83 (by decide) ?_
        refine fr_ast d_M_attach_84 (by decide) rfl (show _ < 6 by omega) ?_
        refine gm_aload_n d_M_attach_85 rfl (by first | exact am_rvR _ | exact am_rvN | assumption) ?_
        refine gm_dup d_M_attach_86 rfl ?_
        refine fr_gSv 7 d_M_attach_87 f_M_137 (by decide) rfl (by first | assumption | (simp only [fr_up_at, fr_up_s, fr_sc_at, fr_sc_a, Nat.reduceEqDiff, false_and, if_false, ite_false, reduceCtorEq]; first | assumption | rfl) | rfl) ?_
        refine gm_iconst (v := nI 1) d_M_attach_90 (by decide) ?_
        first | refine gm_iaddN d_M_attach_91 ?_ | refine gm_iadd d_M_attach_91 ?_
        refine fr_pS 7 d_M_attach_92 f_M_137 (p_M_137 _) (by decide) rfl ?_
        refine gm_aload_n d_M_attach_95 rfl (by first | exact am_rvR _ | exact am_rvN | assumption) ?_
        refine fr_gSv 7 d_M_attach_96 f_M_137 (by decide) rfl (by first | assumption | (simp only [fr_up_at, fr_up_s, fr_sc_at, fr_sc_a, Nat.reduceEqDiff, false_and, if_false, ite_false, reduceCtorEq]; first | assumption | rfl) | rfl) ?_
        refine gm_iconst (v := nI 1) d_M_attach_99 (by decide) ?_
        first | refine gm_isubN d_M_attach_100 (by omega) ?_ | refine gm_isub d_M_attach_100 ?_
        refine gm_iret d_M_attach_101 rfl rfl ?_
        first | (refine ⟨?_, ?_⟩; (focus (rw [fc_attach_bad q1]; try rfl)); (focus (rw [fc_attach_bad q1]; exact H))) | (refine ⟨?_, ?_⟩; (focus (rw [fc_attach_at n5 hi hp q1, if_neg (fun z => q2 (hu0.mpr z))]; try rfl)); (focus (rw [fc_attach_at n5 hi hp q1, if_neg (fun z => q2 (hu0.mpr z))]; exact H))) | (refine ⟨?_, ?_⟩; (focus (rw [fc_attach_at n5 hi hp q1, if_pos (hu0.mp q2), if_pos (show 6 ≤ (s 1).length by omega)]; try rfl)); (focus (rw [fc_attach_at n5 hi hp q1, if_pos (hu0.mp q2), if_pos (show 6 ≤ (s 1).length by omega)]; exact H))) | (refine ⟨?_, ?_⟩; (focus (rw [fc_attach_at n5 hi hp q1, if_pos (hu0.mp q2), if_neg (show ¬ 6 ≤ (s 1).length by omega)]; try rfl)); (focus (rw [fc_attach_at n5 hi hp q1, if_pos (hu0.mp q2), if_neg (show ¬ 6 ≤ (s 1).length by omega)]; exact H.att D hi hp (hu0.mp q2) (by omega))))
      · refine gm_bipush (v := (-2)) d_M_attach_33 (by decide) ?_
        refine gm_iret d_M_attach_35 rfl rfl ?_
        first | (refine ⟨?_, ?_⟩; (focus (rw [fc_attach_bad q1]; try rfl)); (focus (rw [fc_attach_bad q1]; exact H))) | (refine ⟨?_, ?_⟩; (focus (rw [fc_attach_at n5 hi hp q1, if_neg (fun z => q2 (hu0.mpr z))]; try rfl)); (focus (rw [fc_attach_at n5 hi hp q1, if_neg (fun z => q2 (hu0.mpr z))]; exact H))) | (refine ⟨?_, ?_⟩; (focus (rw [fc_attach_at n5 hi hp q1, if_pos (hu0.mp q2), if_pos (show 6 ≤ (s 1).length by omega)]; try rfl)); (focus (rw [fc_attach_at n5 hi hp q1, if_pos (hu0.mp q2), if_pos (show 6 ≤ (s 1).length by omega)]; exact H))) | (refine ⟨?_, ?_⟩; (focus (rw [fc_attach_at n5 hi hp q1, if_pos (hu0.mp q2), if_neg (show ¬ 6 ≤ (s 1).length by omega)]; try rfl)); (focus (rw [fc_attach_at n5 hi hp q1, if_pos (hu0.mp q2), if_neg (show ¬ 6 ≤ (s 1).length by omega)]; exact H.att D hi hp (hu0.mp q2) (by omega))))
    · refine gm_iconst (v := (-1)) d_M_attach_22 (by decide) ?_
      refine gm_iret d_M_attach_23 rfl rfl ?_
      first | (refine ⟨?_, ?_⟩; (focus (rw [fc_attach_bad q1]; try rfl)); (focus (rw [fc_attach_bad q1]; exact H))) | (refine ⟨?_, ?_⟩; (focus (rw [fc_attach_at n5 hi hp q1, if_neg (fun z => q2 (hu0.mpr z))]; try rfl)); (focus (rw [fc_attach_at n5 hi hp q1, if_neg (fun z => q2 (hu0.mpr z))]; exact H))) | (refine ⟨?_, ?_⟩; (focus (rw [fc_attach_at n5 hi hp q1, if_pos (hu0.mp q2), if_pos (show 6 ≤ (s 1).length by omega)]; try rfl)); (focus (rw [fc_attach_at n5 hi hp q1, if_pos (hu0.mp q2), if_pos (show 6 ≤ (s 1).length by omega)]; exact H))) | (refine ⟨?_, ?_⟩; (focus (rw [fc_attach_at n5 hi hp q1, if_pos (hu0.mp q2), if_neg (show ¬ 6 ≤ (s 1).length by omega)]; try rfl)); (focus (rw [fc_attach_at n5 hi hp q1, if_pos (hu0.mp q2), if_neg (show ¬ 6 ≤ (s 1).length by omega)]; exact H.att D hi hp (hu0.mp q2) (by omega))))
theorem fc_link_bad1 {a p b q : Int32} (h : fc_pt ns a p = false) : fc_link ns s a p b q = (false, s) := by unfold fc_link; rw [h]; rfl
theorem fc_link_bad2 {a p b q : Int32} (h : fc_pt ns a p = true) (h' : fc_pt ns b q = false) : fc_link ns s a p b q = (false, s) := by unfold fc_link; rw [h, h']; rfl
theorem rf_link (H : fr_rel ns room idle s r) (D : fc_iD ns room s) (a p b q : Int32) : gm_M (fr_P A) fr_X g y_M_link "(IIII)Z" 2 43 [.ref (A 44), .int a, .int p, .int b, .int q] (fun v r' => v = some (.int (am_b (fc_link ns s a p b q).1)) ∧ fr_rel ns room idle (fc_link ns s a p b q).2 r') r := by
  refine gm_Mof (L0 := [some (.ref (A 44)), some (.int a), some (.int p), some (.int b), some (.int q)]) pl_M_link (am_k1 rfl (am_k1 rfl (am_k1 rfl (am_k1 rfl (am_k1 rfl am_k0))))) (Nat.le_of_ble_eq_true rfl) rfl ?_
  refine gm_aload_n d_M_link_0 rfl (by first | exact am_rvR _ | exact am_rvN | assumption) ?_
  refine gm_iload_n d_M_link_1 rfl ?_
  refine gm_iload_n d_M_link_2 rfl ?_
  refine gm_cV (b := A 44) d_M_link_3 v_M_140 (vs := [.int a, .int p]) (st := []) rfl rfl (by decide) (Nat.le_of_ble_eq_true rfl) (fr_at _) (rf_isPort H.1.1 a p) ?_
  rintro v r1 ⟨rfl, hr1⟩
  subst r1
  first | refine gm_if_eqB (tgt := 51) d_M_link_6 (by decide) (fun q1 => ?_) (fun q1 => ?_) | refine gm_if_eqN (tgt := 51) d_M_link_6 (by decide) (by omega) (fun q1 => ?_) (fun q1 => ?_) | refine gm_if_eq (tgt := 51) d_M_link_6 (by decide) (fun q1 => ?_) (fun q1 => ?_)
  · refine gm_iconst (v := nI 0) d_M_link_51 (by decide) ?_
    refine gm_iret d_M_link_52 rfl (by first | rfl | exact am_b_nar _) ?_
    first | (refine ⟨?_, ?_⟩; (focus (rw [fc_link_bad1 q1]; try rfl)); (focus (rw [fc_link_bad1 q1]; exact H))) | (refine ⟨?_, ?_⟩; (focus (rw [fc_link_bad2 q1 q2]; try rfl)); (focus (rw [fc_link_bad2 q1 q2]; exact H))) | (refine ⟨?_, ?_⟩; (focus (rw [fc_link_eq n5 hi hp hj hq q1 q2, if_neg (fun z => z.1 q3)]; try rfl)); (focus (rw [fc_link_eq n5 hi hp hj hq q1 q2, if_neg (fun z => z.1 q3)]; exact H))) | (refine ⟨?_, ?_⟩; (focus (rw [fc_link_eq n5 hi hp hj hq q1 q2, if_neg (fun z => q4 (hu0.mpr z.2.1))]; try rfl)); (focus (rw [fc_link_eq n5 hi hp hj hq q1 q2, if_neg (fun z => q4 (hu0.mpr z.2.1))]; exact H))) | (refine ⟨?_, ?_⟩; (focus (rw [fc_link_eq n5 hi hp hj hq q1 q2, if_neg (fun z => q5 (hu0'.mpr z.2.2))]; try rfl)); (focus (rw [fc_link_eq n5 hi hp hj hq q1 q2, if_neg (fun z => q5 (hu0'.mpr z.2.2))]; exact H))) | (have hf1 := hu0.mp q4; have hf2 := hu0'.mp q5; obtain ⟨x1, x2, x3, hx, -⟩ := D.2.2.1 (4 * i + p') (by omega); obtain ⟨rfl, rfl⟩ := fc_free_iff hx hf1; obtain ⟨y1, y2, y3, hy, -⟩ := D.2.2.1 (4 * j + q') (by omega); obtain ⟨rfl, rfl⟩ := fc_free_iff hy hf2; have e9 : fc_join s (4 * i + p') (4 * j + q') (100 + (4 * j + q')) = [[-1, -1, y3]] := (by unfold fc_join; rw [fc_put_ne _ _ _ (by omega), fc_put_ne _ _ _ (by omega)]; exact hy); (refine ⟨?_, ?_⟩; (focus (rw [fc_link_eq n5 hi hp hj hq q1 q2, if_pos ⟨q3, hf1, hf2⟩]; try rfl)); (focus (rw [fc_link_eq n5 hi hp hj hq q1 q2, if_pos ⟨q3, hf1, hf2⟩]; exact (H.join n5 (show 4 * i + p' < 4 * ns by omega) (by omega) ⟨_, hx⟩).join n5 (show 4 * j + q' < 4 * ns by omega) (by omega) ⟨y3, e9⟩))))
  · refine gm_aload_n d_M_link_9 rfl (by first | exact am_rvR _ | exact am_rvN | assumption) ?_
    refine gm_iload_n d_M_link_10 rfl ?_
    refine gm_iload d_M_link_11 rfl ?_
    refine gm_cV (b := A 44) d_M_link_13 v_M_140 (vs := [.int b, .int q]) (st := []) rfl rfl (by decide) (Nat.le_of_ble_eq_true rfl) (fr_at _) (rf_isPort H.1.1 b q) ?_
    rintro v r1 ⟨rfl, hr1⟩
    subst r1
    first | refine gm_if_eqB (tgt := 51) d_M_link_16 (by decide) (fun q2 => ?_) (fun q2 => ?_) | refine gm_if_eqN (tgt := 51) d_M_link_16 (by decide) (by omega) (fun q2 => ?_) (fun q2 => ?_) | refine gm_if_eq (tgt := 51) d_M_link_16 (by decide) (fun q2 => ?_) (fun q2 => ?_)
    · refine gm_iconst (v := nI 0) d_M_link_51 (by decide) ?_
      refine gm_iret d_M_link_52 rfl (by first | rfl | exact am_b_nar _) ?_
      first | (refine ⟨?_, ?_⟩; (focus (rw [fc_link_bad1 q1]; try rfl)); (focus (rw [fc_link_bad1 q1]; exact H))) | (refine ⟨?_, ?_⟩; (focus (rw [fc_link_bad2 q1 q2]; try rfl)); (focus (rw [fc_link_bad2 q1 q2]; exact H))) | (refine ⟨?_, ?_⟩; (focus (rw [fc_link_eq n5 hi hp hj hq q1 q2, if_neg (fun z => z.1 q3)]; try rfl)); (focus (rw [fc_link_eq n5 hi hp hj hq q1 q2, if_neg (fun z => z.1 q3)]; exact H))) | (refine ⟨?_, ?_⟩; (focus (rw [fc_link_eq n5 hi hp hj hq q1 q2, if_neg (fun z => q4 (hu0.mpr z.2.1))]; try rfl)); (focus (rw [fc_link_eq n5 hi hp hj hq q1 q2, if_neg (fun z => q4 (hu0.mpr z.2.1))]; exact H))) | (refine ⟨?_, ?_⟩; (focus (rw [fc_link_eq n5 hi hp hj hq q1 q2, if_neg (fun z => q5 (hu0'.mpr z.2.2))]; try rfl)); (focus (rw [fc_link_eq n5 hi hp hj hq q1 q2, if_neg (fun z => q5 (hu0'.mpr z.2.2))]; exact H))) | (have hf1 := hu0.mp q4; have hf2 := hu0'.mp q5; obtain ⟨x1, x2, x3, hx, -⟩ := D.2.2.1 (4 * i + p') (by omega); obtain ⟨rfl, rfl⟩ := fc_free_iff hx hf1; obtain ⟨y1, y2, y3, hy, -⟩ := D.2.2.1 (4 * j + q') (by omega); obtain ⟨rfl, rfl⟩ := fc_free_iff hy hf2; have e9 : fc_join s (4 * i + p') (4 * j + q') (100 + (4 * j + q')) = [[-1, -1, y3]] := (by unfold fc_join; rw [fc_put_ne _ _ _ (by omega), fc_put_ne _ _ _ (by omega)]; exact hy); (refine ⟨?_, ?_⟩; (focus (rw [fc_link_eq n5 hi hp hj hq q1 q2, if_pos ⟨q3, hf1, hf2⟩]; try rfl)); (focus (rw [fc_link_eq n5 hi hp hj hq q1 q2, if_pos ⟨q3, hf1, hf2⟩]; exact (H.join n5 (show 4 * i + p' < 4 * ns by omega) (by omega) ⟨_, hx⟩).join n5 (show 4 * j + q' < 4 * ns by omega) (by omega) ⟨y3, e9⟩))))
    · obtain ⟨i, p', hi, hp, rfl, rfl⟩ := fc_pt_nat D.1.2.1 q1
      obtain ⟨j, q', hj, hq, rfl, rfl⟩ := fc_pt_nat D.1.2.1 q2
      have n5 := D.1.2.1
      obtain ⟨u, hu2, h4, hu0, -, -, -, -⟩ := fr_use H D (show 4 * i + p' < 4 * ns by omega)
      obtain ⟨u', hu2', h4', hu0', -, -, -, -⟩ := fr_use H D (show 4 * j + q' < 4 * ns by omega)
      refine gm_iload_n d_M_link_19 rfl ?_
      refine gm_iload_n d_M_link_20 rfl ?_
      first | refine gm_icmp_eqN (tgt := 51) d_M_link_21 (by decide) (by omega) (by omega) (fun q3 => ?_) (fun q3 => ?_) | refine gm_icmp_eq (tgt := 51) d_M_link_21 (by decide) (fun q3 => ?_) (fun q3 => ?_)
      · refine gm_iconst (v := nI 0) d_M_link_51 (by decide) ?_
        refine gm_iret d_M_link_52 rfl (by first | rfl | exact am_b_nar _) ?_
        first | (refine ⟨?_, ?_⟩; (focus (rw [fc_link_bad1 q1]; try rfl)); (focus (rw [fc_link_bad1 q1]; exact H))) | (refine ⟨?_, ?_⟩; (focus (rw [fc_link_bad2 q1 q2]; try rfl)); (focus (rw [fc_link_bad2 q1 q2]; exact H))) | (refine ⟨?_, ?_⟩; (focus (rw [fc_link_eq n5 hi hp hj hq q1 q2, if_neg (fun z => z.1 q3)]; try rfl)); (focus (rw [fc_link_eq n5 hi hp hj hq q1 q2, if_neg (fun z => z.1 q3)]; exact H))) | (refine ⟨?_, ?_⟩; (focus (rw [fc_link_eq n5 hi hp hj hq q1 q2, if_neg (fun z => q4 (hu0.mpr z.2.1))]; try rfl)); (focus (rw [fc_link_eq n5 hi hp hj hq q1 q2, if_neg (fun z => q4 (hu0.mpr z.2.1))]; exact H))) | (refine ⟨?_, ?_⟩; (focus (rw [fc_link_eq n5 hi hp hj hq q1 q2, if_neg (fun z => q5 (hu0'.mpr z.2.2))]; try rfl)); (focus (rw [fc_link_eq n5 hi hp hj hq q1 q2, if_neg (fun z => q5 (hu0'.mpr z.2.2))]; exact H))) | (have hf1 := hu0.mp q4; have hf2 := hu0'.mp q5; obtain ⟨x1, x2, x3, hx, -⟩ := D.2.2.1 (4 * i + p') (by omega); obtain ⟨rfl, rfl⟩ := fc_free_iff hx hf1; obtain ⟨y1, y2, y3, hy, -⟩ := D.2.2.1 (4 * j + q') (by omega); obtain ⟨rfl, rfl⟩ := fc_free_iff hy hf2; have e9 : fc_join s (4 * i + p') (4 * j + q') (100 + (4 * j + q')) = [[-1, -1, y3]] := (by unfold fc_join; rw [fc_put_ne _ _ _ (by omega), fc_put_ne _ _ _ (by omega)]; exact hy); (refine ⟨?_, ?_⟩; (focus (rw [fc_link_eq n5 hi hp hj hq q1 q2, if_pos ⟨q3, hf1, hf2⟩]; try rfl)); (focus (rw [fc_link_eq n5 hi hp hj hq q1 q2, if_pos ⟨q3, hf1, hf2⟩]; exact (H.join n5 (show 4 * i + p' < 4 * ns by omega) (by omega) ⟨_, hx⟩).join n5 (show 4 * j + q' < 4 * ns by omega) (by omega) ⟨y3, e9⟩))))
      · refine gm_aload_n d_M_link_24 rfl (by first | exact am_rvR _ | exact am_rvN | assumption) ?_
        refine fr_gA 4 d_M_link_25 f_M_7 (by decide) (by decide) ?_
        refine gm_iconst (v := nI 4) d_M_link_28 (by decide) ?_
        refine gm_iload_n d_M_link_29 rfl ?_
        first | refine gm_imulN d_M_link_30 ?_ | refine gm_imul d_M_link_30 ?_
        refine gm_iload_n d_M_link_31 rfl ?_
        first | refine gm_iaddN d_M_link_32 ?_ | refine gm_iadd d_M_link_32 ?_
        refine fr_aldv d_M_link_33 (by decide) rfl (show _ < 20 by omega) (by first | assumption | (simp only [fr_up_at, fr_up_s, fr_sc_at, fr_sc_a, Nat.reduceEqDiff, false_and, if_false, ite_false, reduceCtorEq]; first | assumption | rfl) | rfl) ?_
        first | refine gm_if_neB (tgt := 51) d_M_link_34 (by decide) (fun q4 => ?_) (fun q4 => ?_) | refine gm_if_neN (tgt := 51) d_M_link_34 (by decide) (by omega) (fun q4 => ?_) (fun q4 => ?_) | refine gm_if_ne (tgt := 51) d_M_link_34 (by decide) (fun q4 => ?_) (fun q4 => ?_)
        · refine gm_iconst (v := nI 0) d_M_link_51 (by decide) ?_
          refine gm_iret d_M_link_52 rfl (by first | rfl | exact am_b_nar _) ?_
          first | (refine ⟨?_, ?_⟩; (focus (rw [fc_link_bad1 q1]; try rfl)); (focus (rw [fc_link_bad1 q1]; exact H))) | (refine ⟨?_, ?_⟩; (focus (rw [fc_link_bad2 q1 q2]; try rfl)); (focus (rw [fc_link_bad2 q1 q2]; exact H))) | (refine ⟨?_, ?_⟩; (focus (rw [fc_link_eq n5 hi hp hj hq q1 q2, if_neg (fun z => z.1 q3)]; try rfl)); (focus (rw [fc_link_eq n5 hi hp hj hq q1 q2, if_neg (fun z => z.1 q3)]; exact H))) | (refine ⟨?_, ?_⟩; (focus (rw [fc_link_eq n5 hi hp hj hq q1 q2, if_neg (fun z => q4 (hu0.mpr z.2.1))]; try rfl)); (focus (rw [fc_link_eq n5 hi hp hj hq q1 q2, if_neg (fun z => q4 (hu0.mpr z.2.1))]; exact H))) | (refine ⟨?_, ?_⟩; (focus (rw [fc_link_eq n5 hi hp hj hq q1 q2, if_neg (fun z => q5 (hu0'.mpr z.2.2))]; try rfl)); (focus (rw [fc_link_eq n5 hi hp hj hq q1 q2, if_neg (fun z => q5 (hu0'.mpr z.2.2))]; exact H))) | (have hf1 := hu0.mp q4; have hf2 := hu0'.mp q5; obtain ⟨x1, x2, x3, hx, -⟩ := D.2.2.1 (4 * i + p') (by omega); obtain ⟨rfl, rfl⟩ := fc_free_iff hx hf1; obtain ⟨y1, y2, y3, hy, -⟩ := D.2.2.1 (4 * j + q') (by omega); obtain ⟨rfl, rfl⟩ := fc_free_iff hy hf2; have e9 : fc_join s (4 * i + p') (4 * j + q') (100 + (4 * j + q')) = [[-1, -1, y3]] := (by unfold fc_join; rw [fc_put_ne _ _ _ (by omega), fc_put_ne _ _ _ (by omega)]; exact hy); (refine ⟨?_, ?_⟩; (focus (rw [fc_link_eq n5 hi hp hj hq q1 q2, if_pos ⟨q3, hf1, hf2⟩]; try rfl)); (focus (rw [fc_link_eq n5 hi hp hj hq q1 q2, if_pos ⟨q3, hf1, hf2⟩]; exact (H.join n5 (show 4 * i + p' < 4 * ns by omega) (by omega) ⟨_, hx⟩).join n5 (show 4 * j + q' < 4 * ns by omega) (by omega) ⟨y3, e9⟩))))
        · refine gm_aload_n d_M_link_37 rfl (by first | exact am_rvR _ | exact am_rvN | assumption) ?_
          refine fr_gA 4 d_M_link_38 f_M_7 (by decide) (by decide) ?_
          refine gm_iconst (v := nI 4) d_M_link_41 (by decide) ?_
          refine gm_iload_n d_M_link_42 rfl ?_
          first | refine gm_imulN d_M_link_43 ?_ | refine gm_imul d_M_link_43 ?_
          refine gm_iload d_M_link_44 rfl ?_
          first | refine gm_iaddN d_M_link_46 ?_ | refine gm_iadd d_M_link_46 ?_
          refine fr_aldv d_M_link_47 (by decide) rfl (show _ < 20 by omega) (by first | assumption | (simp only [fr_up_at, fr_up_s, fr_sc_at, fr_sc_a, Nat.reduceEqDiff, false_and, if_false, ite_false, reduceCtorEq]; first | assumption | rfl) | rfl) ?_
          first | refine gm_if_eqB (tgt := 53) d_M_link_48 (by decide) (fun q5 => ?_) (fun q5 => ?_) | refine gm_if_eqN (tgt := 53) d_M_link_48 (by decide) (by omega) (fun q5 => ?_) (fun q5 => ?_) | refine gm_if_eq (tgt := 53) d_M_link_48 (by decide) (fun q5 => ?_) (fun q5 => ?_)
          · refine gm_aload_n d_M_link_53 rfl (by first | exact am_rvR _ | exact am_rvN | assumption) ?_
            refine gm_iconst (v := nI 4) d_M_link_54 (by decide) ?_
            refine gm_iload_n d_M_link_55 rfl ?_
            first | refine gm_imulN d_M_link_56 ?_ | refine gm_imul d_M_link_56 ?_
            refine gm_iload_n d_M_link_57 rfl ?_
            first | refine gm_iaddN d_M_link_58 ?_ | refine gm_iadd d_M_link_58 ?_
            refine gm_iconst (v := nI 4) d_M_link_59 (by decide) ?_
            refine gm_iload_n d_M_link_60 rfl ?_
            first | refine gm_imulN d_M_link_61 ?_ | refine gm_imul d_M_link_61 ?_
            refine gm_iload d_M_link_62 rfl ?_
            first | refine gm_iaddN d_M_link_64 ?_ | refine gm_iadd d_M_link_64 ?_
            refine gm_cV (b := A 44) d_M_link_65 v_M_144 (vs := [(.int (nI (4 * i + p'))), (.int (nI (4 * j + q')))]) (st := []) rfl rfl (by decide) (Nat.le_of_ble_eq_true rfl) (fr_at _) (rf_join (by omega)) ?_
            rintro v r1 ⟨rfl, hr1⟩
            subst hr1
            refine gm_aload_n d_M_link_68 rfl (by first | exact am_rvR _ | exact am_rvN | assumption) ?_
            refine gm_iconst (v := nI 4) d_M_link_69 (by decide) ?_
            refine gm_iload_n d_M_link_70 rfl ?_
            first | refine gm_imulN d_M_link_71 ?_ | refine gm_imul d_M_link_71 ?_
            refine gm_iload d_M_link_72 rfl ?_
            first | refine gm_iaddN d_M_link_74 ?_ | refine gm_iadd d_M_link_74 ?_
            refine gm_iconst (v := nI 4) d_M_link_75 (by decide) ?_
            refine gm_iload_n d_M_link_76 rfl ?_
            first | refine gm_imulN d_M_link_77 ?_ | refine gm_imul d_M_link_77 ?_
            refine gm_iload_n d_M_link_78 rfl ?_
            first | refine gm_iaddN d_M_link_79 ?_ | refine gm_iadd d_M_link_79 ?_
            refine gm_cV (b := A 44) d_M_link_80 v_M_144 (vs := [(.int (nI (4 * j + q'))), (.int (nI (4 * i + p')))]) (st := []) rfl rfl (by decide) (Nat.le_of_ble_eq_true rfl) (fr_at _) (rf_join (by omega)) ?_
            rintro v r2 ⟨rfl, hr2⟩
            subst hr2
            refine gm_iconst (v := nI 1) d_M_link_83 (by decide) ?_
            refine gm_iret d_M_link_84 rfl (by first | rfl | exact am_b_nar _) ?_
            first | (refine ⟨?_, ?_⟩; (focus (rw [fc_link_bad1 q1]; try rfl)); (focus (rw [fc_link_bad1 q1]; exact H))) | (refine ⟨?_, ?_⟩; (focus (rw [fc_link_bad2 q1 q2]; try rfl)); (focus (rw [fc_link_bad2 q1 q2]; exact H))) | (refine ⟨?_, ?_⟩; (focus (rw [fc_link_eq n5 hi hp hj hq q1 q2, if_neg (fun z => z.1 q3)]; try rfl)); (focus (rw [fc_link_eq n5 hi hp hj hq q1 q2, if_neg (fun z => z.1 q3)]; exact H))) | (refine ⟨?_, ?_⟩; (focus (rw [fc_link_eq n5 hi hp hj hq q1 q2, if_neg (fun z => q4 (hu0.mpr z.2.1))]; try rfl)); (focus (rw [fc_link_eq n5 hi hp hj hq q1 q2, if_neg (fun z => q4 (hu0.mpr z.2.1))]; exact H))) | (refine ⟨?_, ?_⟩; (focus (rw [fc_link_eq n5 hi hp hj hq q1 q2, if_neg (fun z => q5 (hu0'.mpr z.2.2))]; try rfl)); (focus (rw [fc_link_eq n5 hi hp hj hq q1 q2, if_neg (fun z => q5 (hu0'.mpr z.2.2))]; exact H))) | (have hf1 := hu0.mp q4; have hf2 := hu0'.mp q5; obtain ⟨x1, x2, x3, hx, -⟩ := D.2.2.1 (4 * i + p') (by omega); obtain ⟨rfl, rfl⟩ := fc_free_iff hx hf1; obtain ⟨y1, y2, y3, hy, -⟩ := D.2.2.1 (4 * j + q') (by omega); obtain ⟨rfl, rfl⟩ := fc_free_iff hy hf2; have e9 : fc_join s (4 * i + p') (4 * j + q') (100 + (4 * j + q')) = [[-1, -1, y3]] := (by unfold fc_join; rw [fc_put_ne _ _ _ (by omega), fc_put_ne _ _ _ (by omega)]; exact hy); (refine ⟨?_, ?_⟩; (focus (rw [fc_link_eq n5 hi hp hj hq q1 q2, if_pos ⟨q3, hf1, hf2⟩]; try rfl)); (focus (rw [fc_link_eq n5 hi hp hj hq q1 q2, if_pos ⟨q3, hf1, hf2⟩]; exact (H.join n5 (show 4 * i + p' < 4 * ns by omega) (by omega) ⟨_, hx⟩).join n5 (show 4 * j + q' < 4 * ns by omega) (by omega) ⟨y3, e9⟩))))
          · refine gm_iconst (v := nI 0) d_M_link_51 (by decide) ?_
            refine gm_iret d_M_link_52 rfl (by first | rfl | exact am_b_nar _) ?_
            first | (refine ⟨?_, ?_⟩; (focus (rw [fc_link_bad1 q1]; try rfl)); (focus (rw [fc_link_bad1 q1]; exact H))) | (refine ⟨?_, ?_⟩; (focus (rw [fc_link_bad2 q1 q2]; try rfl)); (focus (rw [fc_link_bad2 q1 q2]; exact H))) | (refine ⟨?_, ?_⟩; (focus (rw [fc_link_eq n5 hi hp hj hq q1 q2, if_neg (fun z => z.1 q3)]; try rfl)); (focus (rw [fc_link_eq n5 hi hp hj hq q1 q2, if_neg (fun z => z.1 q3)]; exact H))) | (refine ⟨?_, ?_⟩; (focus (rw [fc_link_eq n5 hi hp hj hq q1 q2, if_neg (fun z => q4 (hu0.mpr z.2.1))]; try rfl)); (focus (rw [fc_link_eq n5 hi hp hj hq q1 q2, if_neg (fun z => q4 (hu0.mpr z.2.1))]; exact H))) | (refine ⟨?_, ?_⟩; (focus (rw [fc_link_eq n5 hi hp hj hq q1 q2, if_neg (fun z => q5 (hu0'.mpr z.2.2))]; try rfl)); (focus (rw [fc_link_eq n5 hi hp hj hq q1 q2, if_neg (fun z => q5 (hu0'.mpr z.2.2))]; exact H))) | (have hf1 := hu0.mp q4; have hf2 := hu0'.mp q5; obtain ⟨x1, x2, x3, hx, -⟩ := D.2.2.1 (4 * i + p') (by omega); obtain ⟨rfl, rfl⟩ := fc_free_iff hx hf1; obtain ⟨y1, y2, y3, hy, -⟩ := D.2.2.1 (4 * j + q') (by omega); obtain ⟨rfl, rfl⟩ := fc_free_iff hy hf2; have e9 : fc_join s (4 * i + p') (4 * j + q') (100 + (4 * j + q')) = [[-1, -1, y3]] := (by unfold fc_join; rw [fc_put_ne _ _ _ (by omega), fc_put_ne _ _ _ (by omega)]; exact hy); (refine ⟨?_, ?_⟩; (focus (rw [fc_link_eq n5 hi hp hj hq q1 q2, if_pos ⟨q3, hf1, hf2⟩]; try rfl)); (focus (rw [fc_link_eq n5 hi hp hj hq q1 q2, if_pos ⟨q3, hf1, hf2⟩]; exact (H.join n5 (show 4 * i + p' < 4 * ns by omega) (by omega) ⟨_, hx⟩).join n5 (show 4 * j + q' < 4 * ns by omega) (by omega) ⟨y3, e9⟩))))
theorem fc_gd_nat (n5 : ns ≤ 5) {x k : Int32} (D : fc_iD ns room s) (h : fc_gd ns s x k = true) : ∃ i j, i < ns ∧ j < (s (10 + i)).length ∧ x = nI i ∧ k = nI j := by
  unfold fc_gd at h
  rw [Bool.and_eq_true, Bool.and_eq_true, decide_eq_true_eq, decide_eq_true_eq] at h
  obtain ⟨h1, h2, h3⟩ := h
  obtain ⟨i, hi, rfl⟩ := fc_sw_nat n5 h1
  rw [nI_clamp (by omega)] at h3
  obtain ⟨j, hj, rfl⟩ := nI_of (x := k) (by rw [Int32.lt_iff_toInt_lt]; rw [Int32.le_iff_toInt_le] at h2; omega)
  have := D.g4 i hi
  unfold fc_len at h3
  exact ⟨i, j, hi, (nI_ltI hj (by omega)).mp h3, rfl, rfl⟩
theorem fc_gd_eq (n5 : ns ≤ 5) {i : Nat} (hi : i < ns) (h : fc_sw ns (nI i) = true) (k : Int32) : fc_gd ns s (nI i) k = (decide (0 ≤ k) && decide (k < nI (s (10 + i)).length)) := by
  unfold fc_gd fc_len
  rw [h, nI_clamp (by omega), Bool.true_and]
theorem fc_gd_no {x k : Int32} (h : fc_sw ns x = false) : fc_gd ns s x k = false := by unfold fc_gd; rw [h]; rfl
theorem rf_isGuard (H : fr_rel ns room idle s r) (D : fc_iD ns room s) (x k : Int32) : gm_M (fr_P A) fr_X g y_M_isGuard "(II)Z" 1 21 [.ref (A 44), .int x, .int k] (fun v r' => v = some (.int (am_b (fc_gd ns s x k))) ∧ r' = r) r := by
  refine gm_Mof (L0 := [some (.ref (A 44)), some (.int x), some (.int k)]) pl_M_isGuard (am_k1 rfl (am_k1 rfl (am_k1 rfl am_k0))) (Nat.le_of_ble_eq_true rfl) rfl ?_
  refine gm_aload_n d_M_isGuard_0 rfl (by first | exact am_rvR _ | exact am_rvN | assumption) ?_
  refine gm_iload_n d_M_isGuard_1 rfl ?_
  refine gm_cV (b := A 44) d_M_isGuard_2 v_M_133 (vs := [.int x]) (st := []) rfl rfl (by decide) (Nat.le_of_ble_eq_true rfl) (fr_at _) (rf_isSwitch H.1.1 x) ?_
  rintro v r1 ⟨rfl, hr1⟩
  subst r1
  first | refine gm_if_eqB (tgt := 26) d_M_isGuard_5 (by decide) (fun q1 => ?_) (fun q1 => ?_) | refine gm_if_eqN (tgt := 26) d_M_isGuard_5 (by decide) (by omega) (fun q1 => ?_) (fun q1 => ?_) | refine gm_if_eq (tgt := 26) d_M_isGuard_5 (by decide) (fun q1 => ?_) (fun q1 => ?_)
  · refine gm_iconst (v := nI 0) d_M_isGuard_26 (by decide) ?_
    refine gm_iret d_M_isGuard_27 rfl (by first | rfl | exact am_b_nar _) ?_
    first | exact ⟨by rw [fc_gd_no q1]; rfl, rfl⟩ | exact ⟨by rw [fc_gd_eq n5 hi q1]; first | (refine am_bt ?_; (simp only [Bool.and_eq_true, Bool.and_eq_false_iff, decide_eq_true_eq, decide_eq_false_iff_not, Int32.lt_iff_toInt_lt, Int32.le_iff_toInt_le, am_n0, am_i0, am_n1, am_i1, am_n2, am_i2, am_n3, am_i3, am_n4, am_i4, am_n5, am_i5, am_n6, am_i6, am_n7, am_i7, am_n8, am_i8, am_n9, am_i9, am_n10, am_i10, am_n11, am_i11, am_m1, am_n511, am_i511] at *; omega)) | (refine am_bf ?_; (simp only [Bool.and_eq_true, Bool.and_eq_false_iff, decide_eq_true_eq, decide_eq_false_iff_not, Int32.lt_iff_toInt_lt, Int32.le_iff_toInt_le, am_n0, am_i0, am_n1, am_i1, am_n2, am_i2, am_n3, am_i3, am_n4, am_i4, am_n5, am_i5, am_n6, am_i6, am_n7, am_i7, am_n8, am_i8, am_n9, am_i9, am_n10, am_i10, am_n11, am_i11, am_m1, am_n511, am_i511] at *; omega)), rfl⟩
  · obtain ⟨i, hi, rfl⟩ := fc_sw_nat D.1.2.1 q1
    have n5 := D.1.2.1
    have h14 : r.2 14 i = nI (s (10 + i)).length := (H.2.2.2.2.1 i hi).1
    refine gm_iload_n d_M_isGuard_8 rfl ?_
    first | refine gm_if_ltN (tgt := 26) d_M_isGuard_9 (by decide) (by omega) (fun q2 => ?_) (fun q2 => ?_) | refine gm_if_lt (tgt := 26) d_M_isGuard_9 (by decide) (fun q2 => ?_) (fun q2 => ?_)
    · refine gm_iconst (v := nI 0) d_M_isGuard_26 (by decide) ?_
      refine gm_iret d_M_isGuard_27 rfl (by first | rfl | exact am_b_nar _) ?_
      first | exact ⟨by rw [fc_gd_no q1]; rfl, rfl⟩ | exact ⟨by rw [fc_gd_eq n5 hi q1]; first | (refine am_bt ?_; (simp only [Bool.and_eq_true, Bool.and_eq_false_iff, decide_eq_true_eq, decide_eq_false_iff_not, Int32.lt_iff_toInt_lt, Int32.le_iff_toInt_le, am_n0, am_i0, am_n1, am_i1, am_n2, am_i2, am_n3, am_i3, am_n4, am_i4, am_n5, am_i5, am_n6, am_i6, am_n7, am_i7, am_n8, am_i8, am_n9, am_i9, am_n10, am_i10, am_n11, am_i11, am_m1, am_n511, am_i511] at *; omega)) | (refine am_bf ?_; (simp only [Bool.and_eq_true, Bool.and_eq_false_iff, decide_eq_true_eq, decide_eq_false_iff_not, Int32.lt_iff_toInt_lt, Int32.le_iff_toInt_le, am_n0, am_i0, am_n1, am_i1, am_n2, am_i2, am_n3, am_i3, am_n4, am_i4, am_n5, am_i5, am_n6, am_i6, am_n7, am_i7, am_n8, am_i8, am_n9, am_i9, am_n10, am_i10, am_n11, am_i11, am_m1, am_n511, am_i511] at *; omega)), rfl⟩
    · refine gm_iload_n d_M_isGuard_12 rfl ?_
      refine gm_aload_n d_M_isGuard_13 rfl (by first | exact am_rvR _ | exact am_rvN | assumption) ?_
      refine fr_gA 14 d_M_isGuard_14 f_M_38 (by decide) (by decide) ?_
      refine gm_iload_n d_M_isGuard_17 rfl ?_
      refine fr_aldv d_M_isGuard_18 (by decide) rfl (show _ < 5 by omega) (by first | assumption | (simp only [fr_up_at, fr_up_s, fr_sc_at, fr_sc_a, Nat.reduceEqDiff, false_and, if_false, ite_false, reduceCtorEq]; first | assumption | rfl) | rfl) ?_
      first | refine gm_icmp_geN (tgt := 26) d_M_isGuard_19 (by decide) (by omega) (by omega) (fun q3 => ?_) (fun q3 => ?_) | refine gm_icmp_ge (tgt := 26) d_M_isGuard_19 (by decide) (fun q3 => ?_) (fun q3 => ?_)
      · refine gm_iconst (v := nI 0) d_M_isGuard_26 (by decide) ?_
        refine gm_iret d_M_isGuard_27 rfl (by first | rfl | exact am_b_nar _) ?_
        first | exact ⟨by rw [fc_gd_no q1]; rfl, rfl⟩ | exact ⟨by rw [fc_gd_eq n5 hi q1]; first | (refine am_bt ?_; (simp only [Bool.and_eq_true, Bool.and_eq_false_iff, decide_eq_true_eq, decide_eq_false_iff_not, Int32.lt_iff_toInt_lt, Int32.le_iff_toInt_le, am_n0, am_i0, am_n1, am_i1, am_n2, am_i2, am_n3, am_i3, am_n4, am_i4, am_n5, am_i5, am_n6, am_i6, am_n7, am_i7, am_n8, am_i8, am_n9, am_i9, am_n10, am_i10, am_n11, am_i11, am_m1, am_n511, am_i511] at *; omega)) | (refine am_bf ?_; (simp only [Bool.and_eq_true, Bool.and_eq_false_iff, decide_eq_true_eq, decide_eq_false_iff_not, Int32.lt_iff_toInt_lt, Int32.le_iff_toInt_le, am_n0, am_i0, am_n1, am_i1, am_n2, am_i2, am_n3, am_i3, am_n4, am_i4, am_n5, am_i5, am_n6, am_i6, am_n7, am_i7, am_n8, am_i8, am_n9, am_i9, am_n10, am_i10, am_n11, am_i11, am_m1, am_n511, am_i511] at *; omega)), rfl⟩
      · refine gm_iconst (v := nI 1) d_M_isGuard_22 (by decide) ?_
        refine gm_goto (tgt := 27) d_M_isGuard_23 (by decide) ?_
        refine gm_iret d_M_isGuard_27 rfl (by first | rfl | exact am_b_nar _) ?_
        first | exact ⟨by rw [fc_gd_no q1]; rfl, rfl⟩ | exact ⟨by rw [fc_gd_eq n5 hi q1]; first | (refine am_bt ?_; (simp only [Bool.and_eq_true, Bool.and_eq_false_iff, decide_eq_true_eq, decide_eq_false_iff_not, Int32.lt_iff_toInt_lt, Int32.le_iff_toInt_le, am_n0, am_i0, am_n1, am_i1, am_n2, am_i2, am_n3, am_i3, am_n4, am_i4, am_n5, am_i5, am_n6, am_i6, am_n7, am_i7, am_n8, am_i8, am_n9, am_i9, am_n10, am_i10, am_n11, am_i11, am_m1, am_n511, am_i511] at *; omega)) | (refine am_bf ?_; (simp only [Bool.and_eq_true, Bool.and_eq_false_iff, decide_eq_true_eq, decide_eq_false_iff_not, Int32.lt_iff_toInt_lt, Int32.le_iff_toInt_le, am_n0, am_i0, am_n1, am_i1, am_n2, am_i2, am_n3, am_i3, am_n4, am_i4, am_n5, am_i5, am_n6, am_i6, am_n7, am_i7, am_n8, am_i8, am_n9, am_i9, am_n10, am_i10, am_n11, am_i11, am_m1, am_n511, am_i511] at *; omega)), rfl⟩
theorem rf_hits (H : fr_rel ns room idle s r) (D : fc_iD ns room s) (x k : Int32) : gm_M (fr_P A) fr_X g y_M_hits "(II)I" 2 43 [.ref (A 44), .int x, .int k] (fun v r' => v = some (.int (fc_hits ns s x k)) ∧ r' = r) r := by
  refine gm_Mof (L0 := [some (.ref (A 44)), some (.int x), some (.int k)]) pl_M_hits (am_k1 rfl (am_k1 rfl (am_k1 rfl am_k0))) (Nat.le_of_ble_eq_true rfl) rfl ?_
  refine gm_aload_n d_M_hits_0 rfl (by first | exact am_rvR _ | exact am_rvN | assumption) ?_
  refine gm_iload_n d_M_hits_1 rfl ?_
  refine gm_iload_n d_M_hits_2 rfl ?_
  refine gm_cV (b := A 44) d_M_hits_3 v_M_152 (vs := [.int x, .int k]) (st := []) rfl rfl (by decide) (Nat.le_of_ble_eq_true rfl) (fr_at _) (rf_isGuard H D x k) ?_
  rintro v r1 ⟨rfl, hr1⟩
  subst r1
  first | refine gm_if_eqB (tgt := 22) d_M_hits_6 (by decide) (fun q1 => ?_) (fun q1 => ?_) | refine gm_if_eqN (tgt := 22) d_M_hits_6 (by decide) (by omega) (fun q1 => ?_) (fun q1 => ?_) | refine gm_if_eq (tgt := 22) d_M_hits_6 (by decide) (fun q1 => ?_) (fun q1 => ?_)
  · refine gm_iconst (v := (-1)) d_M_hits_22 (by decide) ?_
    refine gm_iret d_M_hits_23 rfl rfl ?_
    first | exact ⟨by unfold fc_hits; rw [if_neg (by rw [q1]; decide)], rfl⟩ | exact ⟨by unfold fc_hits; rw [if_pos q1, nI_clamp (by omega), nI_clamp (by omega)], rfl⟩
  · obtain ⟨i, j, hi, hj, rfl, rfl⟩ := fc_gd_nat D.1.2.1 D q1
    have n5 := D.1.2.1
    have h18 : r.2 18 (4 * i + j) = fc_get s (10 + i) j 3 := by
      have hr := List.getElem?_eq_getElem hj
      rw [fc_get_row hr]
      exact ((H.2.2.2.2.1 i hi).2 j _ hr).2.2.2
    have g4 := D.g4 i hi
    refine gm_aload_n d_M_hits_9 rfl (by first | exact am_rvR _ | exact am_rvN | assumption) ?_
    refine fr_gA 18 d_M_hits_10 f_M_50 (by decide) (by decide) ?_
    refine gm_iconst (v := nI 4) d_M_hits_13 (by decide) ?_
    refine gm_iload_n d_M_hits_14 rfl ?_
    first | refine gm_imulN d_M_hits_15 ?_ | refine gm_imul d_M_hits_15 ?_
    refine gm_iload_n d_M_hits_16 rfl ?_
    first | refine gm_iaddN d_M_hits_17 ?_ | refine gm_iadd d_M_hits_17 ?_
    refine fr_aldv d_M_hits_18 (by decide) rfl (show _ < 20 by omega) (by first | assumption | (simp only [fr_up_at, fr_up_s, fr_sc_at, fr_sc_a, Nat.reduceEqDiff, false_and, if_false, ite_false, reduceCtorEq]; first | assumption | rfl) | rfl) ?_
    refine gm_goto (tgt := 23) d_M_hits_19 (by decide) ?_
    refine gm_iret d_M_hits_23 rfl rfl ?_
    first | exact ⟨by unfold fc_hits; rw [if_neg (by rw [q1]; decide)], rfl⟩ | exact ⟨by unfold fc_hits; rw [if_pos q1, nI_clamp (by omega), nI_clamp (by omega)], rfl⟩
theorem fr_sh_s4 (r : fr_S) (lo m : Nat) : fr_up (fr_up (fr_up (fr_up (fr_sh r [15, 16, 17, 18] lo m 1) 15 (lo + m) (r.2 15 (lo + m + 1))) 16 (lo + m) (r.2 16 (lo + m + 1))) 17 (lo + m) (r.2 17 (lo + m + 1))) 18 (lo + m) (r.2 18 (lo + m + 1)) = fr_sh r [15, 16, 17, 18] lo (m + 1) 1 := by
  refine Prod.ext rfl ?_
  funext q j
  simp only [fr_up, fr_sh, List.mem_cons, List.not_mem_nil, or_false]
  by_cases h2 : j = lo + m
  · subst h2
    by_cases h0 : q = 15
    · subst h0; simp
    · by_cases h1 : q = 16
      · subst h1; simp
      · by_cases h3 : q = 17
        · subst h3; simp
        · by_cases h4 : q = 18
          · subst h4; simp
          · simp [h0, h1, h3, h4]
  · simp only [h2, and_false, if_false, ite_false]
    congr 1
    exact propext ⟨fun z => ⟨z.1, z.2.1, by omega⟩, fun z => ⟨z.1, z.2.1, by omega⟩⟩
theorem rf_unguard (H : fr_rel ns room idle s r) (D : fc_iD ns room s) (x k : Int32) : gm_M (fr_P A) fr_X g y_M_unguard "(II)I" 2 43 [.ref (A 44), .int x, .int k] (fun v r' => v = some (.int (fc_unguard ns s x k).1) ∧ fr_rel ns room idle (fc_unguard ns s x k).2 r') r := by
  refine gm_Mof (L0 := [some (.ref (A 44)), some (.int x), some (.int k), none, none]) pl_M_unguard (am_k1 rfl (am_k1 rfl (am_k1 rfl am_k0))) (Nat.le_of_ble_eq_true rfl) rfl ?_
  refine gm_aload_n d_M_unguard_0 rfl (by first | exact am_rvR _ | exact am_rvN | assumption) ?_
  refine gm_iload_n d_M_unguard_1 rfl ?_
  refine gm_iload_n d_M_unguard_2 rfl ?_
  refine gm_cV (b := A 44) d_M_unguard_3 v_M_152 (vs := [.int x, .int k]) (st := []) rfl rfl (by decide) (Nat.le_of_ble_eq_true rfl) (fr_at _) (rf_isGuard H D x k) ?_
  rintro v r1 ⟨rfl, hr1⟩
  subst r1
  first | refine gm_if_neB (tgt := 11) d_M_unguard_6 (by decide) (fun q1 => ?_) (fun q1 => ?_) | refine gm_if_neN (tgt := 11) d_M_unguard_6 (by decide) (by omega) (fun q1 => ?_) (fun q1 => ?_) | refine gm_if_ne (tgt := 11) d_M_unguard_6 (by decide) (fun q1 => ?_) (fun q1 => ?_)
  · obtain ⟨i, k0, hi, hj, rfl, rfl⟩ := fc_gd_nat D.1.2.1 D q1
    have n5 := D.1.2.1
    have h18 : r.2 18 (4 * i + k0) = fc_get s (10 + i) k0 3 := by
      have hr := List.getElem?_eq_getElem hj
      rw [fc_get_row hr]
      exact ((H.2.2.2.2.1 i hi).2 k0 _ hr).2.2.2
    have g4 := D.g4 i hi
    obtain ⟨n, hn⟩ : ∃ n, n = (s (10 + i)).length := ⟨_, rfl⟩
    rw [← hn] at g4 hj
    have h14 : r.2 14 i = nI n := by rw [hn]; exact (H.2.2.2.2.1 i hi).1
    have efc : fc_unguard ns s (nI i) (nI k0) = (fc_get s (10 + i) k0 3, fc_del s (10 + i) k0) := by unfold fc_unguard; rw [if_pos q1, nI_clamp (by omega), nI_clamp (by omega)]
    rw [efc]
    have key : ∀ (m k : Nat) (r1 : fr_S), k + m = n - 1 - k0 → r1 = fr_sh (fr_up r 14 i (nI (n - 1))) [15, 16, 17, 18] (4 * i + k0) k 1 → gm_W (fr_P A) fr_X g y_M_unguard 2 43 (fun v r' => v = some (.int (fc_get s (10 + i) k0 3)) ∧ r' = fr_gdel r i n k0) 39 [some (.ref (A 44)), some (.int (nI i)), some (.int (nI k0)), some (.int (fc_get s (10 + i) k0 3)), some (.int (nI (4 * i + k0 + k)))] [] r1 := by
      intro m
      induction m with
      | zero =>
        intro k r1 hk hr
        have hv : r1.2 14 i = nI (n - 1) := by rw [hr, fr_sh_not (by decide), fr_up_at, if_pos ⟨rfl, rfl⟩]
        have e1 : k = n - 1 - k0 := by omega
        refine gm_iload d_M_unguard_39 rfl ?_
        refine gm_iconst (v := nI 4) d_M_unguard_41 (by decide) ?_
        refine gm_iload_n d_M_unguard_42 rfl ?_
        first | refine gm_imulN d_M_unguard_43 ?_ | refine gm_imul d_M_unguard_43 ?_
        refine gm_aload_n d_M_unguard_44 rfl (by first | exact am_rvR _ | exact am_rvN | assumption) ?_
        refine fr_gA 14 d_M_unguard_45 f_M_38 (by decide) (by decide) ?_
        refine gm_iload_n d_M_unguard_48 rfl ?_
        refine fr_aldv d_M_unguard_49 (by decide) rfl (show _ < 5 by omega) (by first | assumption | (simp only [fr_up_at, fr_up_s, fr_sc_at, fr_sc_a, Nat.reduceEqDiff, false_and, if_false, ite_false, reduceCtorEq]; first | assumption | rfl) | rfl) ?_
        first | refine gm_iaddN d_M_unguard_50 ?_ | refine gm_iadd d_M_unguard_50 ?_
        refine gm_icmp_geN (tgt := 124) d_M_unguard_51 (by decide) (by omega) (by omega) (fun _ => ?_) (fun q => absurd q (by omega))
        refine gm_iload_n d_M_unguard_124 rfl ?_
        refine gm_iret d_M_unguard_125 rfl rfl ?_
        exact ⟨rfl, by rw [hr, e1]; rfl⟩
      | succ m ih =>
        intro k r1 hk hr
        have hv : r1.2 14 i = nI (n - 1) := by rw [hr, fr_sh_not (by decide), fr_up_at, if_pos ⟨rfl, rfl⟩]
        have hv15 : r1.2 15 (4 * i + k0 + k + 1) = (fr_up r 14 i (nI (n - 1))).2 15 (4 * i + k0 + k + 1) := by rw [hr, fr_sh_out (by omega)]
        have hv16 : r1.2 16 (4 * i + k0 + k + 1) = (fr_up r 14 i (nI (n - 1))).2 16 (4 * i + k0 + k + 1) := by rw [hr, fr_sh_out (by omega)]
        have hv17 : r1.2 17 (4 * i + k0 + k + 1) = (fr_up r 14 i (nI (n - 1))).2 17 (4 * i + k0 + k + 1) := by rw [hr, fr_sh_out (by omega)]
        have hv18 : r1.2 18 (4 * i + k0 + k + 1) = (fr_up r 14 i (nI (n - 1))).2 18 (4 * i + k0 + k + 1) := by rw [hr, fr_sh_out (by omega)]
        refine gm_iload d_M_unguard_39 rfl ?_
        refine gm_iconst (v := nI 4) d_M_unguard_41 (by decide) ?_
        refine gm_iload_n d_M_unguard_42 rfl ?_
        first | refine gm_imulN d_M_unguard_43 ?_ | refine gm_imul d_M_unguard_43 ?_
        refine gm_aload_n d_M_unguard_44 rfl (by first | exact am_rvR _ | exact am_rvN | assumption) ?_
        refine fr_gA 14 d_M_unguard_45 f_M_38 (by decide) (by decide) ?_
        refine gm_iload_n d_M_unguard_48 rfl ?_
        refine fr_aldv d_M_unguard_49 (by decide) rfl (show _ < 5 by omega) (by first | assumption | (simp only [fr_up_at, fr_up_s, fr_sc_at, fr_sc_a, Nat.reduceEqDiff, false_and, if_false, ite_false, reduceCtorEq]; first | assumption | rfl) | rfl) ?_
        first | refine gm_iaddN d_M_unguard_50 ?_ | refine gm_iadd d_M_unguard_50 ?_
        refine gm_icmp_geN (tgt := 124) d_M_unguard_51 (by decide) (by omega) (by omega) (fun q => absurd q (by omega)) (fun _ => ?_)
        refine gm_aload_n d_M_unguard_54 rfl (by first | exact am_rvR _ | exact am_rvN | assumption) ?_
        refine fr_gA 15 d_M_unguard_55 f_M_41 (by decide) (by decide) ?_
        refine gm_iload d_M_unguard_58 rfl ?_
        refine gm_aload_n d_M_unguard_60 rfl (by first | exact am_rvR _ | exact am_rvN | assumption) ?_
        refine fr_gA 15 d_M_unguard_61 f_M_41 (by decide) (by decide) ?_
        refine gm_iload d_M_unguard_64 rfl ?_
        refine gm_iconst (v := nI 1) d_M_unguard_66 (by decide) ?_
        first | refine gm_iaddN d_M_unguard_67 ?_ | refine gm_iadd d_M_unguard_67 ?_
        refine fr_aldv d_M_unguard_68 (by decide) rfl (show _ < 20 by omega) (by first | assumption | (simp only [fr_up_at, fr_up_s, fr_sc_at, fr_sc_a, Nat.reduceEqDiff, false_and, if_false, ite_false, reduceCtorEq]; first | assumption | rfl) | rfl) ?_
        refine fr_ast d_M_unguard_69 (by decide) rfl (show _ < 20 by omega) ?_
        refine gm_aload_n d_M_unguard_70 rfl (by first | exact am_rvR _ | exact am_rvN | assumption) ?_
        refine fr_gA 16 d_M_unguard_71 f_M_44 (by decide) (by decide) ?_
        refine gm_iload d_M_unguard_74 rfl ?_
        refine gm_aload_n d_M_unguard_76 rfl (by first | exact am_rvR _ | exact am_rvN | assumption) ?_
        refine fr_gA 16 d_M_unguard_77 f_M_44 (by decide) (by decide) ?_
        refine gm_iload d_M_unguard_80 rfl ?_
        refine gm_iconst (v := nI 1) d_M_unguard_82 (by decide) ?_
        first | refine gm_iaddN d_M_unguard_83 ?_ | refine gm_iadd d_M_unguard_83 ?_
        refine fr_aldv d_M_unguard_84 (by decide) rfl (show _ < 20 by omega) (by first | assumption | (simp only [fr_up_at, fr_up_s, fr_sc_at, fr_sc_a, Nat.reduceEqDiff, false_and, if_false, ite_false, reduceCtorEq]; first | assumption | rfl) | rfl) ?_
        refine fr_ast d_M_unguard_85 (by decide) rfl (show _ < 20 by omega) ?_
        refine gm_aload_n d_M_unguard_86 rfl (by first | exact am_rvR _ | exact am_rvN | assumption) ?_
        refine fr_gA 17 d_M_unguard_87 f_M_47 (by decide) (by decide) ?_
        refine gm_iload d_M_unguard_90 rfl ?_
        refine gm_aload_n d_M_unguard_92 rfl (by first | exact am_rvR _ | exact am_rvN | assumption) ?_
        refine fr_gA 17 d_M_unguard_93 f_M_47 (by decide) (by decide) ?_
        refine gm_iload d_M_unguard_96 rfl ?_
        refine gm_iconst (v := nI 1) d_M_unguard_98 (by decide) ?_
        first | refine gm_iaddN d_M_unguard_99 ?_ | refine gm_iadd d_M_unguard_99 ?_
        refine fr_aldv d_M_unguard_100 (by decide) rfl (show _ < 20 by omega) (by first | assumption | (simp only [fr_up_at, fr_up_s, fr_sc_at, fr_sc_a, Nat.reduceEqDiff, false_and, if_false, ite_false, reduceCtorEq]; first | assumption | rfl) | rfl) ?_
        refine fr_ast d_M_unguard_101 (by decide) rfl (show _ < 20 by omega) ?_
        refine gm_aload_n d_M_unguard_102 rfl (by first | exact am_rvR _ | exact am_rvN | assumption) ?_
        refine fr_gA 18 d_M_unguard_103 f_M_50 (by decide) (by decide) ?_
        refine gm_iload d_M_unguard_106 rfl ?_
        refine gm_aload_n d_M_unguard_108 rfl (by first | exact am_rvR _ | exact am_rvN | assumption) ?_
        refine fr_gA 18 d_M_unguard_109 f_M_50 (by decide) (by decide) ?_
        refine gm_iload d_M_unguard_112 rfl ?_
        refine gm_iconst (v := nI 1) d_M_unguard_114 (by decide) ?_
        first | refine gm_iaddN d_M_unguard_115 ?_ | refine gm_iadd d_M_unguard_115 ?_
        refine fr_aldv d_M_unguard_116 (by decide) rfl (show _ < 20 by omega) (by first | assumption | (simp only [fr_up_at, fr_up_s, fr_sc_at, fr_sc_a, Nat.reduceEqDiff, false_and, if_false, ite_false, reduceCtorEq]; first | assumption | rfl) | rfl) ?_
        refine fr_ast d_M_unguard_117 (by decide) rfl (show _ < 20 by omega) ?_
        rw [hr]
        first | refine gm_iincN (b := 1) (L1 := [_, _, _, _, _]) d_M_unguard_118 rfl (by decide) (by decide) rfl ?_ | refine gm_iinc (L1 := [_, _, _, _, _]) d_M_unguard_118 rfl rfl (by decide) rfl ?_
        refine gm_goto (tgt := 39) d_M_unguard_121 (by decide) ?_
        exact ih (k + 1) _ (by omega) (by rw [fr_sh_s4])
    refine gm_aload_n d_M_unguard_11 rfl (by first | exact am_rvR _ | exact am_rvN | assumption) ?_
    refine fr_gA 18 d_M_unguard_12 f_M_50 (by decide) (by decide) ?_
    refine gm_iconst (v := nI 4) d_M_unguard_15 (by decide) ?_
    refine gm_iload_n d_M_unguard_16 rfl ?_
    first | refine gm_imulN d_M_unguard_17 ?_ | refine gm_imul d_M_unguard_17 ?_
    refine gm_iload_n d_M_unguard_18 rfl ?_
    first | refine gm_iaddN d_M_unguard_19 ?_ | refine gm_iadd d_M_unguard_19 ?_
    refine fr_aldv d_M_unguard_20 (by decide) rfl (show _ < 20 by omega) (by first | assumption | (simp only [fr_up_at, fr_up_s, fr_sc_at, fr_sc_a, Nat.reduceEqDiff, false_and, if_false, ite_false, reduceCtorEq]; first | assumption | rfl) | rfl) ?_
    refine gm_istore_n (L1 := [_, _, _, _, _]) d_M_unguard_21 (by decide) rfl ?_
    refine gm_aload_n d_M_unguard_22 rfl (by first | exact am_rvR _ | exact am_rvN | assumption) ?_
    refine fr_gA 14 d_M_unguard_23 f_M_38 (by decide) (by decide) ?_
    refine gm_iload_n d_M_unguard_26 rfl ?_
    refine gm_dup2 d_M_unguard_27 rfl rfl ?_
    refine fr_aldv d_M_unguard_28 (by decide) rfl (show _ < 5 by omega) (by first | assumption | (simp only [fr_up_at, fr_up_s, fr_sc_at, fr_sc_a, Nat.reduceEqDiff, false_and, if_false, ite_false, reduceCtorEq]; first | assumption | rfl) | rfl) ?_
    refine gm_iconst (v := nI 1) d_M_unguard_29 (by decide) ?_
    first | refine gm_isubN d_M_unguard_30 (by omega) ?_ | refine gm_isub d_M_unguard_30 ?_
    refine fr_ast d_M_unguard_31 (by decide) rfl (show _ < 5 by omega) ?_
    refine gm_iconst (v := nI 4) d_M_unguard_32 (by decide) ?_
    refine gm_iload_n d_M_unguard_33 rfl ?_
    first | refine gm_imulN d_M_unguard_34 ?_ | refine gm_imul d_M_unguard_34 ?_
    refine gm_iload_n d_M_unguard_35 rfl ?_
    first | refine gm_iaddN d_M_unguard_36 ?_ | refine gm_iadd d_M_unguard_36 ?_
    refine gm_istore (L1 := [_, _, _, _, _]) d_M_unguard_37 (by decide) rfl ?_
    refine gm_post (fun v r' hv => ?_) (key (n - 1 - k0) 0 _ (by omega) (by rw [fr_sh_0]))
    exact ⟨hv.1, by rw [hv.2, hn]; exact H.gdel D hi (by omega)⟩
  · refine gm_iconst (v := (-1)) d_M_unguard_9 (by decide) ?_
    refine gm_iret d_M_unguard_10 rfl rfl ?_
    exact ⟨by unfold fc_unguard; rw [if_neg (by rw [q1]; decide)], by unfold fc_unguard; rw [if_neg (by rw [q1]; decide)]; exact H⟩
end REH
