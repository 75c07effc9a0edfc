/-! the reference: a DONE is heard -/
section RES
variable {g : am_G} {A : Nat → Nat} {r : fr_S} {ns room idle : Nat} {s : fc_S} {own : Int32 → Int32 × Int32} {W : Nat}
theorem rf_led1 {c f t l : Nat} {wv aw kp kn : Int32} {way : List Int32} (H : fr_rel ns room idle s r) (J : fz_J own W ns room s) (hr : (s 7)[c]? = some ([nI f, nI t, 2, wv, aw, nI (l + 1), kp, kn] ++ way)) (hf : f < 6) (ht : t < 6) (hl : l + 1 < way.length) (hw5 : way.length ≤ 5) (hwe : ∀ x ∈ way, ∃ m, m < 4 * ns ∧ x = nI m) : gm_M (fr_P A) fr_X g y_M_led "(I)V" 3 76 [.ref (A 44), .int (nI c)] (fun v r' => v = none ∧ fr_rel ns room idle (fc_lead s c) r') r := by
  have D := J.1
  have n5 := D.1.2.1
  have IK := D.2.2.2.2.2.2.2.2
  have k6 := IK.1
  have hc := (List.getElem?_eq_some_iff.mp hr).1
  obtain ⟨⟨x0, h2⟩, -⟩ := D.2.2.2.2.2.2.2.1
  have hrow := H.2.2.2.2.2.2.2.2.row hr
  have h37 : r.2 37 c = nI (l + 1) := hrow.2.2.2.2.1
  obtain ⟨mt, hm, hx⟩ := hwe _ (List.getElem_mem (show l < way.length by omega))
  have hx' : way[l]? = some (nI mt) := by rw [List.getElem?_eq_getElem (by omega), hx]
  refine gm_Mof (L0 := [some (.ref (A 44)), some (.int (nI c))]) pl_M_led (am_k1 rfl (am_k1 rfl am_k0)) (Nat.le_of_ble_eq_true rfl) rfl ?_
  refine gm_aload_n d_M_led_0 rfl (by first | exact am_rvR _ | exact am_rvN | assumption) ?_
  refine fr_gA 37 d_M_led_1 f_M_101 (by decide) (by decide) ?_
  refine gm_iload_n d_M_led_4 rfl ?_
  refine fr_aldv d_M_led_5 (by decide) rfl (show _ < 6 by omega) (by first | assumption | (simp only [fr_up_at, fr_up_s, fr_sc_at, fr_sc_a, Nat.reduceEqDiff, false_and, if_false, ite_false, reduceCtorEq]; first | assumption | rfl) | rfl) ?_
  refine gm_if_leN (tgt := 23) d_M_led_6 (by decide) (by omega) (fun q => absurd q (by omega)) (fun _ => ?_)
  refine gm_aload_n d_M_led_9 rfl (by first | exact am_rvR _ | exact am_rvN | assumption) ?_
  refine gm_iload_n d_M_led_10 rfl ?_
  refine gm_aload_n d_M_led_11 rfl (by first | exact am_rvR _ | exact am_rvN | assumption) ?_
  refine fr_gA 37 d_M_led_12 f_M_101 (by decide) (by decide) ?_
  refine gm_iload_n d_M_led_15 rfl ?_
  refine fr_aldv d_M_led_16 (by decide) rfl (show _ < 6 by omega) (by first | assumption | (simp only [fr_up_at, fr_up_s, fr_sc_at, fr_sc_a, Nat.reduceEqDiff, false_and, if_false, ite_false, reduceCtorEq]; first | assumption | rfl) | rfl) ?_
  refine gm_iconst (v := nI 1) d_M_led_17 (by decide) ?_
  first | refine gm_isubN d_M_led_18 (by omega) ?_ | refine gm_isub d_M_led_18 ?_
  refine gm_cV (b := A 44) d_M_led_19 v_M_212 (vs := [.int (nI c), .int (nI (l + 1 - 1))]) (st := []) rfl rfl (by decide) (Nat.le_of_ble_eq_true rfl) (fr_at _) (rf_lead (k := l) H n5 J.rm46 (by omega) h2 hr (IK.w5 c) hf ht (by omega) hx' hm) ?_
  rintro v r1 ⟨rfl, H1⟩
  rw [fc_lead_of hr h2 (by omega) (by omega) hx'] at H1
  refine gm_vret d_M_led_22 rfl ?_
  exact ⟨rfl, H1⟩
theorem rf_led0 {c f t : Nat} {wv aw kp kn : Int32} {way : List Int32} (H : fr_rel ns room idle s r) (J : fz_J own W ns room s) (hr : (s 7)[c]? = some ([nI f, nI t, 2, wv, aw, nI 0, kp, kn] ++ way)) (hf : f < 6) (ht : t < 6) (hl : 0 < way.length) (hw5 : way.length ≤ 5) (hwe : ∀ x ∈ way, ∃ m, m < 4 * ns ∧ x = nI m) : gm_M (fr_P A) fr_X g y_M_led "(I)V" 3 76 [.ref (A 44), .int (nI c)] (fun v r' => v = none ∧ fr_rel ns room idle (fc_fin s c) r') r := by
  have D := J.1
  have n5 := D.1.2.1
  have IK := D.2.2.2.2.2.2.2.2
  have k6 := IK.1
  have hc := (List.getElem?_eq_some_iff.mp hr).1
  obtain ⟨⟨x0, h2⟩, -⟩ := D.2.2.2.2.2.2.2.1
  have hrow := H.2.2.2.2.2.2.2.2.row hr
  have h37 : r.2 37 c = nI 0 := hrow.2.2.2.2.1
  have h40 : r.2 40 c = kp := hrow.2.2.2.2.2.2.2.1
  have h41 : r.2 41 c = kn := hrow.2.2.2.2.2.2.2.2
  have h33 : r.2 33 c = nI (6 * f + t) := hrow.1.trans (fr_pairE f t)
  obtain ⟨mt, hm, hx⟩ := hwe _ (List.getElem_mem hl)
  have hx' : way[0]? = some (nI mt) := by rw [List.getElem?_eq_getElem hl, hx]
  have h39 : r.2 39 (5 * c) = nI (5 * (mt / 4) + mt % 4) := hrow.way (k := 0) hx' (by omega)
  have H1 := H.k1 n5 (q := 34) (x := nI 3) (st' := 3) (aw' := aw) (kp' := kp) hr (IK.w5 c) (Or.inl ⟨rfl, rfl, by decide, rfl, rfl⟩)
  have hr1 : ((fc_up s 7 ((s 7).set c ([nI f, nI t, 3, wv, aw, nI 0, kp, kn] ++ way))) 7)[c]? = some ([nI f, nI t, 3, wv, aw, nI 0, kp, kn] ++ way) := by rw [fc_up_same, List.getElem?_set_self hc]
  have H2 := H1.k1 n5 (q := 40) (x := nI 0) (st' := 3) (aw' := aw) (kp' := 0) hr1 (fun j row hj hj2 => by rw [fc_up_same, List.getElem?_set_ne (Ne.symm hj)] at hj2; exact IK.w5 c j row hj hj2) (Or.inr (Or.inr ⟨rfl, rfl, rfl, rfl⟩))
  rw [fc_set2] at H2
  have rm2 : fr_room ns 46 (fc_up s 7 ((s 7).set c ([nI f, nI t, 3, wv, aw, nI 0, 0, kn] ++ way))) := J.rm46.same (fun i hi => ⟨fc_up_ne _ (by omega), fc_up_ne _ (by omega)⟩)
  have hmq : mt / 4 < ns := by omega
  refine gm_Mof (L0 := [some (.ref (A 44)), some (.int (nI c))]) pl_M_led (am_k1 rfl (am_k1 rfl am_k0)) (Nat.le_of_ble_eq_true rfl) rfl ?_
  refine gm_aload_n d_M_led_0 rfl (by first | exact am_rvR _ | exact am_rvN | assumption) ?_
  refine fr_gA 37 d_M_led_1 f_M_101 (by decide) (by decide) ?_
  refine gm_iload_n d_M_led_4 rfl ?_
  refine fr_aldv d_M_led_5 (by decide) rfl (show _ < 6 by omega) (by first | assumption | (simp only [fr_up_at, fr_up_s, fr_sc_at, fr_sc_a, Nat.reduceEqDiff, false_and, if_false, ite_false, reduceCtorEq]; first | assumption | rfl) | rfl) ?_
  refine gm_if_leN (tgt := 23) d_M_led_6 (by decide) (by omega) (fun _ => ?_) (fun q => absurd q (by omega))
  refine gm_aload_n d_M_led_23 rfl (by first | exact am_rvR _ | exact am_rvN | assumption) ?_
  refine fr_gA 34 d_M_led_24 f_M_92 (by decide) (by decide) ?_
  refine gm_iload_n d_M_led_27 rfl ?_
  refine gm_iconst (v := nI 3) d_M_led_28 (by decide) ?_
  refine fr_ast d_M_led_29 (by decide) rfl (show _ < 6 by omega) ?_
  refine gm_aload_n d_M_led_30 rfl (by first | exact am_rvR _ | exact am_rvN | assumption) ?_
  refine fr_gA 40 d_M_led_31 f_M_110 (by decide) (by decide) ?_
  refine gm_iload_n d_M_led_34 rfl ?_
  refine fr_zldv d_M_led_35 (by decide) rfl (show _ < 6 by omega) (by first | assumption | (simp only [fr_up_at, fr_up_s, fr_sc_at, fr_sc_a, Nat.reduceEqDiff, false_and, if_false, ite_false, reduceCtorEq]; first | assumption | rfl) | rfl) ?_
  first | refine gm_if_eqB (tgt := 86) d_M_led_36 (by decide) (fun q36 => ?_) (fun q36 => ?_) | refine gm_if_eqN (tgt := 86) d_M_led_36 (by decide) (by omega) (fun q36 => ?_) (fun q36 => ?_) | refine gm_if_eq (tgt := 86) d_M_led_36 (by decide) (fun q36 => ?_) (fun q36 => ?_)
  · refine gm_vret d_M_led_86 rfl ?_
    first | (refine ⟨rfl, ?_⟩; rw [fc_fin_yes hr q36 hx' (show mt < 1000 by omega)]; exact H3) | (refine ⟨rfl, ?_⟩; subst q36; rw [fc_fin_no hr]; exact H1)
  · refine gm_aload_n d_M_led_39 rfl (by first | exact am_rvR _ | exact am_rvN | assumption) ?_
    refine fr_gA 40 d_M_led_40 f_M_110 (by decide) (by decide) ?_
    refine gm_iload_n d_M_led_43 rfl ?_
    refine gm_iconst (v := nI 0) d_M_led_44 (by decide) ?_
    refine fr_zst d_M_led_45 (by decide) rfl (show _ < 6 by omega) (by first | rfl | exact am_b_nar _) ?_
    refine gm_aload_n d_M_led_46 rfl (by first | exact am_rvR _ | exact am_rvN | assumption) ?_
    refine gm_aload_n d_M_led_47 rfl (by first | exact am_rvR _ | exact am_rvN | assumption) ?_
    refine fr_gA 39 d_M_led_48 f_M_107 (by decide) (by decide) ?_
    refine gm_iconst (v := nI 5) d_M_led_51 (by decide) ?_
    refine gm_iload_n d_M_led_52 rfl ?_
    first | refine gm_imulN d_M_led_53 ?_ | refine gm_imul d_M_led_53 ?_
    refine fr_aldv d_M_led_54 (by decide) rfl (show _ < 30 by omega) (by first | assumption | (simp only [fr_up_at, fr_up_s, fr_sc_at, fr_sc_a, Nat.reduceEqDiff, false_and, if_false, ite_false, reduceCtorEq]; first | assumption | rfl) | rfl) ?_
    refine gm_iconst (v := nI 5) d_M_led_55 (by decide) ?_
    first | refine gm_idivN d_M_led_56 (by omega) (by omega) (by omega) ?_ | refine gm_idiv d_M_led_56 (by decide) ?_
    rw [show (5 * (mt / 4) + mt % 4) / 5 = mt / 4 by omega]
    refine gm_iconst (v := nI 4) d_M_led_57 (by decide) ?_
    refine gm_aload_n d_M_led_58 rfl (by first | exact am_rvR _ | exact am_rvN | assumption) ?_
    refine fr_gA 33 d_M_led_59 f_M_89 (by decide) (by decide) ?_
    refine gm_iload_n d_M_led_62 rfl ?_
    refine fr_aldv d_M_led_63 (by decide) rfl (show _ < 6 by omega) (by first | assumption | (simp only [fr_up_at, fr_up_s, fr_sc_at, fr_sc_a, Nat.reduceEqDiff, false_and, if_false, ite_false, reduceCtorEq]; first | assumption | rfl) | rfl) ?_
    refine gm_bipush (v := nI 6) d_M_led_64 (by decide) ?_
    first | refine gm_idivN d_M_led_66 (by omega) (by omega) (by omega) ?_ | refine gm_idiv d_M_led_66 (by decide) ?_
    rw [show (6 * f + t) / 6 = f by omega]
    refine gm_aload_n d_M_led_67 rfl (by first | exact am_rvR _ | exact am_rvN | assumption) ?_
    refine fr_gA 33 d_M_led_68 f_M_89 (by decide) (by decide) ?_
    refine gm_iload_n d_M_led_71 rfl ?_
    refine fr_aldv d_M_led_72 (by decide) rfl (show _ < 6 by omega) (by first | assumption | (simp only [fr_up_at, fr_up_s, fr_sc_at, fr_sc_a, Nat.reduceEqDiff, false_and, if_false, ite_false, reduceCtorEq]; first | assumption | rfl) | rfl) ?_
    refine gm_bipush (v := nI 6) d_M_led_73 (by decide) ?_
    first | refine gm_iremN d_M_led_75 (by omega) (by omega) (by omega) ?_ | refine gm_irem d_M_led_75 (by decide) ?_
    rw [show (6 * f + t) % 6 = t by omega]
    refine gm_aload_n d_M_led_76 rfl (by first | exact am_rvR _ | exact am_rvN | assumption) ?_
    refine fr_gA 41 d_M_led_77 f_M_113 (by decide) (by decide) ?_
    refine gm_iload_n d_M_led_80 rfl ?_
    refine fr_aldv d_M_led_81 (by decide) rfl (show _ < 6 by omega) (by first | assumption | (simp only [fr_up_at, fr_up_s, fr_sc_at, fr_sc_a, Nat.reduceEqDiff, false_and, if_false, ite_false, reduceCtorEq]; first | assumption | rfl) | rfl) ?_
    refine gm_iconst (v := nI 0) d_M_led_82 (by decide) ?_
    refine gm_cV (b := A 44) d_M_led_83 v_M_194 (vs := [.int (nI (mt / 4)), .int (nI 4), .int (nI f), .int (nI t), .int kn, .int (nI 0)]) (st := []) rfl rfl (by decide) (Nat.le_of_ble_eq_true rfl) (fr_at _) (rf_orderR (row := [4, -1, nI f, nI t, kn]) H2 n5 (rm2.l60 (by omega)) hmq (by have := (rm2 _ hmq).1; omega) (by omega) rfl) ?_
    rintro v r2 ⟨rfl, H3⟩
    rw [if_pos (Or.inl (by decide))] at H3
    refine gm_vret d_M_led_86 rfl ?_
    first | (refine ⟨rfl, ?_⟩; rw [fc_fin_yes hr q36 hx' (show mt < 1000 by omega)]; exact H3) | (refine ⟨rfl, ?_⟩; subst q36; rw [fc_fin_no hr]; exact H1)
theorem rf_cleared {c f t l : Nat} {wv aw kp kn : Int32} {way : List Int32} (H : fr_rel ns room idle s r) (D : fc_iD ns room s) (hr : (s 7)[c]? = some ([nI f, nI t, 1, wv, aw, nI l, kp, kn] ++ way)) (hf : f < 6) (ht : t < 6) (J : fz_J own W ns room (fc_up s 7 ((s 7).set c ([nI f, nI t, 1, wv, aw - 1, nI l, kp, kn] ++ way)))) : gm_M (fr_P A) fr_X g y_M_cleared "(I)V" 4 99 [.ref (A 44), .int (nI c)] (fun v r' => v = none ∧ fr_rel ns room idle (fc_cnt ns s c) r') r := by
  have n5 := D.1.2.1
  have IK := D.2.2.2.2.2.2.2.2
  have k6 := IK.1
  have hc := (List.getElem?_eq_some_iff.mp hr).1
  have hrow := H.2.2.2.2.2.2.2.2.row hr
  have h36 : r.2 36 c = aw := hrow.2.2.2.1 rfl
  have h40 : r.2 40 c = kp := hrow.2.2.2.2.2.2.2.1
  have h33 : r.2 33 c = nI (6 * f + t) := hrow.1.trans (fr_pairE f t)
  have H1 := H.k1 n5 (q := 36) (x := aw - nI 1) (st' := 1) (aw' := aw - 1) (kp' := kp) hr (IK.w5 c) (Or.inr (Or.inl ⟨rfl, rfl, rfl, rfl⟩))
  have hrI : ((fc_up s 7 ((s 7).set c ([nI f, nI t, 1, wv, aw - 1, nI l, kp, kn] ++ way))) 7)[c]? = some ([nI f, nI t, 1, wv, aw - 1, nI l, kp, kn] ++ way) := by rw [fc_up_same, List.getElem?_set_self hc]
  have IKI := J.1.2.2.2.2.2.2.2.2
  have IoI := J.1.2.2.2.2.2.2.2.1
  obtain ⟨⟨x0, h2⟩, -⟩ := id IoI
  have elen : ((fc_up s 7 ((s 7).set c ([nI f, nI t, 1, wv, aw - 1, nI l, kp, kn] ++ way))) 7).length = (s 7).length := by rw [fc_up_same, List.length_set]
  have eway : fc_wayOf ns (fc_up s 7 ((s 7).set c ([nI f, nI t, 1, wv, aw - 1, nI l, kp, kn] ++ way))) (nI f) (nI t) = fc_wayOf ns s (nI f) (nI t) := fc_wayOf_same (fc_up_ne _ (by omega)) (fc_up_ne _ (by omega)) _ _
  have ecnt := fc_cnt_row (ns := ns) hr
  refine gm_Mof (L0 := [some (.ref (A 44)), some (.int (nI c))]) pl_M_cleared (am_k1 rfl (am_k1 rfl am_k0)) (Nat.le_of_ble_eq_true rfl) rfl ?_
  refine gm_aload_n d_M_cleared_0 rfl (by first | exact am_rvR _ | exact am_rvN | assumption) ?_
  refine fr_gA 36 d_M_cleared_1 f_M_98 (by decide) (by decide) ?_
  refine gm_iload_n d_M_cleared_4 rfl ?_
  refine gm_dup2 d_M_cleared_5 rfl rfl ?_
  refine fr_aldv d_M_cleared_6 (by decide) rfl (show _ < 6 by omega) (by first | assumption | (simp only [fr_up_at, fr_up_s, fr_sc_at, fr_sc_a, Nat.reduceEqDiff, false_and, if_false, ite_false, reduceCtorEq]; first | assumption | rfl) | rfl) ?_
  refine gm_iconst (v := nI 1) d_M_cleared_7 (by decide) ?_
  first | refine gm_isubN d_M_cleared_8 (by omega) ?_ | refine gm_isub d_M_cleared_8 ?_
  refine fr_ast d_M_cleared_9 (by decide) rfl (show _ < 6 by omega) ?_
  refine gm_aload_n d_M_cleared_10 rfl (by first | exact am_rvR _ | exact am_rvN | assumption) ?_
  refine fr_gA 36 d_M_cleared_11 f_M_98 (by decide) (by decide) ?_
  refine gm_iload_n d_M_cleared_14 rfl ?_
  refine fr_aldv d_M_cleared_15 (by decide) rfl (show _ < 6 by omega) (by first | assumption | (simp only [fr_up_at, fr_up_s, fr_sc_at, fr_sc_a, Nat.reduceEqDiff, false_and, if_false, ite_false, reduceCtorEq]; first | assumption | rfl) | rfl) ?_
  first | refine gm_if_leN (tgt := 20) d_M_cleared_16 (by decide) (by omega) (fun q16 => ?_) (fun q16 => ?_) | refine gm_if_le (tgt := 20) d_M_cleared_16 (by decide) (fun q16 => ?_) (fun q16 => ?_)
  · refine gm_aload_n d_M_cleared_20 rfl (by first | exact am_rvR _ | exact am_rvN | assumption) ?_
    refine fr_gA 40 d_M_cleared_21 f_M_110 (by decide) (by decide) ?_
    refine gm_iload_n d_M_cleared_24 rfl ?_
    refine fr_zldv d_M_cleared_25 (by decide) rfl (show _ < 6 by omega) (by first | assumption | (simp only [fr_up_at, fr_up_s, fr_sc_at, fr_sc_a, Nat.reduceEqDiff, false_and, if_false, ite_false, reduceCtorEq]; first | assumption | rfl) | rfl) ?_
    first | refine gm_if_eqB (tgt := 50) d_M_cleared_26 (by decide) (fun q26 => ?_) (fun q26 => ?_) | refine gm_if_eqN (tgt := 50) d_M_cleared_26 (by decide) (by omega) (fun q26 => ?_) (fun q26 => ?_) | refine gm_if_eq (tgt := 50) d_M_cleared_26 (by decide) (fun q26 => ?_) (fun q26 => ?_)
    · refine gm_aload_n d_M_cleared_50 rfl (by first | exact am_rvR _ | exact am_rvN | assumption) ?_
      refine gm_iload_n d_M_cleared_51 rfl ?_
      refine gm_cV (b := A 44) d_M_cleared_52 v_M_258 (vs := [.int (nI c)]) (st := []) rfl rfl (by decide) (Nat.le_of_ble_eq_true rfl) (fr_at _) (rf_drop (n := (s 7).length) hc (by rw [← elen]; exact H1.2.2.2.2.2.2.2.2.2.1) k6 (by rw [← elen]; exact IKI.kp01 H1)) ?_
      rintro v r3 ⟨rfl, hr3⟩
      subst hr3
      have H3 := H1.drp n5 (show c < ((fc_up s 7 ((s 7).set c ([nI f, nI t, 1, wv, aw - 1, nI l, kp, kn] ++ way))) 7).length by rw [elen]; exact hc) (fun j row hj => by by_cases e : j = c + 1; exact IKI.w5 c j row (by omega) hj; exact IKI.w5 (c + 1) j row e hj)
      rw [elen, fc_del_set] at H3
      refine gm_vret d_M_cleared_55 rfl ?_
      exact ⟨rfl, by rw [ecnt, if_neg (show ¬ 0 < aw - 1 from fun z => absurd z (Int32.not_lt.mpr q16)), if_pos (Or.inl q26)]; exact H3⟩
    · refine gm_aload_n d_M_cleared_29 rfl (by first | exact am_rvR _ | exact am_rvN | assumption) ?_
      refine gm_aload_n d_M_cleared_30 rfl (by first | exact am_rvR _ | exact am_rvN | assumption) ?_
      refine fr_gA 33 d_M_cleared_31 f_M_89 (by decide) (by decide) ?_
      refine gm_iload_n d_M_cleared_34 rfl ?_
      refine fr_aldv d_M_cleared_35 (by decide) rfl (show _ < 6 by omega) (by first | assumption | (simp only [fr_up_at, fr_up_s, fr_sc_at, fr_sc_a, Nat.reduceEqDiff, false_and, if_false, ite_false, reduceCtorEq]; first | assumption | rfl) | rfl) ?_
      refine gm_cV (b := A 44) d_M_cleared_36 v_M_243 (vs := [.int (nI (6 * f + t))]) (st := []) rfl rfl (by decide) (Nat.le_of_ble_eq_true rfl) (fr_at _) (rf_search H1 J.1 hf ht) ?_
      rintro v r2 ⟨rfl, hs2, hfd⟩
      rw [eway] at hfd
      have H2 := H1.scr hs2
      first | refine gm_if_eqB (tgt := 50) d_M_cleared_39 (by decide) (fun q39 => ?_) (fun q39 => ?_) | refine gm_if_eqN (tgt := 50) d_M_cleared_39 (by decide) (by omega) (fun q39 => ?_) (fun q39 => ?_) | refine gm_if_eq (tgt := 50) d_M_cleared_39 (by decide) (fun q39 => ?_) (fun q39 => ?_)
      · have hwe : (fc_wayOf ns s (nI f) (nI t)).isEmpty = true := by rw [eway] at q39; simpa using q39
        refine gm_aload_n d_M_cleared_50 rfl (by first | exact am_rvR _ | exact am_rvN | assumption) ?_
        refine gm_iload_n d_M_cleared_51 rfl ?_
        refine gm_cV (b := A 44) d_M_cleared_52 v_M_258 (vs := [.int (nI c)]) (st := []) rfl rfl (by decide) (Nat.le_of_ble_eq_true rfl) (fr_at _) (rf_drop (n := (s 7).length) hc (by rw [← elen]; exact H2.2.2.2.2.2.2.2.2.2.1) k6 (by rw [← elen]; exact IKI.kp01 H2)) ?_
        rintro v r3 ⟨rfl, hr3⟩
        subst hr3
        have H3 := H2.drp n5 (show c < ((fc_up s 7 ((s 7).set c ([nI f, nI t, 1, wv, aw - 1, nI l, kp, kn] ++ way))) 7).length by rw [elen]; exact hc) (fun j row hj => by by_cases e : j = c + 1; exact IKI.w5 c j row (by omega) hj; exact IKI.w5 (c + 1) j row e hj)
        rw [elen, fc_del_set] at H3
        refine gm_vret d_M_cleared_55 rfl ?_
        exact ⟨rfl, by rw [ecnt, if_neg (show ¬ 0 < aw - 1 from fun z => absurd z (Int32.not_lt.mpr q16)), if_pos (Or.inr hwe)]; exact H3⟩
      · have hwne : fc_wayOf ns s (nI f) (nI t) ≠ [] := fun z => by rw [eway, z] at q39; cases q39
        refine gm_aload_n d_M_cleared_42 rfl (by first | exact am_rvR _ | exact am_rvN | assumption) ?_
        refine gm_iload_n d_M_cleared_43 rfl ?_
        refine gm_cV (b := A 44) d_M_cleared_44 v_M_246 (vs := [.int (nI c)]) (st := []) rfl rfl (by decide) (Nat.le_of_ble_eq_true rfl) (fr_at _) (rf_lay (way := fc_wayOf ns s (nI f) (nI t)) (H2.rx c) n5 J.rm46 (by omega) h2 hrI (IKI.w5 c) hf ht IoI ((H2.2.2.2.2.2.2.2.2.row hrI).1.trans (fr_pairE f t)) (H2.2.2.2.2.2.2.2.2.row hrI).2.2.2.2.2.2.2.1 (H2.2.2.2.2.2.2.2.2.row hrI).2.2.2.2.2.2.2.2 eway.symm hwne (hfd hwne)) ?_
        rintro v r3 ⟨rfl, H3⟩
        refine gm_goto (tgt := 55) d_M_cleared_47 (by decide) ?_
        refine gm_vret d_M_cleared_55 rfl ?_
        exact ⟨rfl, by rw [ecnt, if_neg (show ¬ 0 < aw - 1 from fun z => absurd z (Int32.not_lt.mpr q16)), if_neg (fun z => z.elim q26 (fun z2 => hwne (List.isEmpty_iff.mp z2)))]; exact H3⟩
  · refine gm_vret d_M_cleared_19 rfl ?_
    exact ⟨rfl, by rw [ecnt, if_pos (show 0 < aw - 1 from Int32.not_le.mp q16)]; exact H1⟩
theorem rf_done {i : Nat} {wv : Int32} {rest : List (List Int32)} (H : fr_rel ns room idle (fc_del s (40 + i) 0) r) (J : fz_J own W ns room s) (hi : i < ns) (hr : s (40 + i) = [2, wv, -1, -1, 0] :: rest) : gm_M (fr_P A) fr_X g y_M_done "(I)V" 5 120 [.ref (A 44), .int wv] (fun v r' => v = none ∧ fr_rel ns room idle (fc_done ns (fc_del s (40 + i) 0) wv) r') r := by
  have n5 := J.1.1.2.1
  have D1 : fc_iD ns room (fc_del s (40 + i) 0) := J.1.delL 0 (Or.inr ⟨by omega, by omega⟩)
  have IK := D1.2.2.2.2.2.2.2.2
  have k6 := IK.1
  have e7 : (fc_del s (40 + i) 0) 7 = s 7 := fc_del_ne _ (by omega)
  have h32 : r.1 32 = nI ((fc_del s (40 + i) 0) 7).length := H.2.2.2.2.2.2.2.2.2.1
  have key : ∀ (q k : Nat), k + q = ((fc_del s (40 + i) 0) 7).length → (∀ (j : Nat) (row : List Int32), j < k → ((fc_del s (40 + i) 0) 7)[j]? = some row → row.getD 3 0 ≠ wv) → gm_W (fr_P A) fr_X g y_M_done 5 120 (fun v r' => v = none ∧ fr_rel ns room idle (fc_done ns (fc_del s (40 + i) 0) wv) r') 2 [some (.ref (A 44)), some (.int wv), some (.int (nI k))] [] r := by
    intro q
    induction q with
    | zero =>
      intro k hk hj
      refine gm_iload_n d_M_done_2 rfl ?_
      refine gm_aload_n d_M_done_3 rfl (by first | exact am_rvR _ | exact am_rvN | assumption) ?_
      refine fr_gSv 32 d_M_done_4 f_M_206 (by decide) rfl (by first | assumption | (simp only [fr_up_at, fr_up_s, fr_sc_at, fr_sc_a, Nat.reduceEqDiff, false_and, if_false, ite_false, reduceCtorEq]; first | assumption | rfl) | rfl) ?_
      refine gm_icmp_geN (tgt := 60) d_M_done_7 (by decide) (by omega) (by omega) (fun _ => ?_) (fun q => absurd q (by omega))
      refine gm_vret d_M_done_60 rfl ?_
      exact ⟨rfl, by rw [fc_done_no (fun j row hr' => hj j row (by have := (List.getElem?_eq_some_iff.mp hr').1; omega) hr')]; exact H⟩
    | succ q ih =>
      intro k hk hj
      obtain ⟨f, t, l, st, wv', aw, kp, kn, way, hrk, h1, h2, h4, h5, h6, h7, h8, h9⟩ := IK.row (show k < ((fc_del s (40 + i) 0) 7).length by omega)
      have hrow := H.2.2.2.2.2.2.2.2.row hrk
      have h35 : r.2 35 k = wv' := hrow.2.2.1
      have h34 : r.2 34 k = st := hrow.2.1
      have hrk0 : (s 7)[k]? = some ([nI f, nI t, st, wv', aw, nI l, kp, kn] ++ way) := by rw [← e7]; exact hrk
      refine gm_iload_n d_M_done_2 rfl ?_
      refine gm_aload_n d_M_done_3 rfl (by first | exact am_rvR _ | exact am_rvN | assumption) ?_
      refine fr_gSv 32 d_M_done_4 f_M_206 (by decide) rfl (by first | assumption | (simp only [fr_up_at, fr_up_s, fr_sc_at, fr_sc_a, Nat.reduceEqDiff, false_and, if_false, ite_false, reduceCtorEq]; first | assumption | rfl) | rfl) ?_
      refine gm_icmp_geN (tgt := 60) d_M_done_7 (by decide) (by omega) (by omega) (fun q => absurd q (by omega)) (fun _ => ?_)
      refine gm_aload_n d_M_done_10 rfl (by first | exact am_rvR _ | exact am_rvN | assumption) ?_
      refine fr_gA 35 d_M_done_11 f_M_95 (by decide) (by decide) ?_
      refine gm_iload_n d_M_done_14 rfl ?_
      refine fr_aldv d_M_done_15 (by decide) rfl (show _ < 6 by omega) (by first | assumption | (simp only [fr_up_at, fr_up_s, fr_sc_at, fr_sc_a, Nat.reduceEqDiff, false_and, if_false, ite_false, reduceCtorEq]; first | assumption | rfl) | rfl) ?_
      refine gm_iload_n d_M_done_16 rfl ?_
      first | refine gm_icmp_neN (tgt := 54) d_M_done_17 (by decide) (by omega) (by omega) (fun q17 => ?_) (fun q17 => ?_) | refine gm_icmp_ne (tgt := 54) d_M_done_17 (by decide) (fun q17 => ?_) (fun q17 => ?_)
      · first | refine gm_iincN (b := 1) (L1 := [_, _, _]) d_M_done_54 rfl (by decide) (by decide) rfl ?_ | refine gm_iinc (L1 := [_, _, _]) d_M_done_54 rfl rfl (by decide) rfl ?_
        refine gm_goto (tgt := 2) d_M_done_57 (by decide) ?_
        exact ih (k + 1) (by omega) (fun j row hj2 hr2 => by
          by_cases e : j = k
          · subst e
            rw [hrk] at hr2
            cases hr2
            exact q17
          · exact hj j row (by omega) hr2)
      · subst q17
        refine gm_aload_n d_M_done_20 rfl (by first | exact am_rvR _ | exact am_rvN | assumption) ?_
        refine fr_gA 34 d_M_done_21 f_M_92 (by decide) (by decide) ?_
        refine gm_iload_n d_M_done_24 rfl ?_
        refine fr_aldv d_M_done_25 (by decide) rfl (show _ < 6 by omega) (by first | assumption | (simp only [fr_up_at, fr_up_s, fr_sc_at, fr_sc_a, Nat.reduceEqDiff, false_and, if_false, ite_false, reduceCtorEq]; first | assumption | rfl) | rfl) ?_
        refine gm_iconst (v := nI 1) d_M_done_26 (by decide) ?_
        first | refine gm_icmp_neN (tgt := 38) d_M_done_27 (by decide) (by omega) (by omega) (fun q27 => ?_) (fun q27 => ?_) | refine gm_icmp_ne (tgt := 38) d_M_done_27 (by decide) (fun q27 => ?_) (fun q27 => ?_)
        · refine gm_aload_n d_M_done_38 rfl (by first | exact am_rvR _ | exact am_rvN | assumption) ?_
          refine fr_gA 34 d_M_done_39 f_M_92 (by decide) (by decide) ?_
          refine gm_iload_n d_M_done_42 rfl ?_
          refine fr_aldv d_M_done_43 (by decide) rfl (show _ < 6 by omega) (by first | assumption | (simp only [fr_up_at, fr_up_s, fr_sc_at, fr_sc_a, Nat.reduceEqDiff, false_and, if_false, ite_false, reduceCtorEq]; first | assumption | rfl) | rfl) ?_
          refine gm_iconst (v := nI 2) d_M_done_44 (by decide) ?_
          first | refine gm_icmp_neN (tgt := 53) d_M_done_45 (by decide) (by omega) (by omega) (fun q45 => ?_) (fun q45 => ?_) | refine gm_icmp_ne (tgt := 53) d_M_done_45 (by decide) (fun q45 => ?_) (fun q45 => ?_)
          · refine gm_vret d_M_done_53 rfl ?_
            first | (refine ⟨rfl, ?_⟩; rw [fc_done_row hrk hj, if_pos (show (nI 1 : Int32) = 1 by decide)]; exact H1) | (refine ⟨rfl, ?_⟩; rw [fc_done_row hrk hj, if_neg (show ¬ st = 1 from q27), if_neg (show ¬ st = 2 from q45)]; exact H)
          · have Jh := J.heard2 hi hr hrk0 rfl (show ¬ st = 1 from q27)
            subst q45
            rcases Nat.eq_zero_or_pos l with l0 | l0
            · subst l0
              refine gm_aload_n d_M_done_48 rfl (by first | exact am_rvR _ | exact am_rvN | assumption) ?_
              refine gm_iload_n d_M_done_49 rfl ?_
              refine gm_cV (b := A 44) d_M_done_50 v_M_255 (vs := [.int (nI k)]) (st := []) rfl rfl (by decide) (Nat.le_of_ble_eq_true rfl) (fr_at _) (rf_led0 H Jh hrk h1 h2 (by omega) h7 h9) ?_
              rintro v r1 ⟨rfl, H1⟩
              refine gm_vret d_M_done_53 rfl ?_
              exact ⟨rfl, by rw [fc_done_row hrk hj, if_neg (show ¬ (nI 2 : Int32) = 1 by decide), if_pos (show (nI 2 : Int32) = 2 by decide), if_neg (show ¬ (0 : Int32) < nI 0 by decide)]; exact H1⟩
            · obtain ⟨l', rfl⟩ : ∃ l', l = l' + 1 := ⟨l - 1, by omega⟩
              refine gm_aload_n d_M_done_48 rfl (by first | exact am_rvR _ | exact am_rvN | assumption) ?_
              refine gm_iload_n d_M_done_49 rfl ?_
              refine gm_cV (b := A 44) d_M_done_50 v_M_255 (vs := [.int (nI k)]) (st := []) rfl rfl (by decide) (Nat.le_of_ble_eq_true rfl) (fr_at _) (rf_led1 H Jh hrk h1 h2 (by omega) h7 h9) ?_
              rintro v r1 ⟨rfl, H1⟩
              refine gm_vret d_M_done_53 rfl ?_
              exact ⟨rfl, by rw [fc_done_row hrk hj, if_neg (show ¬ (nI 2 : Int32) = 1 by decide), if_pos (show (nI 2 : Int32) = 2 by decide), if_pos (show (0 : Int32) < nI (l' + 1) from am_pos (by omega) (by omega))]; exact H1⟩
        · subst q27
          refine gm_aload_n d_M_done_30 rfl (by first | exact am_rvR _ | exact am_rvN | assumption) ?_
          refine gm_iload_n d_M_done_31 rfl ?_
          refine gm_cV (b := A 44) d_M_done_32 v_M_252 (vs := [.int (nI k)]) (st := []) rfl rfl (by decide) (Nat.le_of_ble_eq_true rfl) (fr_at _) (rf_cleared H D1 hrk h1 h2 (J.count hi hr hrk0).1) ?_
          rintro v r1 ⟨rfl, H1⟩
          refine gm_goto (tgt := 53) d_M_done_35 (by decide) ?_
          refine gm_vret d_M_done_53 rfl ?_
          first | (refine ⟨rfl, ?_⟩; rw [fc_done_row hrk hj, if_pos (show (nI 1 : Int32) = 1 by decide)]; exact H1) | (refine ⟨rfl, ?_⟩; rw [fc_done_row hrk hj, if_neg (show ¬ st = 1 from q27), if_neg (show ¬ st = 2 from q45)]; exact H)
  refine gm_Mof (L0 := [some (.ref (A 44)), some (.int wv), none]) pl_M_done (am_k1 rfl (am_k1 rfl am_k0)) (Nat.le_of_ble_eq_true rfl) rfl ?_
  refine gm_iconst (v := nI 0) d_M_done_0 (by decide) ?_
  refine gm_istore_n (L1 := [_, _, _]) d_M_done_1 (by decide) rfl ?_
  exact key ((fc_del s (40 + i) 0) 7).length 0 (by omega) (fun j row hj => absurd hj (Nat.not_lt_zero _))
end RES
