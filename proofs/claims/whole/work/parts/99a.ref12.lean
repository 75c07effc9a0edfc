/-! the reference: a course is led ahead, cleared -/
section REQ
variable {g : am_G} {A : Nat → Nat} {r : fr_S} {ns room idle : Nat} {s : fc_S} {own : Int32 → Int32 × Int32} {W : Nat}
theorem rf_lead {c k f t mt : Nat} {st wv aw ld kp kn x0 : Int32} {way : List Int32} (H : fr_rel ns room idle s r) (n5 : ns ≤ 5) (hrm : fr_room ns 46 s) (hc6 : c < 6) (h2 : s 2 = [[x0]]) (hr : (s 7)[c]? = some ([nI f, nI t, st, wv, aw, ld, kp, kn] ++ way)) (w5 : ∀ (j : Nat) (row : List Int32), j ≠ c → (s 7)[j]? = some row → (row.drop 8).length ≤ 5) (hf : f < 6) (ht : t < 6) (hk : k < 5) (hx : way[k]? = some (nI mt)) (hm : mt < 4 * ns) : gm_M (fr_P A) fr_X g y_M_lead "(II)V" 2 53 [.ref (A 44), .int (nI c), .int (nI k)] (fun v r' => v = none ∧ fr_rel ns room idle (fc_add (fc_add (fc_up (fc_put s 2 0 0 (x0 + 1)) 7 ((s 7).set c ([nI f, nI t, st, x0 + 1, aw, nI k, kp, kn] ++ way))) (30 + mt / 4) [0, nI (mt % 4), nI f, nI t, 0]) (30 + mt / 4) [2, x0 + 1, -1, -1, 0]) r') r := by
  have hc := (List.getElem?_eq_some_iff.mp hr).1
  have h31 : r.1 31 = x0 := by
    rw [H.2.2.2.2.2.2.2.2.1]
    unfold fc_get
    rw [h2]
    rfl
  have H1 := H.ld1 n5 (k := k) h2 hr w5
  have hrow := H.2.2.2.2.2.2.2.2.row hr
  have h39 : r.2 39 (5 * c + k) = nI (5 * (mt / 4) + mt % 4) := hrow.way hx (by omega)
  have h33 : r.2 33 c = nI (6 * f + t) := hrow.1.trans (fr_pairE f t)
  have rm1 : fr_room ns 46 (fc_up (fc_put s 2 0 0 (x0 + 1)) 7 ((s 7).set c ([nI f, nI t, st, x0 + 1, aw, nI k, kp, kn] ++ way))) := hrm.same (fun i hi => ⟨by rw [fc_up_ne _ (by omega), fc_put_ne _ _ _ (by omega)], by rw [fc_up_ne _ (by omega), fc_put_ne _ _ _ (by omega)]⟩)
  have hmq : mt / 4 < ns := by omega
  have d5 : (5 * (mt / 4) + mt % 4) / 5 = mt / 4 := by omega
  have m5 : (5 * (mt / 4) + mt % 4) % 5 = mt % 4 := by omega
  refine gm_Mof (L0 := [some (.ref (A 44)), some (.int (nI c)), some (.int (nI k)), none]) pl_M_lead (am_k1 rfl (am_k1 rfl (am_k1 rfl am_k0))) (Nat.le_of_ble_eq_true rfl) rfl ?_
  refine gm_aload_n d_M_lead_0 rfl (by first | exact am_rvR _ | exact am_rvN | assumption) ?_
  refine fr_gA 37 d_M_lead_1 f_M_101 (by decide) (by decide) ?_
  refine gm_iload_n d_M_lead_4 rfl ?_
  refine gm_iload_n d_M_lead_5 rfl ?_
  refine fr_ast d_M_lead_6 (by decide) rfl (show _ < 6 by omega) ?_
  refine gm_aload_n d_M_lead_7 rfl (by first | exact am_rvR _ | exact am_rvN | assumption) ?_
  refine gm_dup d_M_lead_8 rfl ?_
  refine fr_gSv 31 d_M_lead_9 f_M_209 (by decide) rfl (by first | assumption | (simp only [fr_up_at, fr_up_s, fr_sc_at, fr_sc_a, Nat.reduceEqDiff, false_and, if_false, ite_false, reduceCtorEq]; first | assumption | rfl) | rfl) ?_
  refine gm_iconst (v := nI 1) d_M_lead_12 (by decide) ?_
  first | refine gm_iaddN d_M_lead_13 ?_ | refine gm_iadd d_M_lead_13 ?_
  refine fr_pS 31 d_M_lead_14 f_M_209 (p_M_209 _) (by decide) rfl ?_
  refine gm_aload_n d_M_lead_17 rfl (by first | exact am_rvR _ | exact am_rvN | assumption) ?_
  refine fr_gA 35 d_M_lead_18 f_M_95 (by decide) (by decide) ?_
  refine gm_iload_n d_M_lead_21 rfl ?_
  refine gm_aload_n d_M_lead_22 rfl (by first | exact am_rvR _ | exact am_rvN | assumption) ?_
  refine fr_gSv 31 d_M_lead_23 f_M_209 (by decide) rfl (by first | assumption | (simp only [fr_up_at, fr_up_s, fr_sc_at, fr_sc_a, Nat.reduceEqDiff, false_and, if_false, ite_false, reduceCtorEq]; first | assumption | rfl) | rfl) ?_
  refine fr_ast d_M_lead_26 (by decide) rfl (show _ < 6 by omega) ?_
  refine gm_aload_n d_M_lead_27 rfl (by first | exact am_rvR _ | exact am_rvN | assumption) ?_
  refine fr_gA 39 d_M_lead_28 f_M_107 (by decide) (by decide) ?_
  refine gm_iconst (v := nI 5) d_M_lead_31 (by decide) ?_
  refine gm_iload_n d_M_lead_32 rfl ?_
  first | refine gm_imulN d_M_lead_33 ?_ | refine gm_imul d_M_lead_33 ?_
  refine gm_iload_n d_M_lead_34 rfl ?_
  first | refine gm_iaddN d_M_lead_35 ?_ | refine gm_iadd d_M_lead_35 ?_
  refine fr_aldv d_M_lead_36 (by decide) rfl (show _ < 30 by omega) (by first | assumption | (simp only [fr_up_at, fr_up_s, fr_sc_at, fr_sc_a, Nat.reduceEqDiff, false_and, if_false, ite_false, reduceCtorEq]; first | assumption | rfl) | rfl) ?_
  refine gm_istore_n (L1 := [_, _, _, _]) d_M_lead_37 (by decide) rfl ?_
  refine gm_aload_n d_M_lead_38 rfl (by first | exact am_rvR _ | exact am_rvN | assumption) ?_
  refine gm_iload_n d_M_lead_39 rfl ?_
  refine gm_iconst (v := nI 5) d_M_lead_40 (by decide) ?_
  first | refine gm_idivN d_M_lead_41 (by omega) (by omega) (by omega) ?_ | refine gm_idiv d_M_lead_41 (by decide) ?_
  rw [d5]
  refine gm_iconst (v := nI 0) d_M_lead_42 (by decide) ?_
  refine gm_aload_n d_M_lead_43 rfl (by first | exact am_rvR _ | exact am_rvN | assumption) ?_
  refine fr_gA 33 d_M_lead_44 f_M_89 (by decide) (by decide) ?_
  refine gm_iload_n d_M_lead_47 rfl ?_
  refine fr_aldv d_M_lead_48 (by decide) rfl (show _ < 6 by omega) (by first | assumption | (simp only [fr_up_at, fr_up_s, fr_sc_at, fr_sc_a, Nat.reduceEqDiff, false_and, if_false, ite_false, reduceCtorEq]; first | assumption | rfl) | rfl) ?_
  refine gm_iload_n d_M_lead_49 rfl ?_
  refine gm_iconst (v := nI 5) d_M_lead_50 (by decide) ?_
  first | refine gm_iremN d_M_lead_51 (by omega) (by omega) (by omega) ?_ | refine gm_irem d_M_lead_51 (by decide) ?_
  rw [m5]
  refine gm_iconst (v := nI 0) d_M_lead_52 (by decide) ?_
  refine gm_iconst (v := nI 0) d_M_lead_53 (by decide) ?_
  refine gm_cV (b := A 44) d_M_lead_54 v_M_194 (vs := [.int (nI (mt / 4)), .int (nI 0), .int (nI (6 * f + t)), .int (nI (mt % 4)), .int (nI 0), .int (nI 0)]) (st := []) rfl rfl (by decide) (Nat.le_of_ble_eq_true rfl) (fr_at _) (rf_orderR (row := [0, nI (mt % 4), nI f, nI t, 0]) H1 n5 (rm1.l60 (by omega)) hmq (by have := (rm1 _ hmq).1; omega) (by omega) (by rw [← fr_pairE]; rfl)) ?_
  rintro v r1 ⟨rfl, H2⟩
  rw [if_pos (Or.inl (by decide))] at H2
  have rm2 := rm1.add n5 hmq [0, nI (mt % 4), nI f, nI t, 0]
  have h31b : r1.1 31 = x0 + nI 1 := by
    rw [H2.2.2.2.2.2.2.2.2.1]
    unfold fc_get
    rw [fc_add_ne _ (by omega), fc_up_ne _ (by omega)]
    unfold fc_put
    rw [fc_up_same, h2]
    rfl
  refine gm_aload_n d_M_lead_57 rfl (by first | exact am_rvR _ | exact am_rvN | assumption) ?_
  refine gm_iload_n d_M_lead_58 rfl ?_
  refine gm_iconst (v := nI 5) d_M_lead_59 (by decide) ?_
  first | refine gm_idivN d_M_lead_60 (by omega) (by omega) (by omega) ?_ | refine gm_idiv d_M_lead_60 (by decide) ?_
  rw [d5]
  refine gm_iconst (v := nI 2) d_M_lead_61 (by decide) ?_
  refine gm_aload_n d_M_lead_62 rfl (by first | exact am_rvR _ | exact am_rvN | assumption) ?_
  refine fr_gSv 31 d_M_lead_63 f_M_209 (by decide) rfl (by first | assumption | (simp only [fr_up_at, fr_up_s, fr_sc_at, fr_sc_a, Nat.reduceEqDiff, false_and, if_false, ite_false, reduceCtorEq]; first | assumption | rfl) | rfl) ?_
  refine gm_iconst (v := nI 0) d_M_lead_66 (by decide) ?_
  refine gm_iconst (v := nI 0) d_M_lead_67 (by decide) ?_
  refine gm_iconst (v := nI 0) d_M_lead_68 (by decide) ?_
  refine gm_cV (b := A 44) d_M_lead_69 v_M_194 (vs := [.int (nI (mt / 4)), .int (nI 2), .int (x0 + nI 1), .int (nI 0), .int (nI 0), .int (nI 0)]) (st := []) rfl rfl (by decide) (Nat.le_of_ble_eq_true rfl) (fr_at _) (rf_orderR (row := [2, x0 + 1, -1, -1, 0]) H2 n5 (rm2.l60 (by omega)) hmq (by have := (rm2 _ hmq).1; omega) (by omega) rfl) ?_
  rintro v r2 ⟨rfl, H3⟩
  rw [if_pos (Or.inl (by decide))] at H3
  refine gm_vret d_M_lead_72 rfl ?_
  exact ⟨rfl, H3⟩
theorem rf_clear {c f t : Nat} {st wv aw ld kp kn x0 : Int32} {way : List Int32} (H : fr_rel ns room idle s r) (n5 : ns ≤ 5) (hrm : fr_room ns 46 s) (hc6 : c < 6) (h2 : s 2 = [[x0]]) (hr : (s 7)[c]? = some ([nI f, nI t, st, wv, aw, ld, kp, kn] ++ way)) (w5 : ∀ (j : Nat) (row : List Int32), j ≠ c → (s 7)[j]? = some row → (row.drop 8).length ≤ 5) (hf : f < 6) (ht : t < 6) (hw5 : way.length ≤ 5) (hwe : ∀ x ∈ way, ∃ m, m < 4 * ns ∧ x = nI m) : gm_M (fr_P A) fr_X g y_M_clear "(I)V" 2 53 [.ref (A 44), .int (nI c)] (fun v r' => v = none ∧ fr_rel ns room idle (fc_clr s c) r') r := by
  have hc := (List.getElem?_eq_some_iff.mp hr).1
  have h31 : r.1 31 = x0 := by
    rw [H.2.2.2.2.2.2.2.2.1]
    unfold fc_get
    rw [h2]
    rfl
  have h38 : r.2 38 c = nI way.length := (H.2.2.2.2.2.2.2.2.row hr).2.2.2.2.2.1
  have H1 := H.cl1 n5 h2 hr w5
  obtain ⟨ecb, ew, e20, e70, e71⟩ := fc_cb_eq hr h2
  have row7 : ∀ j, (fc_cj s c j 7)[c]? = some ([nI f, nI t, 1, x0 + 1, nI way.length, ld, kp, kn] ++ way) := fun j => by
    unfold fc_cj
    rw [fc_fold_ne (by omega), ecb, fc_up_same, List.getElem?_set_self hc]
  have row2 : ∀ j, fc_cj s c j 2 = [[x0 + 1]] := fun j => by
    unfold fc_cj
    rw [fc_fold_ne (by omega), ecb, fc_up_ne _ (by omega)]
    unfold fc_put
    rw [fc_up_same, h2]
    rfl
  have key : ∀ (q j : Nat) (x3 : Option Value) (r1 : fr_S), j + q = way.length → fr_rel ns room idle (fc_cj s c j) r1 → fr_room ns (46 + 2 * j) (fc_cj s c j) → gm_W (fr_P A) fr_X g y_M_clear 2 53 (fun v r' => v = none ∧ fr_rel ns room idle (fc_clr s c) r') 41 [some (.ref (A 44)), some (.int (nI c)), some (.int (nI j)), x3] [] r1 := by
    intro q
    induction q with
    | zero =>
      intro j x3 r1 hj H2 rm
      have h38b : r1.2 38 c = nI way.length := (H2.2.2.2.2.2.2.2.2.row (row7 j)).2.2.2.2.2.1
      have ej : j = (fc_way s c).length := by rw [ew]; omega
      rw [ej, fc_cj_n] at H2
      refine gm_iload_n d_M_clear_41 rfl ?_
      refine gm_aload_n d_M_clear_42 rfl (by first | exact am_rvR _ | exact am_rvN | assumption) ?_
      refine fr_gA 38 d_M_clear_43 f_M_104 (by decide) (by decide) ?_
      refine gm_iload_n d_M_clear_46 rfl ?_
      refine fr_aldv d_M_clear_47 (by decide) rfl (show _ < 6 by omega) (by first | assumption | (simp only [fr_up_at, fr_up_s, fr_sc_at, fr_sc_a, Nat.reduceEqDiff, false_and, if_false, ite_false, reduceCtorEq]; first | assumption | rfl) | rfl) ?_
      refine gm_icmp_geN (tgt := 98) d_M_clear_48 (by decide) (by omega) (by omega) (fun _ => ?_) (fun q => absurd q (by omega))
      refine gm_vret d_M_clear_98 rfl ?_
      exact ⟨rfl, H2⟩
    | succ q ih =>
      intro j x3 r1 hj H2 rm
      have hjl : j < way.length := by omega
      obtain ⟨mt, hm, hx⟩ := hwe _ (List.getElem_mem hjl)
      have hx' : way[j]? = some (nI mt) := by rw [List.getElem?_eq_getElem hjl, hx]
      have hrow := H2.2.2.2.2.2.2.2.2.row (row7 j)
      have h38b : r1.2 38 c = nI way.length := hrow.2.2.2.2.2.1
      have h39b : r1.2 39 (5 * c + j) = nI (5 * (mt / 4) + mt % 4) := hrow.way hx' (by omega)
      have h33b : r1.2 33 c = nI (6 * f + t) := hrow.1.trans (fr_pairE f t)
      have h31b : r1.1 31 = x0 + 1 := by
        rw [H2.2.2.2.2.2.2.2.2.1]
        unfold fc_get
        rw [row2 j]
        rfl
      have hmq : mt / 4 < ns := by omega
      have d5 : (5 * (mt / 4) + mt % 4) / 5 = mt / 4 := by omega
      have ejs : fc_cj s c (j + 1) = fc_add (fc_add (fc_cj s c j) (30 + mt / 4) [1, -1, nI f, nI t, 0]) (30 + mt / 4) [2, x0 + 1, -1, -1, 0] := by
        rw [fc_cj_s (x := nI mt) (by rw [ew]; exact hx'), e20, e70, e71, fc_ord_nI _ (by omega), fc_ord_nI _ (by omega)]
      have rm1 := rm.add n5 hmq [1, -1, nI f, nI t, 0]
      have rm2 := rm1.add n5 hmq [2, x0 + 1, -1, -1, 0]
      refine gm_iload_n d_M_clear_41 rfl ?_
      refine gm_aload_n d_M_clear_42 rfl (by first | exact am_rvR _ | exact am_rvN | assumption) ?_
      refine fr_gA 38 d_M_clear_43 f_M_104 (by decide) (by decide) ?_
      refine gm_iload_n d_M_clear_46 rfl ?_
      refine fr_aldv d_M_clear_47 (by decide) rfl (show _ < 6 by omega) (by first | assumption | (simp only [fr_up_at, fr_up_s, fr_sc_at, fr_sc_a, Nat.reduceEqDiff, false_and, if_false, ite_false, reduceCtorEq]; first | assumption | rfl) | rfl) ?_
      refine gm_icmp_geN (tgt := 98) d_M_clear_48 (by decide) (by omega) (by omega) (fun q => absurd q (by omega)) (fun _ => ?_)
      refine gm_aload_n d_M_clear_51 rfl (by first | exact am_rvR _ | exact am_rvN | assumption) ?_
      refine fr_gA 39 d_M_clear_52 f_M_107 (by decide) (by decide) ?_
      refine gm_iconst (v := nI 5) d_M_clear_55 (by decide) ?_
      refine gm_iload_n d_M_clear_56 rfl ?_
      first | refine gm_imulN d_M_clear_57 ?_ | refine gm_imul d_M_clear_57 ?_
      refine gm_iload_n d_M_clear_58 rfl ?_
      first | refine gm_iaddN d_M_clear_59 ?_ | refine gm_iadd d_M_clear_59 ?_
      refine fr_aldv d_M_clear_60 (by decide) rfl (show _ < 30 by omega) (by first | assumption | (simp only [fr_up_at, fr_up_s, fr_sc_at, fr_sc_a, Nat.reduceEqDiff, false_and, if_false, ite_false, reduceCtorEq]; first | assumption | rfl) | rfl) ?_
      refine gm_iconst (v := nI 5) d_M_clear_61 (by decide) ?_
      first | refine gm_idivN d_M_clear_62 (by omega) (by omega) (by omega) ?_ | refine gm_idiv d_M_clear_62 (by decide) ?_
      rw [d5]
      refine gm_istore_n (L1 := [_, _, _, _]) d_M_clear_63 (by decide) rfl ?_
      refine gm_aload_n d_M_clear_64 rfl (by first | exact am_rvR _ | exact am_rvN | assumption) ?_
      refine gm_iload_n d_M_clear_65 rfl ?_
      refine gm_iconst (v := nI 1) d_M_clear_66 (by decide) ?_
      refine gm_aload_n d_M_clear_67 rfl (by first | exact am_rvR _ | exact am_rvN | assumption) ?_
      refine fr_gA 33 d_M_clear_68 f_M_89 (by decide) (by decide) ?_
      refine gm_iload_n d_M_clear_71 rfl ?_
      refine fr_aldv d_M_clear_72 (by decide) rfl (show _ < 6 by omega) (by first | assumption | (simp only [fr_up_at, fr_up_s, fr_sc_at, fr_sc_a, Nat.reduceEqDiff, false_and, if_false, ite_false, reduceCtorEq]; first | assumption | rfl) | rfl) ?_
      refine gm_iconst (v := nI 0) d_M_clear_73 (by decide) ?_
      refine gm_iconst (v := nI 0) d_M_clear_74 (by decide) ?_
      refine gm_iconst (v := nI 0) d_M_clear_75 (by decide) ?_
      refine gm_cV (b := A 44) d_M_clear_76 v_M_194 (vs := [.int (nI (mt / 4)), .int (nI 1), .int (nI (6 * f + t)), .int (nI 0), .int (nI 0), .int (nI 0)]) (st := []) rfl rfl (by decide) (Nat.le_of_ble_eq_true rfl) (fr_at _) (rf_orderR (row := [1, -1, nI f, nI t, 0]) H2 n5 (rm.l60 (by omega)) hmq (by have := (rm _ hmq).1; omega) (by omega) (by rw [← fr_pairE]; rfl)) ?_
      rintro v r2 ⟨rfl, H3⟩
      rw [if_pos (Or.inl (by decide))] at H3
      have h31c : r2.1 31 = x0 + 1 := by
        rw [H3.2.2.2.2.2.2.2.2.1]
        unfold fc_get
        rw [fc_add_ne _ (by omega), row2 j]
        rfl
      refine gm_aload_n d_M_clear_79 rfl (by first | exact am_rvR _ | exact am_rvN | assumption) ?_
      refine gm_iload_n d_M_clear_80 rfl ?_
      refine gm_iconst (v := nI 2) d_M_clear_81 (by decide) ?_
      refine gm_aload_n d_M_clear_82 rfl (by first | exact am_rvR _ | exact am_rvN | assumption) ?_
      refine fr_gSv 31 d_M_clear_83 f_M_209 (by decide) rfl (by first | assumption | (simp only [fr_up_at, fr_up_s, fr_sc_at, fr_sc_a, Nat.reduceEqDiff, false_and, if_false, ite_false, reduceCtorEq]; first | assumption | rfl) | rfl) ?_
      refine gm_iconst (v := nI 0) d_M_clear_86 (by decide) ?_
      refine gm_iconst (v := nI 0) d_M_clear_87 (by decide) ?_
      refine gm_iconst (v := nI 0) d_M_clear_88 (by decide) ?_
      refine gm_cV (b := A 44) d_M_clear_89 v_M_194 (vs := [.int (nI (mt / 4)), .int (nI 2), .int (x0 + 1), .int (nI 0), .int (nI 0), .int (nI 0)]) (st := []) rfl rfl (by decide) (Nat.le_of_ble_eq_true rfl) (fr_at _) (rf_orderR (row := [2, x0 + 1, -1, -1, 0]) H3 n5 (rm1.l60 (by omega)) hmq (by have := (rm1 _ hmq).1; omega) (by omega) rfl) ?_
      rintro v r3 ⟨rfl, H4⟩
      rw [if_pos (Or.inl (by decide)), ← ejs] at H4
      first | refine gm_iincN (b := 1) (L1 := [_, _, _, _]) d_M_clear_92 rfl (by decide) (by decide) rfl ?_ | refine gm_iinc (L1 := [_, _, _, _]) d_M_clear_92 rfl rfl (by decide) rfl ?_
      refine gm_goto (tgt := 41) d_M_clear_95 (by decide) ?_
      exact ih (j + 1) _ _ (by omega) H4 (by rw [ejs]; exact rm2)
  refine gm_Mof (L0 := [some (.ref (A 44)), some (.int (nI c)), none, none]) pl_M_clear (am_k1 rfl (am_k1 rfl am_k0)) (Nat.le_of_ble_eq_true rfl) rfl ?_
  refine gm_aload_n d_M_clear_0 rfl (by first | exact am_rvR _ | exact am_rvN | assumption) ?_
  refine fr_gA 34 d_M_clear_1 f_M_92 (by decide) (by decide) ?_
  refine gm_iload_n d_M_clear_4 rfl ?_
  refine gm_iconst (v := nI 1) d_M_clear_5 (by decide) ?_
  refine fr_ast d_M_clear_6 (by decide) rfl (show _ < 6 by omega) ?_
  refine gm_aload_n d_M_clear_7 rfl (by first | exact am_rvR _ | exact am_rvN | assumption) ?_
  refine gm_dup d_M_clear_8 rfl ?_
  refine fr_gSv 31 d_M_clear_9 f_M_209 (by decide) rfl (by first | assumption | (simp only [fr_up_at, fr_up_s, fr_sc_at, fr_sc_a, Nat.reduceEqDiff, false_and, if_false, ite_false, reduceCtorEq]; first | assumption | rfl) | rfl) ?_
  refine gm_iconst (v := nI 1) d_M_clear_12 (by decide) ?_
  first | refine gm_iaddN d_M_clear_13 ?_ | refine gm_iadd d_M_clear_13 ?_
  refine fr_pS 31 d_M_clear_14 f_M_209 (p_M_209 _) (by decide) rfl ?_
  refine gm_aload_n d_M_clear_17 rfl (by first | exact am_rvR _ | exact am_rvN | assumption) ?_
  refine fr_gA 35 d_M_clear_18 f_M_95 (by decide) (by decide) ?_
  refine gm_iload_n d_M_clear_21 rfl ?_
  refine gm_aload_n d_M_clear_22 rfl (by first | exact am_rvR _ | exact am_rvN | assumption) ?_
  refine fr_gSv 31 d_M_clear_23 f_M_209 (by decide) rfl (by first | assumption | (simp only [fr_up_at, fr_up_s, fr_sc_at, fr_sc_a, Nat.reduceEqDiff, false_and, if_false, ite_false, reduceCtorEq]; first | assumption | rfl) | rfl) ?_
  refine fr_ast d_M_clear_26 (by decide) rfl (show _ < 6 by omega) ?_
  refine gm_aload_n d_M_clear_27 rfl (by first | exact am_rvR _ | exact am_rvN | assumption) ?_
  refine fr_gA 36 d_M_clear_28 f_M_98 (by decide) (by decide) ?_
  refine gm_iload_n d_M_clear_31 rfl ?_
  refine gm_aload_n d_M_clear_32 rfl (by first | exact am_rvR _ | exact am_rvN | assumption) ?_
  refine fr_gA 38 d_M_clear_33 f_M_104 (by decide) (by decide) ?_
  refine gm_iload_n d_M_clear_36 rfl ?_
  refine fr_aldv d_M_clear_37 (by decide) rfl (show _ < 6 by omega) (by first | assumption | (simp only [fr_up_at, fr_up_s, fr_sc_at, fr_sc_a, Nat.reduceEqDiff, false_and, if_false, ite_false, reduceCtorEq]; first | assumption | rfl) | rfl) ?_
  refine fr_ast d_M_clear_38 (by decide) rfl (show _ < 6 by omega) ?_
  refine gm_iconst (v := nI 0) d_M_clear_39 (by decide) ?_
  refine gm_istore_n (L1 := [_, _, _, _]) d_M_clear_40 (by decide) rfl ?_
  exact key way.length 0 none _ (by omega) H1 (hrm.same (fun i hi => ⟨fc_cb_ne (by omega) (by omega), fc_cb_ne (by omega) (by omega)⟩))
theorem rf_passes {c i : Nat} {f t st wv aw ld kp kn : Int32} {way : List Int32} (H : fr_rel ns room idle s r) (n5 : ns ≤ 5) (hc6 : c < 6) (hi : i < 1000) (hr : (s 7)[c]? = some ([f, t, st, wv, aw, ld, kp, kn] ++ way)) (hw5 : way.length ≤ 5) (hwe : ∀ x ∈ way, ∃ m, m < 4 * ns ∧ x = nI m) : gm_M (fr_P A) fr_X g y_M_passes "(II)Z" 0 0 [.ref (A 44), .int (nI c), .int (nI i)] (fun v r' => v = some (.int (am_b (way.any (fun e => e.toNatClampNeg / 4 == i)))) ∧ r' = r) r := by
  have hrow := H.2.2.2.2.2.2.2.2.row hr
  have h38 : r.2 38 c = nI way.length := hrow.2.2.2.2.2.1
  have key : ∀ (q j : Nat) (b : Bool), j + q = way.length → b = ((way.take j).any (fun e => e.toNatClampNeg / 4 == i)) → gm_W (fr_P A) fr_X g y_M_passes 0 0 (fun v r' => v = some (.int (am_b (way.any (fun e => e.toNatClampNeg / 4 == i)))) ∧ r' = r) 5 [some (.ref (A 44)), some (.int (nI c)), some (.int (nI i)), some (.int (am_b b)), some (.int (nI j))] [] r := by
    intro q
    induction q with
    | zero =>
      intro j b hj hb
      have ej : j = way.length := by omega
      rw [ej, List.take_length] at hb
      refine gm_iload d_M_passes_5 rfl ?_
      refine gm_aload_n d_M_passes_7 rfl (by first | exact am_rvR _ | exact am_rvN | assumption) ?_
      refine fr_gA 38 d_M_passes_8 f_M_104 (by decide) (by decide) ?_
      refine gm_iload_n d_M_passes_11 rfl ?_
      refine fr_aldv d_M_passes_12 (by decide) rfl (show _ < 6 by omega) (by first | assumption | (simp only [fr_up_at, fr_up_s, fr_sc_at, fr_sc_a, Nat.reduceEqDiff, false_and, if_false, ite_false, reduceCtorEq]; first | assumption | rfl) | rfl) ?_
      refine gm_icmp_geN (tgt := 49) d_M_passes_13 (by decide) (by omega) (by omega) (fun _ => ?_) (fun q => absurd q (by omega))
      refine gm_iload_n d_M_passes_49 rfl ?_
      refine gm_iret d_M_passes_50 rfl (by first | rfl | exact am_b_nar _) ?_
      exact ⟨by rw [hb], rfl⟩
    | succ q ih =>
      intro j b hj hb
      have hjl : j < way.length := by omega
      obtain ⟨mt, hm, hx⟩ := hwe _ (List.getElem_mem hjl)
      have hx' : way[j]? = some (nI mt) := by rw [List.getElem?_eq_getElem hjl, hx]
      have h39 : r.2 39 (5 * c + j) = nI (5 * (mt / 4) + mt % 4) := hrow.way hx' (by omega)
      have d5 : (5 * (mt / 4) + mt % 4) / 5 = mt / 4 := by omega
      have eb : (way.take (j + 1)).any (fun e => e.toNatClampNeg / 4 == i) = (b || mt / 4 == i) := by
        rw [List.take_add_one, hx', List.any_append, ← hb]
        show (b || ((nI mt).toNatClampNeg / 4 == i || false)) = _
        rw [nI_clamp (by omega), Bool.or_false]
      refine gm_iload d_M_passes_5 rfl ?_
      refine gm_aload_n d_M_passes_7 rfl (by first | exact am_rvR _ | exact am_rvN | assumption) ?_
      refine fr_gA 38 d_M_passes_8 f_M_104 (by decide) (by decide) ?_
      refine gm_iload_n d_M_passes_11 rfl ?_
      refine fr_aldv d_M_passes_12 (by decide) rfl (show _ < 6 by omega) (by first | assumption | (simp only [fr_up_at, fr_up_s, fr_sc_at, fr_sc_a, Nat.reduceEqDiff, false_and, if_false, ite_false, reduceCtorEq]; first | assumption | rfl) | rfl) ?_
      refine gm_icmp_geN (tgt := 49) d_M_passes_13 (by decide) (by omega) (by omega) (fun q => absurd q (by omega)) (fun _ => ?_)
      refine gm_iload_n d_M_passes_16 rfl ?_
      first | refine gm_if_neB (tgt := 37) d_M_passes_17 (by decide) (fun q17 => ?_) (fun q17 => ?_) | refine gm_if_neN (tgt := 37) d_M_passes_17 (by decide) (by omega) (fun q17 => ?_) (fun q17 => ?_) | refine gm_if_ne (tgt := 37) d_M_passes_17 (by decide) (fun q17 => ?_) (fun q17 => ?_)
      · refine gm_iconst (v := nI 1) d_M_passes_37 (by decide) ?_
        refine gm_goto (tgt := 42) d_M_passes_38 (by decide) ?_
        refine gm_istore_n (L1 := [_, _, _, _, _]) d_M_passes_42 (by decide) rfl ?_
        first | refine gm_iincN (b := 1) (L1 := [_, _, _, _, _]) d_M_passes_43 rfl (by decide) (by decide) rfl ?_ | refine gm_iinc (L1 := [_, _, _, _, _]) d_M_passes_43 rfl rfl (by decide) rfl ?_
        refine gm_goto (tgt := 5) d_M_passes_46 (by decide) ?_
        exact ih (j + 1) true (by omega) (by rw [eb]; first | rw [q17]; rfl | (rw [show (mt / 4 == i) = true by simpa using q34, Bool.or_true]))
      · refine gm_aload_n d_M_passes_20 rfl (by first | exact am_rvR _ | exact am_rvN | assumption) ?_
        refine fr_gA 39 d_M_passes_21 f_M_107 (by decide) (by decide) ?_
        refine gm_iconst (v := nI 5) d_M_passes_24 (by decide) ?_
        refine gm_iload_n d_M_passes_25 rfl ?_
        first | refine gm_imulN d_M_passes_26 ?_ | refine gm_imul d_M_passes_26 ?_
        refine gm_iload d_M_passes_27 rfl ?_
        first | refine gm_iaddN d_M_passes_29 ?_ | refine gm_iadd d_M_passes_29 ?_
        refine fr_aldv d_M_passes_30 (by decide) rfl (show _ < 30 by omega) (by first | assumption | (simp only [fr_up_at, fr_up_s, fr_sc_at, fr_sc_a, Nat.reduceEqDiff, false_and, if_false, ite_false, reduceCtorEq]; first | assumption | rfl) | rfl) ?_
        refine gm_iconst (v := nI 5) d_M_passes_31 (by decide) ?_
        first | refine gm_idivN d_M_passes_32 (by omega) (by omega) (by omega) ?_ | refine gm_idiv d_M_passes_32 (by decide) ?_
        rw [d5]
        refine gm_iload_n d_M_passes_33 rfl ?_
        first | refine gm_icmp_neN (tgt := 41) d_M_passes_34 (by decide) (by omega) (by omega) (fun q34 => ?_) (fun q34 => ?_) | refine gm_icmp_ne (tgt := 41) d_M_passes_34 (by decide) (fun q34 => ?_) (fun q34 => ?_)
        · refine gm_iconst (v := nI 0) d_M_passes_41 (by decide) ?_
          refine gm_istore_n (L1 := [_, _, _, _, _]) d_M_passes_42 (by decide) rfl ?_
          first | refine gm_iincN (b := 1) (L1 := [_, _, _, _, _]) d_M_passes_43 rfl (by decide) (by decide) rfl ?_ | refine gm_iinc (L1 := [_, _, _, _, _]) d_M_passes_43 rfl rfl (by decide) rfl ?_
          refine gm_goto (tgt := 5) d_M_passes_46 (by decide) ?_
          exact ih (j + 1) false (by omega) (by rw [eb, q17, show (mt / 4 == i) = false by simpa using q34]; rfl)
        · refine gm_iconst (v := nI 1) d_M_passes_37 (by decide) ?_
          refine gm_goto (tgt := 42) d_M_passes_38 (by decide) ?_
          refine gm_istore_n (L1 := [_, _, _, _, _]) d_M_passes_42 (by decide) rfl ?_
          first | refine gm_iincN (b := 1) (L1 := [_, _, _, _, _]) d_M_passes_43 rfl (by decide) (by decide) rfl ?_ | refine gm_iinc (L1 := [_, _, _, _, _]) d_M_passes_43 rfl rfl (by decide) rfl ?_
          refine gm_goto (tgt := 5) d_M_passes_46 (by decide) ?_
          exact ih (j + 1) true (by omega) (by rw [eb]; first | rw [q17]; rfl | (rw [show (mt / 4 == i) = true by simpa using q34, Bool.or_true]))
  refine gm_Mof (L0 := [some (.ref (A 44)), some (.int (nI c)), some (.int (nI i)), none, none]) pl_M_passes (am_k1 rfl (am_k1 rfl (am_k1 rfl am_k0))) (Nat.le_of_ble_eq_true rfl) rfl ?_
  refine gm_iconst (v := nI 0) d_M_passes_0 (by decide) ?_
  refine gm_istore_n (L1 := [_, _, _, _, _]) d_M_passes_1 (by decide) rfl ?_
  refine gm_iconst (v := nI 0) d_M_passes_2 (by decide) ?_
  refine gm_istore (L1 := [_, _, _, _, _]) d_M_passes_3 (by decide) rfl ?_
  exact key way.length 0 false (by omega) rfl
end REQ
