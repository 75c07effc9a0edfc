/-! the reference: the way that it searches -/
section REP
variable {g : am_G} {A : Nat → Nat} {r : fr_S} {ns room idle : Nat} {s : fc_S}
theorem rf_leads {u w : Nat} (h28a : ∀ x, x < 4 * ns → r.2 28 x = fc_get s 3 0 x + nI 1) (n5 : ns ≤ 5) (Io : fc_iO ns s) (hu : u < ns) (hw : w < 1000) : gm_M (fr_P A) fr_X g y_M_leads "(II)I" 0 0 [.ref (A 44), .int (nI u), .int (nI w)] (fun v r' => v = some (.int (fr_ldv s u w)) ∧ r' = r) r := by
  have key : ∀ (m k : Nat), k + m = 4 → (∀ j, j < k → fr_lp s u w j = false) → gm_W (fr_P A) fr_X g y_M_leads 0 0 (fun v r' => v = some (.int (fr_ldv s u w)) ∧ r' = r) 2 [some (.ref (A 44)), some (.int (nI u)), some (.int (nI w)), some (.int (nI k))] [] r := by
    intro m
    induction m with
    | zero =>
      intro k hk hj
      have e4 : k = 4 := by omega
      subst e4
      refine gm_iload_n d_M_leads_2 rfl ?_
      refine gm_iconst (v := nI 4) d_M_leads_3 (by decide) ?_
      refine gm_icmp_geN (tgt := 46) d_M_leads_4 (by decide) (by omega) (by omega) (fun _ => ?_) (fun q => absurd q (by omega))
      refine gm_iconst (v := (-1)) d_M_leads_46 (by decide) ?_
      refine gm_iret d_M_leads_47 rfl rfl ?_
      exact ⟨by rw [fr_ldv_no hj], rfl⟩
    | succ m ih =>
      intro k hk hj
      have nx : fr_lp s u w k = false → ∀ j, j < k + 1 → fr_lp s u w j = false := fun h j hj2 => by
        by_cases e : j = k
        · subst e; exact h
        · exact hj j (by omega)
      rcases fr_other h28a n5 Io (show 4 * u + k < 4 * ns by omega) with ⟨h28, ho⟩ | ⟨mt, hmt, h28, ho⟩
      · refine gm_iload_n d_M_leads_2 rfl ?_
        refine gm_iconst (v := nI 4) d_M_leads_3 (by decide) ?_
        refine gm_icmp_geN (tgt := 46) d_M_leads_4 (by decide) (by omega) (by omega) (fun q => absurd q (by omega)) (fun _ => ?_)
        refine gm_aload_n d_M_leads_7 rfl (by first | exact am_rvR _ | exact am_rvN | assumption) ?_
        refine fr_gA 28 d_M_leads_8 f_M_80 (by decide) (by decide) ?_
        refine gm_iconst (v := nI 4) d_M_leads_11 (by decide) ?_
        refine gm_iload_n d_M_leads_12 rfl ?_
        first | refine gm_imulN d_M_leads_13 ?_ | refine gm_imul d_M_leads_13 ?_
        refine gm_iload_n d_M_leads_14 rfl ?_
        first | refine gm_iaddN d_M_leads_15 ?_ | refine gm_iadd d_M_leads_15 ?_
        refine fr_aldv d_M_leads_16 (by decide) rfl (show _ < 20 by omega) (by first | assumption | (simp only [fr_up_at, fr_up_s, fr_sc_at, fr_sc_a, Nat.reduceEqDiff, false_and, if_false, ite_false, reduceCtorEq]; first | assumption | rfl) | rfl) ?_
        refine gm_if_leN (tgt := 40) d_M_leads_17 (by decide) (by omega) (fun _ => ?_) (fun q => absurd q (by omega))
        first | refine gm_iincN (b := 1) (L1 := [_, _, _, _]) d_M_leads_40 rfl (by decide) (by decide) rfl ?_ | refine gm_iinc (L1 := [_, _, _, _]) d_M_leads_40 rfl rfl (by decide) rfl ?_
        refine gm_goto (tgt := 2) d_M_leads_43 (by decide) ?_
        exact ih (k + 1) (by omega) (nx (by unfold fr_lp; rw [ho]; rfl))
      · refine gm_iload_n d_M_leads_2 rfl ?_
        refine gm_iconst (v := nI 4) d_M_leads_3 (by decide) ?_
        refine gm_icmp_geN (tgt := 46) d_M_leads_4 (by decide) (by omega) (by omega) (fun q => absurd q (by omega)) (fun _ => ?_)
        refine gm_aload_n d_M_leads_7 rfl (by first | exact am_rvR _ | exact am_rvN | assumption) ?_
        refine fr_gA 28 d_M_leads_8 f_M_80 (by decide) (by decide) ?_
        refine gm_iconst (v := nI 4) d_M_leads_11 (by decide) ?_
        refine gm_iload_n d_M_leads_12 rfl ?_
        first | refine gm_imulN d_M_leads_13 ?_ | refine gm_imul d_M_leads_13 ?_
        refine gm_iload_n d_M_leads_14 rfl ?_
        first | refine gm_iaddN d_M_leads_15 ?_ | refine gm_iadd d_M_leads_15 ?_
        refine fr_aldv d_M_leads_16 (by decide) rfl (show _ < 20 by omega) (by first | assumption | (simp only [fr_up_at, fr_up_s, fr_sc_at, fr_sc_a, Nat.reduceEqDiff, false_and, if_false, ite_false, reduceCtorEq]; first | assumption | rfl) | rfl) ?_
        refine gm_if_leN (tgt := 40) d_M_leads_17 (by decide) (by omega) (fun q => absurd q (by omega)) (fun _ => ?_)
        refine gm_aload_n d_M_leads_20 rfl (by first | exact am_rvR _ | exact am_rvN | assumption) ?_
        refine fr_gA 28 d_M_leads_21 f_M_80 (by decide) (by decide) ?_
        refine gm_iconst (v := nI 4) d_M_leads_24 (by decide) ?_
        refine gm_iload_n d_M_leads_25 rfl ?_
        first | refine gm_imulN d_M_leads_26 ?_ | refine gm_imul d_M_leads_26 ?_
        refine gm_iload_n d_M_leads_27 rfl ?_
        first | refine gm_iaddN d_M_leads_28 ?_ | refine gm_iadd d_M_leads_28 ?_
        refine fr_aldv d_M_leads_29 (by decide) rfl (show _ < 20 by omega) (by first | assumption | (simp only [fr_up_at, fr_up_s, fr_sc_at, fr_sc_a, Nat.reduceEqDiff, false_and, if_false, ite_false, reduceCtorEq]; first | assumption | rfl) | rfl) ?_
        refine gm_iconst (v := nI 1) d_M_leads_30 (by decide) ?_
        first | refine gm_isubN d_M_leads_31 (by omega) ?_ | refine gm_isub d_M_leads_31 ?_
        refine gm_iconst (v := nI 4) d_M_leads_32 (by decide) ?_
        first | refine gm_idivN d_M_leads_33 (by omega) (by omega) (by omega) ?_ | refine gm_idiv d_M_leads_33 (by decide) ?_
        skip
        refine gm_iload_n d_M_leads_34 rfl ?_
        first | refine gm_icmp_neN (tgt := 40) d_M_leads_35 (by decide) (by omega) (by omega) (fun q35 => ?_) (fun q35 => ?_) | refine gm_icmp_ne (tgt := 40) d_M_leads_35 (by decide) (fun q35 => ?_) (fun q35 => ?_)
        · first | refine gm_iincN (b := 1) (L1 := [_, _, _, _]) d_M_leads_40 rfl (by decide) (by decide) rfl ?_ | refine gm_iinc (L1 := [_, _, _, _]) d_M_leads_40 rfl rfl (by decide) rfl ?_
          refine gm_goto (tgt := 2) d_M_leads_43 (by decide) ?_
          exact ih (k + 1) (by omega) (nx (by unfold fr_lp; rw [ho]; show (mt / 4 == w) = false; simpa using q35))
        · refine gm_iload_n d_M_leads_38 rfl ?_
          refine gm_iret d_M_leads_39 rfl rfl ?_
          exact ⟨by rw [fr_ldv_yes (show k < 4 by omega) hj (by unfold fr_lp; rw [ho]; show (mt / 4 == w) = true; simpa using q35)], rfl⟩
  refine gm_Mof (L0 := [some (.ref (A 44)), some (.int (nI u)), some (.int (nI w)), none]) pl_M_leads (am_k1 rfl (am_k1 rfl (am_k1 rfl am_k0))) (Nat.le_of_ble_eq_true rfl) rfl ?_
  refine gm_iconst (v := nI 0) d_M_leads_0 (by decide) ?_
  refine gm_istore_n (L1 := [_, _, _, _]) d_M_leads_1 (by decide) rfl ?_
  exact key 4 0 (by omega) (fun j h => absurd h (Nat.not_lt_zero _))
theorem rf_isWay {x m u w : Nat} (H : fr_rel ns room idle s r) (D : fc_iD ns room s) (hm : m + 2 ≤ ns) (hx : x < ns ^ m) (hu : u < ns) (hw : w < ns) : gm_M (fr_P A) fr_X g y_M_isWay "(IIII)Z" 1 23 [.ref (A 44), .int (nI x), .int (nI (m + 2)), .int (nI u), .int (nI w)] (fun v r' => v = some (.int (am_b (pw_ch ns (fc_E s) w m u x))) ∧ fr_sm [43] r r' ∧ ∀ i, i < m + 2 → r'.2 43 i = nI (fr_dg ns x (m + 2) u w i)) r := by
  have n5 := D.1.2.1
  have h0 : r.1 0 = nI ns := H.1.1
  have hx3 : x < 3125 := by
    have h1 : ns ^ m ≤ 5 ^ m := Nat.pow_le_pow_left n5 m
    have h2 : 5 ^ m ≤ 5 ^ 3 := Nat.pow_le_pow_right (by omega) (by omega)
    have h3 : 5 ^ 3 = 125 := by decide
    omega
  have dlt : ∀ i, fr_dg ns x (m + 2) u w i < ns := fun i => fr_dg_lt (by omega) hu hw
  have key2 : ∀ (r2 : fr_S) (x5 : Option Value), fr_sm [43] r r2 → (∀ i, i < m + 2 → r2.2 43 i = nI (fr_dg ns x (m + 2) u w i)) → ∀ (q k : Nat), k + q = m + 1 → (∀ j, j < k → fc_E s (fr_dg ns x (m + 2) u w j) (fr_dg ns x (m + 2) u w (j + 1)) = true) → gm_W (fr_P A) fr_X g y_M_isWay 1 23 (fun v r' => v = some (.int (am_b (pw_ch ns (fc_E s) w m u x))) ∧ fr_sm [43] r r' ∧ ∀ i, i < m + 2 → r'.2 43 i = nI (fr_dg ns x (m + 2) u w i)) 63 [some (.ref (A 44)), some (.int (nI x)), some (.int (nI (m + 2))), some (.int (nI u)), some (.int (nI w)), x5, some (.int (nI k))] [] r2 := by
    intro r2 x5 hs2 h43 q
    have H2 : fr_rel ns room idle s r2 := H.scr (hs2.mono (by decide))
    induction q with
    | zero =>
      intro k hk hj
      have ek : k = m + 1 := by omega
      subst ek
      refine gm_iload d_M_isWay_63 rfl ?_
      refine gm_iconst (v := nI 1) d_M_isWay_65 (by decide) ?_
      first | refine gm_iaddN d_M_isWay_66 ?_ | refine gm_iadd d_M_isWay_66 ?_
      refine gm_iload_n d_M_isWay_67 rfl ?_
      refine gm_icmp_geN (tgt := 102) d_M_isWay_68 (by decide) (by omega) (by omega) (fun _ => ?_) (fun q => absurd q (by omega))
      refine gm_iconst (v := nI 1) d_M_isWay_102 (by decide) ?_
      refine gm_iret d_M_isWay_103 rfl (by first | rfl | exact am_b_nar _) ?_
      exact ⟨by rw [(fr_dg_ch hx).mpr hj]; rfl, hs2, h43⟩
    | succ q ih =>
      intro k hk hj
      have hk0 := h43 k (by omega)
      have hk1 := h43 (k + 1) (by omega)
      have dl1 := dlt (k + 1)
      refine gm_iload d_M_isWay_63 rfl ?_
      refine gm_iconst (v := nI 1) d_M_isWay_65 (by decide) ?_
      first | refine gm_iaddN d_M_isWay_66 ?_ | refine gm_iadd d_M_isWay_66 ?_
      refine gm_iload_n d_M_isWay_67 rfl ?_
      refine gm_icmp_geN (tgt := 102) d_M_isWay_68 (by decide) (by omega) (by omega) (fun q => absurd q (by omega)) (fun _ => ?_)
      refine gm_aload_n d_M_isWay_71 rfl (by first | exact am_rvR _ | exact am_rvN | assumption) ?_
      refine gm_aload_n d_M_isWay_72 rfl (by first | exact am_rvR _ | exact am_rvN | assumption) ?_
      refine fr_gA 43 d_M_isWay_73 f_M_116 (by decide) (by decide) ?_
      refine gm_iload d_M_isWay_76 rfl ?_
      refine fr_aldv d_M_isWay_78 (by decide) rfl (show _ < 5 by omega) (by first | assumption | (simp only [fr_up_at, fr_up_s, fr_sc_at, fr_sc_a, Nat.reduceEqDiff, false_and, if_false, ite_false, reduceCtorEq]; first | assumption | rfl) | rfl) ?_
      refine gm_aload_n d_M_isWay_79 rfl (by first | exact am_rvR _ | exact am_rvN | assumption) ?_
      refine fr_gA 43 d_M_isWay_80 f_M_116 (by decide) (by decide) ?_
      refine gm_iload d_M_isWay_83 rfl ?_
      refine gm_iconst (v := nI 1) d_M_isWay_85 (by decide) ?_
      first | refine gm_iaddN d_M_isWay_86 ?_ | refine gm_iadd d_M_isWay_86 ?_
      refine fr_aldv d_M_isWay_87 (by decide) rfl (show _ < 5 by omega) (by first | assumption | (simp only [fr_up_at, fr_up_s, fr_sc_at, fr_sc_a, Nat.reduceEqDiff, false_and, if_false, ite_false, reduceCtorEq]; first | assumption | rfl) | rfl) ?_
      refine gm_cV (b := A 44) d_M_isWay_88 v_M_197 (vs := [.int (nI (fr_dg ns x (m + 2) u w k)), .int (nI (fr_dg ns x (m + 2) u w (k + 1)))]) (st := []) rfl rfl (by decide) (Nat.le_of_ble_eq_true rfl) (fr_at _) (rf_leads H2.h28 n5 D.2.2.2.2.2.2.2.1 (dlt k) (by omega)) ?_
      rintro v r3 ⟨rfl, hr3⟩
      subst r3
      by_cases hE : fc_E s (fr_dg ns x (m + 2) u w k) (fr_dg ns x (m + 2) u w (k + 1)) = true
      · have hl4 := (fc_ld_ok hE).1
        rw [show fr_ldv s (fr_dg ns x (m + 2) u w k) (fr_dg ns x (m + 2) u w (k + 1)) = nI (fc_ld s (fr_dg ns x (m + 2) u w k) (fr_dg ns x (m + 2) u w (k + 1))) from if_pos hE]
        refine gm_if_geN (tgt := 96) d_M_isWay_91 (by decide) (by omega) (fun _ => ?_) (fun q => absurd q (by omega))
        first | refine gm_iincN (b := 1) (L1 := [_, _, _, _, _, _, _]) d_M_isWay_96 rfl (by decide) (by decide) rfl ?_ | refine gm_iinc (L1 := [_, _, _, _, _, _, _]) d_M_isWay_96 rfl rfl (by decide) rfl ?_
        refine gm_goto (tgt := 63) d_M_isWay_99 (by decide) ?_
        exact ih (k + 1) (by omega) (fun j hj2 => by
          by_cases e : j = k
          · subst e; exact hE
          · exact hj j (by omega))
      · rw [show fr_ldv s (fr_dg ns x (m + 2) u w k) (fr_dg ns x (m + 2) u w (k + 1)) = -1 from if_neg hE]
        refine gm_if_ge (tgt := 96) d_M_isWay_91 (by decide) (fun q => absurd q (by decide)) (fun _ => ?_)
        refine gm_iconst (v := nI 0) d_M_isWay_94 (by decide) ?_
        refine gm_iret d_M_isWay_95 rfl (by first | rfl | exact am_b_nar _) ?_
        exact ⟨by rw [Bool.eq_false_iff.mpr (fun z => hE ((fr_dg_ch hx).mp z k (by omega)))]; rfl, hs2, h43⟩
  have key1 : ∀ (q j : Nat) (r1 : fr_S), j + q = m → fr_sm [43] r r1 → (∀ i, m - j < i → i < m + 1 → r1.2 43 i = nI (fr_dg ns x (m + 2) u w i)) → gm_W (fr_P A) fr_X g y_M_isWay 1 23 (fun v r' => v = some (.int (am_b (pw_ch ns (fc_E s) w m u x))) ∧ fr_sm [43] r r' ∧ ∀ i, i < m + 2 → r'.2 43 i = nI (fr_dg ns x (m + 2) u w i)) 8 [some (.ref (A 44)), some (.int (nI x)), some (.int (nI (m + 2))), some (.int (nI u)), some (.int (nI w)), some (.int (nI (x / ns ^ j))), some (.int (nI (m - j)))] [] r1 := by
    intro q
    induction q with
    | zero =>
      intro j r1 hj hs1 h43
      refine gm_iload d_M_isWay_8 rfl ?_
      refine gm_iconst (v := nI 1) d_M_isWay_10 (by decide) ?_
      refine gm_icmp_ltN (tgt := 43) d_M_isWay_11 (by decide) (by omega) (by omega) (fun _ => ?_) (fun q => absurd q (by omega))
      refine gm_aload_n d_M_isWay_43 rfl (by first | exact am_rvR _ | exact am_rvN | assumption) ?_
      refine fr_gA 43 d_M_isWay_44 f_M_116 (by decide) (by decide) ?_
      refine gm_iconst (v := nI 0) d_M_isWay_47 (by decide) ?_
      refine gm_iload_n d_M_isWay_48 rfl ?_
      refine fr_ast d_M_isWay_49 (by decide) rfl (show _ < 5 by omega) ?_
      refine gm_aload_n d_M_isWay_50 rfl (by first | exact am_rvR _ | exact am_rvN | assumption) ?_
      refine fr_gA 43 d_M_isWay_51 f_M_116 (by decide) (by decide) ?_
      refine gm_iload_n d_M_isWay_54 rfl ?_
      refine gm_iconst (v := nI 1) d_M_isWay_55 (by decide) ?_
      first | refine gm_isubN d_M_isWay_56 (by omega) ?_ | refine gm_isub d_M_isWay_56 ?_
      refine gm_iload d_M_isWay_57 rfl ?_
      refine fr_ast d_M_isWay_59 (by decide) rfl (show _ < 5 by omega) ?_
      refine gm_iconst (v := nI 0) d_M_isWay_60 (by decide) ?_
      refine gm_istore (L1 := [_, _, _, _, _, _, _]) d_M_isWay_61 (by decide) rfl ?_
      refine key2 _ _ ((hs1.up (by decide) _ _).up (by decide) _ _) (fun i hi => ?_) (m + 1) 0 (by omega) (fun j hj => absurd hj (Nat.not_lt_zero _))
      rw [fr_up_hit]
      by_cases i1 : i = m + 2 - 1
      · rw [if_pos i1]
        unfold fr_dg
        rw [if_neg (by omega), if_pos (by omega)]
      · rw [if_neg i1, fr_up_hit]
        by_cases i0 : i = 0
        · rw [if_pos i0]
          subst i0
          rfl
        · rw [if_neg i0]
          exact h43 i (by omega) (by omega)
    | succ q ih =>
      intro j r1 hj hs1 h43
      have hb : x / ns ^ j < 3125 := Nat.lt_of_le_of_lt (Nat.div_le_self _ _) hx3
      have h01 : r1.1 0 = nI ns := (hs1 0 (by decide)).1.trans h0
      refine gm_iload d_M_isWay_8 rfl ?_
      refine gm_iconst (v := nI 1) d_M_isWay_10 (by decide) ?_
      refine gm_icmp_ltN (tgt := 43) d_M_isWay_11 (by decide) (by omega) (by omega) (fun q => absurd q (by omega)) (fun _ => ?_)
      refine gm_aload_n d_M_isWay_14 rfl (by first | exact am_rvR _ | exact am_rvN | assumption) ?_
      refine fr_gA 43 d_M_isWay_15 f_M_116 (by decide) (by decide) ?_
      refine gm_iload d_M_isWay_18 rfl ?_
      refine gm_iload d_M_isWay_20 rfl ?_
      refine gm_aload_n d_M_isWay_22 rfl (by first | exact am_rvR _ | exact am_rvN | assumption) ?_
      refine fr_gSv 0 d_M_isWay_23 f_M_123 (by decide) rfl (by first | assumption | (simp only [fr_up_at, fr_up_s, fr_sc_at, fr_sc_a, Nat.reduceEqDiff, false_and, if_false, ite_false, reduceCtorEq]; first | assumption | rfl) | rfl) ?_
      first | refine gm_iremN d_M_isWay_26 (by omega) (by omega) (by omega) ?_ | refine gm_irem d_M_isWay_26 (by decide) ?_
      refine fr_ast d_M_isWay_27 (by decide) rfl (show _ < 5 by omega) ?_
      refine gm_iload d_M_isWay_28 rfl ?_
      refine gm_aload_n d_M_isWay_30 rfl (by first | exact am_rvR _ | exact am_rvN | assumption) ?_
      refine fr_gSv 0 d_M_isWay_31 f_M_123 (by decide) rfl (by first | assumption | (simp only [fr_up_at, fr_up_s, fr_sc_at, fr_sc_a, Nat.reduceEqDiff, false_and, if_false, ite_false, reduceCtorEq]; first | assumption | rfl) | rfl) ?_
      first | refine gm_idivN d_M_isWay_34 (by omega) (by omega) (by omega) ?_ | refine gm_idiv d_M_isWay_34 (by decide) ?_
      refine gm_istore (L1 := [_, _, _, _, _, _, _]) d_M_isWay_35 (by decide) rfl ?_
      refine gm_iinc (v := nI (m - (j + 1))) (L1 := [_, _, _, _, _, _, _]) d_M_isWay_37 rfl (by rw [show m - j = m - (j + 1) + 1 by omega]; exact pk_m1 _) (by decide) rfl ?_
      refine gm_goto (tgt := 8) d_M_isWay_40 (by decide) ?_
      have h9 := ih (j + 1) (fr_up r1 43 (m - j) (nI (x / ns ^ j % ns))) (by omega) (hs1.up (by decide) _ _) (fun i hi1 hi2 => by
        rw [fr_up_hit]
        by_cases e : i = m - j
        · rw [if_pos e]
          unfold fr_dg
          rw [if_neg (by omega), if_neg (by omega), show m + 2 - 2 - i = j by omega]
        · rw [if_neg e]
          exact h43 i (by omega) hi2)
      rw [Nat.pow_succ, ← Nat.div_div_eq_div_mul] at h9
      exact h9
  refine gm_Mof (L0 := [some (.ref (A 44)), some (.int (nI x)), some (.int (nI (m + 2))), some (.int (nI u)), some (.int (nI w)), none, none]) pl_M_isWay (am_k1 rfl (am_k1 rfl (am_k1 rfl (am_k1 rfl (am_k1 rfl am_k0))))) (Nat.le_of_ble_eq_true rfl) rfl ?_
  refine gm_iload_n d_M_isWay_0 rfl ?_
  refine gm_istore (L1 := [_, _, _, _, _, _, _]) d_M_isWay_1 (by decide) rfl ?_
  refine gm_iload_n d_M_isWay_3 rfl ?_
  refine gm_iconst (v := nI 2) d_M_isWay_4 (by decide) ?_
  first | refine gm_isubN d_M_isWay_5 (by omega) ?_ | refine gm_isub d_M_isWay_5 ?_
  refine gm_istore (L1 := [_, _, _, _, _, _, _]) d_M_isWay_6 (by decide) rfl ?_
  have h9 := key1 m 0 r (by omega) (fr_sm.refl _ r) (fun i h1 h2 => by omega)
  rw [Nat.pow_zero, Nat.div_one, Nat.sub_zero] at h9
  exact h9
theorem rf_search {f t : Nat} (H : fr_rel ns room idle s r) (D : fc_iD ns room s) (hf : f < 6) (ht : t < 6) : gm_M (fr_P A) fr_X g y_M_search "(I)Z" 2 49 [.ref (A 44), .int (nI (6 * f + t))] (fun v r' => v = some (.int (am_b (!(fc_wayOf ns s (nI f) (nI t)).isEmpty))) ∧ fr_sm [42, 43] r r' ∧ ((fc_wayOf ns s (nI f) (nI t)) ≠ [] → fr_fd (fc_wayOf ns s (nI f) (nI t)) r')) r := by
  have n5 := D.1.2.1
  have n2 := D.1.1
  have Io := D.2.2.2.2.2.2.2.1
  have h0 : r.1 0 = nI ns := H.1.1
  have h30f := H.2.2.2.2.2.2.2.1.2 f hf
  have h30t := H.2.2.2.2.2.2.2.1.2 t ht
  rcases fc_plc Io hf with ef | ⟨a, ha, ef⟩
  · rw [ef, show (-1 : Int32) + nI 1 = nI 0 by decide] at h30f
    obtain ⟨y, hy⟩ : ∃ y, r.2 30 t = y := ⟨_, rfl⟩
    refine gm_Mof (L0 := [some (.ref (A 44)), some (.int (nI (6 * f + t))), none, none, none, none, none]) pl_M_search (am_k1 rfl (am_k1 rfl am_k0)) (Nat.le_of_ble_eq_true rfl) rfl ?_
    refine gm_aload_n d_M_search_0 rfl (by first | exact am_rvR _ | exact am_rvN | assumption) ?_
    refine gm_iconst (v := nI 0) d_M_search_1 (by decide) ?_
    refine fr_pS 42 d_M_search_2 f_M_200 (p_M_200 _) (by decide) rfl ?_
    refine gm_aload_n d_M_search_5 rfl (by first | exact am_rvR _ | exact am_rvN | assumption) ?_
    refine fr_gA 30 d_M_search_6 f_M_86 (by decide) (by decide) ?_
    refine gm_iload_n d_M_search_9 rfl ?_
    refine gm_bipush (v := nI 6) d_M_search_10 (by decide) ?_
    first | refine gm_idivN d_M_search_12 (by omega) (by omega) (by omega) ?_ | refine gm_idiv d_M_search_12 (by decide) ?_
    rw [show (6 * f + t) / 6 = f by omega]
    refine fr_aldv d_M_search_13 (by decide) rfl (show _ < 6 by omega) (by first | assumption | (simp only [fr_up_at, fr_up_s, fr_sc_at, fr_sc_a, Nat.reduceEqDiff, false_and, if_false, ite_false, reduceCtorEq]; first | assumption | rfl) | rfl) ?_
    refine gm_iconst (v := nI 1) d_M_search_14 (by decide) ?_
    first | refine gm_isubN d_M_search_15 (by omega) ?_ | refine gm_isub d_M_search_15 ?_
    refine gm_istore_n (L1 := [_, _, _, _, _, _, _]) d_M_search_16 (by decide) rfl ?_
    refine gm_aload_n d_M_search_17 rfl (by first | exact am_rvR _ | exact am_rvN | assumption) ?_
    refine fr_gA 30 d_M_search_18 f_M_86 (by decide) (by decide) ?_
    refine gm_iload_n d_M_search_21 rfl ?_
    refine gm_bipush (v := nI 6) d_M_search_22 (by decide) ?_
    first | refine gm_iremN d_M_search_24 (by omega) (by omega) (by omega) ?_ | refine gm_irem d_M_search_24 (by decide) ?_
    rw [show (6 * f + t) % 6 = t by omega]
    refine fr_aldv d_M_search_25 (by decide) rfl (show _ < 6 by omega) (by first | assumption | (simp only [fr_up_at, fr_up_s, fr_sc_at, fr_sc_a, Nat.reduceEqDiff, false_and, if_false, ite_false, reduceCtorEq]; first | assumption | rfl) | rfl) ?_
    refine gm_iconst (v := nI 1) d_M_search_26 (by decide) ?_
    first | refine gm_isubN d_M_search_27 (by omega) ?_ | refine gm_isub d_M_search_27 ?_
    refine gm_istore_n (L1 := [_, _, _, _, _, _, _]) d_M_search_28 (by decide) rfl ?_
    refine gm_iload_n d_M_search_29 rfl ?_
    refine gm_if_lt (tgt := 37) d_M_search_30 (by decide) (fun _ => ?_) (fun q => absurd (by decide) q)
    refine gm_iconst (v := nI 0) d_M_search_37 (by decide) ?_
    refine gm_iret d_M_search_38 rfl (by first | rfl | exact am_b_nar _) ?_
    exact ⟨by rw [fc_wayOf_no (show f < 1000 by omega) (show t < 1000 by omega) (Or.inl ef)]; rfl, (fr_sm.refl _ r).sc (by decide) _, fun z => absurd (fc_wayOf_no (show f < 1000 by omega) (show t < 1000 by omega) (Or.inl ef)) z⟩
  rcases fc_plc Io ht with et | ⟨b, hb, et⟩
  · rw [et, show (-1 : Int32) + nI 1 = nI 0 by decide] at h30t
    rw [ef, nI_add] at h30f
    refine gm_Mof (L0 := [some (.ref (A 44)), some (.int (nI (6 * f + t))), none, none, none, none, none]) pl_M_search (am_k1 rfl (am_k1 rfl am_k0)) (Nat.le_of_ble_eq_true rfl) rfl ?_
    refine gm_aload_n d_M_search_0 rfl (by first | exact am_rvR _ | exact am_rvN | assumption) ?_
    refine gm_iconst (v := nI 0) d_M_search_1 (by decide) ?_
    refine fr_pS 42 d_M_search_2 f_M_200 (p_M_200 _) (by decide) rfl ?_
    refine gm_aload_n d_M_search_5 rfl (by first | exact am_rvR _ | exact am_rvN | assumption) ?_
    refine fr_gA 30 d_M_search_6 f_M_86 (by decide) (by decide) ?_
    refine gm_iload_n d_M_search_9 rfl ?_
    refine gm_bipush (v := nI 6) d_M_search_10 (by decide) ?_
    first | refine gm_idivN d_M_search_12 (by omega) (by omega) (by omega) ?_ | refine gm_idiv d_M_search_12 (by decide) ?_
    rw [show (6 * f + t) / 6 = f by omega]
    refine fr_aldv d_M_search_13 (by decide) rfl (show _ < 6 by omega) (by first | assumption | (simp only [fr_up_at, fr_up_s, fr_sc_at, fr_sc_a, Nat.reduceEqDiff, false_and, if_false, ite_false, reduceCtorEq]; first | assumption | rfl) | rfl) ?_
    refine gm_iconst (v := nI 1) d_M_search_14 (by decide) ?_
    first | refine gm_isubN d_M_search_15 (by omega) ?_ | refine gm_isub d_M_search_15 ?_
    refine gm_istore_n (L1 := [_, _, _, _, _, _, _]) d_M_search_16 (by decide) rfl ?_
    rw [Nat.add_sub_cancel]
    refine gm_aload_n d_M_search_17 rfl (by first | exact am_rvR _ | exact am_rvN | assumption) ?_
    refine fr_gA 30 d_M_search_18 f_M_86 (by decide) (by decide) ?_
    refine gm_iload_n d_M_search_21 rfl ?_
    refine gm_bipush (v := nI 6) d_M_search_22 (by decide) ?_
    first | refine gm_iremN d_M_search_24 (by omega) (by omega) (by omega) ?_ | refine gm_irem d_M_search_24 (by decide) ?_
    rw [show (6 * f + t) % 6 = t by omega]
    refine fr_aldv d_M_search_25 (by decide) rfl (show _ < 6 by omega) (by first | assumption | (simp only [fr_up_at, fr_up_s, fr_sc_at, fr_sc_a, Nat.reduceEqDiff, false_and, if_false, ite_false, reduceCtorEq]; first | assumption | rfl) | rfl) ?_
    refine gm_iconst (v := nI 1) d_M_search_26 (by decide) ?_
    first | refine gm_isubN d_M_search_27 (by omega) ?_ | refine gm_isub d_M_search_27 ?_
    refine gm_istore_n (L1 := [_, _, _, _, _, _, _]) d_M_search_28 (by decide) rfl ?_
    refine gm_iload_n d_M_search_29 rfl ?_
    refine gm_if_ltN (tgt := 37) d_M_search_30 (by decide) (by omega) (fun q => absurd q (by omega)) (fun _ => ?_)
    refine gm_iload_n d_M_search_33 rfl ?_
    refine gm_if_ge (tgt := 39) d_M_search_34 (by decide) (fun q => absurd q (by decide)) (fun _ => ?_)
    refine gm_iconst (v := nI 0) d_M_search_37 (by decide) ?_
    refine gm_iret d_M_search_38 rfl (by first | rfl | exact am_b_nar _) ?_
    exact ⟨by rw [fc_wayOf_no (show f < 1000 by omega) (show t < 1000 by omega) (Or.inr et)]; rfl, (fr_sm.refl _ r).sc (by decide) _, fun z => absurd (fc_wayOf_no (show f < 1000 by omega) (show t < 1000 by omega) (Or.inr et)) z⟩
  rw [ef, nI_add] at h30f
  rw [et, nI_add] at h30t
  have WD := fun d hL => fc_wayOf_d (ns := ns) (s := s) (d := d) (show f < 1000 by omega) (show t < 1000 by omega) (show a < 1000 by omega) (show b < 1000 by omega) ef et hL
  have fin : ∀ (d : Nat) (r2 : fr_S), fr_sm [42, 43] r r2 → pw_L ns (fc_E s) (b / 4) ns (a / 4) = some d → r2.1 42 = nI (d + 1) → (∀ i, i < d + 1 → r2.2 43 i = nI (pw_at ns (fc_E s) (b / 4) d (a / 4) i)) → (some (Value.int (nI 1)) = some (Value.int (am_b (!(fc_wayOf ns s (nI f) (nI t)).isEmpty))) ∧ fr_sm [42, 43] r r2 ∧ ((fc_wayOf ns s (nI f) (nI t)) ≠ [] → fr_fd (fc_wayOf ns s (nI f) (nI t)) r2)) := fun d r2 h1 hL h42 h43 => by
    rw [WD d hL]
    refine ⟨?_, h1, fun _ => fr_fd_of n5 ha hb hL h42 h43⟩
    rw [show ((List.range d).map (fc_wF ns s (b / 4) d (a / 4)) ++ [nI b]).isEmpty = false by simp]
    rfl
  have inner : ∀ (mm : Nat), mm + 2 ≤ ns → (∀ j, j < mm + 1 → pw_wk ns (fc_E s) j (a / 4) (b / 4) = false) → (∀ r1 x6, fr_sm [42, 43] r r1 → pw_wk ns (fc_E s) (mm + 1) (a / 4) (b / 4) = false → gm_W (fr_P A) fr_X g y_M_search 2 49 (fun v r' => v = some (.int (am_b (!(fc_wayOf ns s (nI f) (nI t)).isEmpty))) ∧ fr_sm [42, 43] r r' ∧ ((fc_wayOf ns s (nI f) (nI t)) ≠ [] → fr_fd (fc_wayOf ns s (nI f) (nI t)) r')) 120 [some (.ref (A 44)), some (.int (nI (6 * f + t))), some (.int (nI a)), some (.int (nI b)), some (.int (nI (ns ^ mm))), some (.int (nI (mm + 2))), x6] [] r1) → ∀ (q k : Nat) (r1 : fr_S), k + q = ns ^ mm → fr_sm [42, 43] r r1 → (∀ x, x < k → pw_ch ns (fc_E s) (b / 4) mm (a / 4) x = false) → gm_W (fr_P A) fr_X g y_M_search 2 49 (fun v r' => v = some (.int (am_b (!(fc_wayOf ns s (nI f) (nI t)).isEmpty))) ∧ fr_sm [42, 43] r r' ∧ ((fc_wayOf ns s (nI f) (nI t)) ≠ [] → fr_fd (fc_wayOf ns s (nI f) (nI t)) r')) 82 [some (.ref (A 44)), some (.int (nI (6 * f + t))), some (.int (nI a)), some (.int (nI b)), some (.int (nI (ns ^ mm))), some (.int (nI (mm + 2))), some (.int (nI k))] [] r1 := by
    intro mm hmm hbef hgo q
    have hp3 : ns ^ mm < 3126 := by
      have h1 : ns ^ mm ≤ 5 ^ mm := Nat.pow_le_pow_left n5 mm
      have h2 : 5 ^ mm ≤ 5 ^ 5 := Nat.pow_le_pow_right (by omega) (by omega)
      have h3 : 5 ^ 5 = 3125 := by decide
      omega
    induction q with
    | zero =>
      intro k r1 hk hs1 hno
      have hnw : pw_wk ns (fc_E s) (mm + 1) (a / 4) (b / 4) = false := Bool.eq_false_iff.mpr (fun z => by
        have h1 := pw_ch_num (show b / 4 < ns by omega) z
        rw [hno _ (by have := pw_num_lt z; omega)] at h1
        cases h1)
      refine gm_iload d_M_search_82 rfl ?_
      refine gm_iload d_M_search_84 rfl ?_
      refine gm_icmp_geN (tgt := 120) d_M_search_86 (by decide) (by omega) (by omega) (fun _ => ?_) (fun q => absurd q (by omega))
      exact hgo _ _ hs1 hnw
    | succ q ih =>
      intro k r1 hk hs1 hno
      have hkl : k < ns ^ mm := by omega
      have H1 : fr_rel ns room idle s r1 := H.scr hs1
      refine gm_iload d_M_search_82 rfl ?_
      refine gm_iload d_M_search_84 rfl ?_
      refine gm_icmp_geN (tgt := 120) d_M_search_86 (by decide) (by omega) (by omega) (fun q => absurd q (by omega)) (fun _ => ?_)
      refine gm_aload_n d_M_search_89 rfl (by first | exact am_rvR _ | exact am_rvN | assumption) ?_
      refine gm_iload d_M_search_90 rfl ?_
      refine gm_iload d_M_search_92 rfl ?_
      refine gm_iload_n d_M_search_94 rfl ?_
      refine gm_iconst (v := nI 4) d_M_search_95 (by decide) ?_
      first | refine gm_idivN d_M_search_96 (by omega) (by omega) (by omega) ?_ | refine gm_idiv d_M_search_96 (by decide) ?_
      refine gm_iload_n d_M_search_97 rfl ?_
      refine gm_iconst (v := nI 4) d_M_search_98 (by decide) ?_
      first | refine gm_idivN d_M_search_99 (by omega) (by omega) (by omega) ?_ | refine gm_idiv d_M_search_99 (by decide) ?_
      refine gm_cV (b := A 44) d_M_search_100 v_M_203 (vs := [.int (nI k), .int (nI (mm + 2)), .int (nI (a / 4)), .int (nI (b / 4))]) (st := []) rfl rfl (by decide) (Nat.le_of_ble_eq_true rfl) (fr_at _) (rf_isWay H1 D hmm hkl (show a / 4 < ns by omega) (show b / 4 < ns by omega)) ?_
      rintro v r2 ⟨rfl, hs2, h43⟩
      first | refine gm_if_eqB (tgt := 114) d_M_search_103 (by decide) (fun q103 => ?_) (fun q103 => ?_) | refine gm_if_eqN (tgt := 114) d_M_search_103 (by decide) (by omega) (fun q103 => ?_) (fun q103 => ?_) | refine gm_if_eq (tgt := 114) d_M_search_103 (by decide) (fun q103 => ?_) (fun q103 => ?_)
      · first | refine gm_iincN (b := 1) (L1 := [_, _, _, _, _, _, _]) d_M_search_114 rfl (by decide) (by decide) rfl ?_ | refine gm_iinc (L1 := [_, _, _, _, _, _, _]) d_M_search_114 rfl rfl (by decide) rfl ?_
        refine gm_goto (tgt := 82) d_M_search_117 (by decide) ?_
        exact ih (k + 1) _ (by omega) (hs1.trans (hs2.mono (by decide))) (fun x hx => by
          by_cases e : x = k
          · subst e; exact q103
          · exact hno x (by omega))
      · refine gm_aload_n d_M_search_106 rfl (by first | exact am_rvR _ | exact am_rvN | assumption) ?_
        refine gm_iload d_M_search_107 rfl ?_
        refine fr_pS 42 d_M_search_109 f_M_200 (p_M_200 _) (by decide) rfl ?_
        refine gm_iconst (v := nI 1) d_M_search_112 (by decide) ?_
        refine gm_iret d_M_search_113 rfl (by first | rfl | exact am_b_nar _) ?_
        have hwk := pw_ch_wk (show b / 4 < ns by omega) q103
        have hle := pw_ch_least (show b / 4 < ns by omega) hkl q103
        have ek : k = pw_num ns (fc_E s) (b / 4) mm (a / 4) := by
          rcases Nat.lt_or_ge (pw_num ns (fc_E s) (b / 4) mm (a / 4)) k with h | h
          · have h1 := pw_ch_num (show b / 4 < ns by omega) hwk
            rw [hno _ h] at h1
            cases h1
          · omega
        refine fin (mm + 1) _ ((hs1.trans (hs2.mono (by decide))).sc (by decide) _) (fr_Lyes (by omega) hbef hwk) rfl (fun i hi => ?_)
        rw [← fr_dg_num hwk (by omega), ← ek]
        exact h43 i (by omega)
  have outer : a / 4 ≠ b / 4 → ∀ (q mm : Nat) (x6 : Option Value) (r1 : fr_S), mm + 1 + q = ns → fr_sm [42, 43] r r1 → (∀ j, j < mm + 1 → pw_wk ns (fc_E s) j (a / 4) (b / 4) = false) → gm_W (fr_P A) fr_X g y_M_search 2 49 (fun v r' => v = some (.int (am_b (!(fc_wayOf ns s (nI f) (nI t)).isEmpty))) ∧ fr_sm [42, 43] r r' ∧ ((fc_wayOf ns s (nI f) (nI t)) ≠ [] → fr_fd (fc_wayOf ns s (nI f) (nI t)) r')) 70 [some (.ref (A 44)), some (.int (nI (6 * f + t))), some (.int (nI a)), some (.int (nI b)), some (.int (nI (ns ^ mm))), some (.int (nI (mm + 2))), x6] [] r1 := by
    intro hne q
    induction q with
    | zero =>
      intro mm x6 r1 hq hs1 hbef
      have h01 : r1.1 0 = nI ns := (hs1 0 (by decide)).1.trans h0
      have hW := fc_wayOf_n (ns := ns) (s := s) (show f < 1000 by omega) (show t < 1000 by omega) (show a < 1000 by omega) (show b < 1000 by omega) ef et (fr_Lno (show a / 4 < ns by omega) (fun j hj => hbef j (by omega)))
      refine gm_iload d_M_search_70 rfl ?_
      refine gm_aload_n d_M_search_72 rfl (by first | exact am_rvR _ | exact am_rvN | assumption) ?_
      refine fr_gSv 0 d_M_search_73 f_M_123 (by decide) rfl (by first | assumption | (simp only [fr_up_at, fr_up_s, fr_sc_at, fr_sc_a, Nat.reduceEqDiff, false_and, if_false, ite_false, reduceCtorEq]; first | assumption | rfl) | rfl) ?_
      refine gm_icmp_gtN (tgt := 135) d_M_search_76 (by decide) (by omega) (by omega) (fun _ => ?_) (fun q => absurd q (by omega))
      refine gm_iconst (v := nI 0) d_M_search_135 (by decide) ?_
      refine gm_iret d_M_search_136 rfl (by first | rfl | exact am_b_nar _) ?_
      exact ⟨by rw [hW]; rfl, hs1, fun z => absurd hW z⟩
    | succ q ih =>
      intro mm x6 r1 hq hs1 hbef
      have h01 : r1.1 0 = nI ns := (hs1 0 (by decide)).1.trans h0
      refine gm_iload d_M_search_70 rfl ?_
      refine gm_aload_n d_M_search_72 rfl (by first | exact am_rvR _ | exact am_rvN | assumption) ?_
      refine fr_gSv 0 d_M_search_73 f_M_123 (by decide) rfl (by first | assumption | (simp only [fr_up_at, fr_up_s, fr_sc_at, fr_sc_a, Nat.reduceEqDiff, false_and, if_false, ite_false, reduceCtorEq]; first | assumption | rfl) | rfl) ?_
      refine gm_icmp_gtN (tgt := 135) d_M_search_76 (by decide) (by omega) (by omega) (fun q => absurd q (by omega)) (fun _ => ?_)
      refine gm_iconst (v := nI 0) d_M_search_79 (by decide) ?_
      refine gm_istore (L1 := [_, _, _, _, _, _, _]) d_M_search_80 (by decide) rfl ?_
      refine inner mm (by omega) hbef (fun r3 x7 hs3 hnw => ?_) (ns ^ mm) 0 _ (by omega) hs1 (fun x hx => absurd hx (Nat.not_lt_zero _))
      have h03 : r3.1 0 = nI ns := (hs3 0 (by decide)).1.trans h0
      refine gm_iload d_M_search_120 rfl ?_
      refine gm_aload_n d_M_search_122 rfl (by first | exact am_rvR _ | exact am_rvN | assumption) ?_
      refine fr_gSv 0 d_M_search_123 f_M_123 (by decide) rfl (by first | assumption | (simp only [fr_up_at, fr_up_s, fr_sc_at, fr_sc_a, Nat.reduceEqDiff, false_and, if_false, ite_false, reduceCtorEq]; first | assumption | rfl) | rfl) ?_
      first | refine gm_imulN d_M_search_126 ?_ | refine gm_imul d_M_search_126 ?_
      refine gm_istore (L1 := [_, _, _, _, _, _, _]) d_M_search_127 (by decide) rfl ?_
      first | refine gm_iincN (b := 1) (L1 := [_, _, _, _, _, _, _]) d_M_search_129 rfl (by decide) (by decide) rfl ?_ | refine gm_iinc (L1 := [_, _, _, _, _, _, _]) d_M_search_129 rfl rfl (by decide) rfl ?_
      refine gm_goto (tgt := 70) d_M_search_132 (by decide) ?_
      exact ih (mm + 1) _ _ (by omega) hs3 (fun j hj => by
        by_cases e : j = mm + 1
        · subst e; exact hnw
        · exact hbef j (by omega))
  refine gm_Mof (L0 := [some (.ref (A 44)), some (.int (nI (6 * f + t))), none, none, none, none, none]) pl_M_search (am_k1 rfl (am_k1 rfl am_k0)) (Nat.le_of_ble_eq_true rfl) rfl ?_
  refine gm_aload_n d_M_search_0 rfl (by first | exact am_rvR _ | exact am_rvN | assumption) ?_
  refine gm_iconst (v := nI 0) d_M_search_1 (by decide) ?_
  refine fr_pS 42 d_M_search_2 f_M_200 (p_M_200 _) (by decide) rfl ?_
  refine gm_aload_n d_M_search_5 rfl (by first | exact am_rvR _ | exact am_rvN | assumption) ?_
  refine fr_gA 30 d_M_search_6 f_M_86 (by decide) (by decide) ?_
  refine gm_iload_n d_M_search_9 rfl ?_
  refine gm_bipush (v := nI 6) d_M_search_10 (by decide) ?_
  first | refine gm_idivN d_M_search_12 (by omega) (by omega) (by omega) ?_ | refine gm_idiv d_M_search_12 (by decide) ?_
  rw [show (6 * f + t) / 6 = f by omega]
  refine fr_aldv d_M_search_13 (by decide) rfl (show _ < 6 by omega) (by first | assumption | (simp only [fr_up_at, fr_up_s, fr_sc_at, fr_sc_a, Nat.reduceEqDiff, false_and, if_false, ite_false, reduceCtorEq]; first | assumption | rfl) | rfl) ?_
  refine gm_iconst (v := nI 1) d_M_search_14 (by decide) ?_
  first | refine gm_isubN d_M_search_15 (by omega) ?_ | refine gm_isub d_M_search_15 ?_
  refine gm_istore_n (L1 := [_, _, _, _, _, _, _]) d_M_search_16 (by decide) rfl ?_
  rw [Nat.add_sub_cancel]
  refine gm_aload_n d_M_search_17 rfl (by first | exact am_rvR _ | exact am_rvN | assumption) ?_
  refine fr_gA 30 d_M_search_18 f_M_86 (by decide) (by decide) ?_
  refine gm_iload_n d_M_search_21 rfl ?_
  refine gm_bipush (v := nI 6) d_M_search_22 (by decide) ?_
  first | refine gm_iremN d_M_search_24 (by omega) (by omega) (by omega) ?_ | refine gm_irem d_M_search_24 (by decide) ?_
  rw [show (6 * f + t) % 6 = t by omega]
  refine fr_aldv d_M_search_25 (by decide) rfl (show _ < 6 by omega) (by first | assumption | (simp only [fr_up_at, fr_up_s, fr_sc_at, fr_sc_a, Nat.reduceEqDiff, false_and, if_false, ite_false, reduceCtorEq]; first | assumption | rfl) | rfl) ?_
  refine gm_iconst (v := nI 1) d_M_search_26 (by decide) ?_
  first | refine gm_isubN d_M_search_27 (by omega) ?_ | refine gm_isub d_M_search_27 ?_
  refine gm_istore_n (L1 := [_, _, _, _, _, _, _]) d_M_search_28 (by decide) rfl ?_
  rw [Nat.add_sub_cancel]
  refine gm_iload_n d_M_search_29 rfl ?_
  refine gm_if_ltN (tgt := 37) d_M_search_30 (by decide) (by omega) (fun q => absurd q (by omega)) (fun _ => ?_)
  refine gm_iload_n d_M_search_33 rfl ?_
  refine gm_if_geN (tgt := 39) d_M_search_34 (by decide) (by omega) (fun _ => ?_) (fun q => absurd q (by omega))
  refine gm_iload_n d_M_search_39 rfl ?_
  refine gm_iconst (v := nI 4) d_M_search_40 (by decide) ?_
  first | refine gm_idivN d_M_search_41 (by omega) (by omega) (by omega) ?_ | refine gm_idiv d_M_search_41 (by decide) ?_
  refine gm_iload_n d_M_search_42 rfl ?_
  refine gm_iconst (v := nI 4) d_M_search_43 (by decide) ?_
  first | refine gm_idivN d_M_search_44 (by omega) (by omega) (by omega) ?_ | refine gm_idiv d_M_search_44 (by decide) ?_
  first | refine gm_icmp_neN (tgt := 64) d_M_search_45 (by decide) (by omega) (by omega) (fun q45 => ?_) (fun q45 => ?_) | refine gm_icmp_ne (tgt := 64) d_M_search_45 (by decide) (fun q45 => ?_) (fun q45 => ?_)
  · refine gm_iconst (v := nI 1) d_M_search_64 (by decide) ?_
    refine gm_istore (L1 := [_, _, _, _, _, _, _]) d_M_search_65 (by decide) rfl ?_
    refine gm_iconst (v := nI 2) d_M_search_67 (by decide) ?_
    refine gm_istore (L1 := [_, _, _, _, _, _, _]) d_M_search_68 (by decide) rfl ?_
    have h9 := outer q45 (ns - 1) 0 none (fr_sc r 42 (nI 0)) (by omega) ((fr_sm.refl _ r).sc (by decide) _) (fun j hj => by
      have e : j = 0 := by omega
      subst e
      exact Bool.eq_false_iff.mpr (fun z => q45 (pw_wk_zero.mp z)))
    exact h9
  · refine gm_aload_n d_M_search_48 rfl (by first | exact am_rvR _ | exact am_rvN | assumption) ?_
    refine fr_gA 43 d_M_search_49 f_M_116 (by decide) (by decide) ?_
    refine gm_iconst (v := nI 0) d_M_search_52 (by decide) ?_
    refine gm_iload_n d_M_search_53 rfl ?_
    refine gm_iconst (v := nI 4) d_M_search_54 (by decide) ?_
    first | refine gm_idivN d_M_search_55 (by omega) (by omega) (by omega) ?_ | refine gm_idiv d_M_search_55 (by decide) ?_
    refine fr_ast d_M_search_56 (by decide) rfl (show _ < 5 by omega) ?_
    refine gm_aload_n d_M_search_57 rfl (by first | exact am_rvR _ | exact am_rvN | assumption) ?_
    refine gm_iconst (v := nI 1) d_M_search_58 (by decide) ?_
    refine fr_pS 42 d_M_search_59 f_M_200 (p_M_200 _) (by decide) rfl ?_
    refine gm_iconst (v := nI 1) d_M_search_62 (by decide) ?_
    refine gm_iret d_M_search_63 rfl (by first | rfl | exact am_b_nar _) ?_
    have hL : pw_L ns (fc_E s) (b / 4) ns (a / 4) = some 0 := by rw [q45]; exact fr_L0
    refine fin 0 _ ((((fr_sm.refl _ r).sc (by decide) _).up (by decide) _ _).sc (by decide) _) hL rfl (fun i hi => ?_)
    have e : i = 0 := by omega
    subst e
    rw [pw_at_z]
    rfl
end REP
