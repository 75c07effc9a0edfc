/-! the reference: waiting, rule, course -/
section REO
variable {g : am_G} {A : Nat → Nat} {r : fr_S} {ns room idle : Nat} {s : fc_S}
theorem rf_waiting (H : fr_rel ns room idle s r) (D : fc_iD ns room s) (x w : Int32) : gm_M (fr_P A) fr_X g y_M_waiting "(II)I" 1 21 [.ref (A 44), .int x, .int w] (fun v r' => v = some (.int (fc_waiting ns s x w)) ∧ r' = r) r := by
  refine gm_Mof (L0 := [some (.ref (A 44)), some (.int x), some (.int w)]) pl_M_waiting (am_k1 rfl (am_k1 rfl (am_k1 rfl am_k0))) (Nat.le_of_ble_eq_true rfl) rfl ?_
  refine gm_aload_n d_M_waiting_0 rfl (by first | exact am_rvR _ | exact am_rvN | assumption) ?_
  refine gm_iload_n d_M_waiting_1 rfl ?_
  refine gm_cV (b := A 44) d_M_waiting_2 v_M_133 (vs := [.int x]) (st := []) rfl rfl (by decide) (Nat.le_of_ble_eq_true rfl) (fr_at _) (rf_isSwitch H.1.1 x) ?_
  rintro v r1 ⟨rfl, hr1⟩
  subst r1
  first | refine gm_if_eqB (tgt := 17) d_M_waiting_5 (by decide) (fun q5 => ?_) (fun q5 => ?_) | refine gm_if_eqN (tgt := 17) d_M_waiting_5 (by decide) (by omega) (fun q5 => ?_) (fun q5 => ?_) | refine gm_if_eq (tgt := 17) d_M_waiting_5 (by decide) (fun q5 => ?_) (fun q5 => ?_)
  · refine gm_iconst (v := (-1)) d_M_waiting_17 (by decide) ?_
    refine gm_iret d_M_waiting_18 rfl rfl ?_
    first | (refine ⟨?_, rfl⟩; rw [fc_waiting_no q5]; try rfl) | (refine ⟨?_, rfl⟩; rw [fc_waiting_out (Or.inl q9)]; try rfl) | (refine ⟨?_, rfl⟩; rw [fc_waiting_out (Or.inr q14)]; try rfl) | (refine ⟨?_, rfl⟩; rw [fc_waiting_w n5 hi q5 q21]; try rfl) | exact ⟨rfl, rfl⟩
  · have n5 := D.1.2.1
    obtain ⟨i, hi, rfl⟩ := fc_sw_nat n5 q5
    refine gm_iload_n d_M_waiting_8 rfl ?_
    first | refine gm_if_ltN (tgt := 17) d_M_waiting_9 (by decide) (by omega) (fun q9 => ?_) (fun q9 => ?_) | refine gm_if_lt (tgt := 17) d_M_waiting_9 (by decide) (fun q9 => ?_) (fun q9 => ?_)
    · refine gm_iconst (v := (-1)) d_M_waiting_17 (by decide) ?_
      refine gm_iret d_M_waiting_18 rfl rfl ?_
      first | (refine ⟨?_, rfl⟩; rw [fc_waiting_no q5]; try rfl) | (refine ⟨?_, rfl⟩; rw [fc_waiting_out (Or.inl q9)]; try rfl) | (refine ⟨?_, rfl⟩; rw [fc_waiting_out (Or.inr q14)]; try rfl) | (refine ⟨?_, rfl⟩; rw [fc_waiting_w n5 hi q5 q21]; try rfl) | exact ⟨rfl, rfl⟩
    · refine gm_iload_n d_M_waiting_12 rfl ?_
      refine gm_iconst (v := nI 5) d_M_waiting_13 (by decide) ?_
      first | refine gm_icmp_leN (tgt := 19) d_M_waiting_14 (by decide) (by omega) (by omega) (fun q14 => ?_) (fun q14 => ?_) | refine gm_icmp_le (tgt := 19) d_M_waiting_14 (by decide) (fun q14 => ?_) (fun q14 => ?_)
      · obtain ⟨k, hk, rfl⟩ := fc_rng (n := 5) (by omega) (by rw [Int32.lt_iff_toInt_lt] at q9; rw [Int32.le_iff_toInt_le]; omega) q14
        refine gm_iload_n d_M_waiting_19 rfl ?_
        refine gm_iconst (v := nI 4) d_M_waiting_20 (by decide) ?_
        first | refine gm_icmp_geN (tgt := 37) d_M_waiting_21 (by decide) (by omega) (by omega) (fun q21 => ?_) (fun q21 => ?_) | refine gm_icmp_ge (tgt := 37) d_M_waiting_21 (by decide) (fun q21 => ?_) (fun q21 => ?_)
        · have h25 := fc_waiting_l H n5 hi q5 q21 hk
          refine gm_aload_n d_M_waiting_37 rfl (by first | exact am_rvR _ | exact am_rvN | assumption) ?_
          refine fr_gA 25 d_M_waiting_38 f_M_71 (by decide) (by decide) ?_
          refine gm_iconst (v := nI 2) d_M_waiting_41 (by decide) ?_
          refine gm_iload_n d_M_waiting_42 rfl ?_
          first | refine gm_imulN d_M_waiting_43 ?_ | refine gm_imul d_M_waiting_43 ?_
          refine gm_iload_n d_M_waiting_44 rfl ?_
          first | refine gm_iaddN d_M_waiting_45 ?_ | refine gm_iadd d_M_waiting_45 ?_
          refine gm_iconst (v := nI 4) d_M_waiting_46 (by decide) ?_
          first | refine gm_isubN d_M_waiting_47 (by omega) ?_ | refine gm_isub d_M_waiting_47 ?_
          refine fr_aldv d_M_waiting_48 (by decide) rfl (show _ < 10 by omega) (by first | assumption | (simp only [fr_up_at, fr_up_s, fr_sc_at, fr_sc_a, Nat.reduceEqDiff, false_and, if_false, ite_false, reduceCtorEq]; first | assumption | rfl) | rfl) ?_
          refine gm_iret d_M_waiting_49 rfl rfl ?_
          first | (refine ⟨?_, rfl⟩; rw [fc_waiting_no q5]; try rfl) | (refine ⟨?_, rfl⟩; rw [fc_waiting_out (Or.inl q9)]; try rfl) | (refine ⟨?_, rfl⟩; rw [fc_waiting_out (Or.inr q14)]; try rfl) | (refine ⟨?_, rfl⟩; rw [fc_waiting_w n5 hi q5 q21]; try rfl) | exact ⟨rfl, rfl⟩
        · have h12 : r.2 12 (4 * i + k) = nI (s (200 + (4 * i + k))).length := (H.2.2.2.1 _ (by omega)).1
          refine gm_aload_n d_M_waiting_24 rfl (by first | exact am_rvR _ | exact am_rvN | assumption) ?_
          refine fr_gA 12 d_M_waiting_25 f_M_32 (by decide) (by decide) ?_
          refine gm_iconst (v := nI 4) d_M_waiting_28 (by decide) ?_
          refine gm_iload_n d_M_waiting_29 rfl ?_
          first | refine gm_imulN d_M_waiting_30 ?_ | refine gm_imul d_M_waiting_30 ?_
          refine gm_iload_n d_M_waiting_31 rfl ?_
          first | refine gm_iaddN d_M_waiting_32 ?_ | refine gm_iadd d_M_waiting_32 ?_
          refine fr_aldv d_M_waiting_33 (by decide) rfl (show _ < 20 by omega) (by first | assumption | (simp only [fr_up_at, fr_up_s, fr_sc_at, fr_sc_a, Nat.reduceEqDiff, false_and, if_false, ite_false, reduceCtorEq]; first | assumption | rfl) | rfl) ?_
          refine gm_goto (tgt := 49) d_M_waiting_34 (by decide) ?_
          refine gm_iret d_M_waiting_49 rfl rfl ?_
          first | (refine ⟨?_, rfl⟩; rw [fc_waiting_no q5]; try rfl) | (refine ⟨?_, rfl⟩; rw [fc_waiting_out (Or.inl q9)]; try rfl) | (refine ⟨?_, rfl⟩; rw [fc_waiting_out (Or.inr q14)]; try rfl) | (refine ⟨?_, rfl⟩; rw [fc_waiting_w n5 hi q5 q21]; try rfl) | exact ⟨rfl, rfl⟩
      · refine gm_iconst (v := (-1)) d_M_waiting_17 (by decide) ?_
        refine gm_iret d_M_waiting_18 rfl rfl ?_
        first | (refine ⟨?_, rfl⟩; rw [fc_waiting_no q5]; try rfl) | (refine ⟨?_, rfl⟩; rw [fc_waiting_out (Or.inl q9)]; try rfl) | (refine ⟨?_, rfl⟩; rw [fc_waiting_out (Or.inr q14)]; try rfl) | (refine ⟨?_, rfl⟩; rw [fc_waiting_w n5 hi q5 q21]; try rfl) | exact ⟨rfl, rfl⟩
theorem rf_rule (H : fr_rel ns room idle s r) (D : fc_iD ns room s) (x f t w : Int32) : gm_M (fr_P A) fr_X g y_M_rule "(IIII)I" 1 23 [.ref (A 44), .int x, .int f, .int t, .int w] (fun v r' => v = some (.int (fc_rule ns s x f t w)) ∧ r' = r) r := by
  have n5 := D.1.2.1
  refine gm_Mof (L0 := [some (.ref (A 44)), some (.int x), some (.int f), some (.int t), some (.int w), none, none]) pl_M_rule (am_k1 rfl (am_k1 rfl (am_k1 rfl (am_k1 rfl (am_k1 rfl am_k0))))) (Nat.le_of_ble_eq_true rfl) rfl ?_
  refine gm_iload_n d_M_rule_0 rfl ?_
  first | refine gm_if_ltN (tgt := 24) d_M_rule_1 (by decide) (by omega) (fun q1 => ?_) (fun q1 => ?_) | refine gm_if_lt (tgt := 24) d_M_rule_1 (by decide) (fun q1 => ?_) (fun q1 => ?_)
  · refine gm_iconst (v := nI 0) d_M_rule_24 (by decide) ?_
    refine gm_istore (L1 := [_, _, _, _, _, _, _]) d_M_rule_25 (by decide) rfl ?_
    refine gm_aload_n d_M_rule_27 rfl (by first | exact am_rvR _ | exact am_rvN | assumption) ?_
    refine gm_iload_n d_M_rule_28 rfl ?_
    refine gm_cV (b := A 44) d_M_rule_29 v_M_133 (vs := [.int x]) (st := []) rfl rfl (by decide) (Nat.le_of_ble_eq_true rfl) (fr_at _) (rf_isSwitch H.1.1 x) ?_
    rintro v r1 ⟨rfl, hr1⟩
    subst r1
    first | refine gm_if_eqB (tgt := 54) d_M_rule_32 (by decide) (fun q32 => ?_) (fun q32 => ?_) | refine gm_if_eqN (tgt := 54) d_M_rule_32 (by decide) (by omega) (fun q32 => ?_) (fun q32 => ?_) | refine gm_if_eq (tgt := 54) d_M_rule_32 (by decide) (fun q32 => ?_) (fun q32 => ?_)
    · refine gm_iconst (v := (-1)) d_M_rule_54 (by decide) ?_
      refine gm_istore (L1 := [_, _, _, _, _, _, _]) d_M_rule_55 (by decide) rfl ?_
      refine gm_iload d_M_rule_57 rfl ?_
      refine gm_if_lt (tgt := 73) d_M_rule_59 (by decide) (fun _ => ?_) (fun q => absurd (by decide) q)
      refine gm_iconst (v := (-1)) d_M_rule_73 (by decide) ?_
      refine gm_iret d_M_rule_74 rfl rfl ?_
      first | (refine ⟨?_, rfl⟩; rw [fc_rule_no q32]; try rfl) | (obtain ⟨i, hi, rfl⟩ := fc_sw_nat n5 q32; refine ⟨?_, rfl⟩; rw [fc_rule_none n5 hi (fc_rix_out D.2.2.2.2.2.1 hi (fc_out6 (Or.inl q1)))]) | (obtain ⟨i, hi, rfl⟩ := fc_sw_nat n5 q32; refine ⟨?_, rfl⟩; rw [fc_rule_none n5 hi (fc_rix_out D.2.2.2.2.2.1 hi (fc_out6 (Or.inr (Or.inl q7))))]) | (obtain ⟨i, hi, rfl⟩ := fc_sw_nat n5 q32; refine ⟨?_, rfl⟩; rw [fc_rule_none n5 hi (fc_rix_out D.2.2.2.2.2.1 hi (fc_out6 (Or.inr (Or.inr (Or.inl q11)))))]) | (obtain ⟨i, hi, rfl⟩ := fc_sw_nat n5 q32; refine ⟨?_, rfl⟩; rw [fc_rule_none n5 hi (fc_rix_out D.2.2.2.2.2.1 hi (fc_out6 (Or.inr (Or.inr (Or.inr q17)))))])
    · refine gm_iload d_M_rule_35 rfl ?_
      refine gm_if_eqN (tgt := 54) d_M_rule_37 (by decide) (by omega) (fun _ => ?_) (fun q => absurd q (by omega))
      refine gm_iconst (v := (-1)) d_M_rule_54 (by decide) ?_
      refine gm_istore (L1 := [_, _, _, _, _, _, _]) d_M_rule_55 (by decide) rfl ?_
      refine gm_iload d_M_rule_57 rfl ?_
      refine gm_if_lt (tgt := 73) d_M_rule_59 (by decide) (fun _ => ?_) (fun q => absurd (by decide) q)
      refine gm_iconst (v := (-1)) d_M_rule_73 (by decide) ?_
      refine gm_iret d_M_rule_74 rfl rfl ?_
      first | (refine ⟨?_, rfl⟩; rw [fc_rule_no q32]; try rfl) | (obtain ⟨i, hi, rfl⟩ := fc_sw_nat n5 q32; refine ⟨?_, rfl⟩; rw [fc_rule_none n5 hi (fc_rix_out D.2.2.2.2.2.1 hi (fc_out6 (Or.inl q1)))]) | (obtain ⟨i, hi, rfl⟩ := fc_sw_nat n5 q32; refine ⟨?_, rfl⟩; rw [fc_rule_none n5 hi (fc_rix_out D.2.2.2.2.2.1 hi (fc_out6 (Or.inr (Or.inl q7))))]) | (obtain ⟨i, hi, rfl⟩ := fc_sw_nat n5 q32; refine ⟨?_, rfl⟩; rw [fc_rule_none n5 hi (fc_rix_out D.2.2.2.2.2.1 hi (fc_out6 (Or.inr (Or.inr (Or.inl q11)))))]) | (obtain ⟨i, hi, rfl⟩ := fc_sw_nat n5 q32; refine ⟨?_, rfl⟩; rw [fc_rule_none n5 hi (fc_rix_out D.2.2.2.2.2.1 hi (fc_out6 (Or.inr (Or.inr (Or.inr q17)))))])
  · refine gm_iload_n d_M_rule_4 rfl ?_
    refine gm_bipush (v := nI 6) d_M_rule_5 (by decide) ?_
    first | refine gm_icmp_geN (tgt := 24) d_M_rule_7 (by decide) (by omega) (by omega) (fun q7 => ?_) (fun q7 => ?_) | refine gm_icmp_ge (tgt := 24) d_M_rule_7 (by decide) (fun q7 => ?_) (fun q7 => ?_)
    · refine gm_iconst (v := nI 0) d_M_rule_24 (by decide) ?_
      refine gm_istore (L1 := [_, _, _, _, _, _, _]) d_M_rule_25 (by decide) rfl ?_
      refine gm_aload_n d_M_rule_27 rfl (by first | exact am_rvR _ | exact am_rvN | assumption) ?_
      refine gm_iload_n d_M_rule_28 rfl ?_
      refine gm_cV (b := A 44) d_M_rule_29 v_M_133 (vs := [.int x]) (st := []) rfl rfl (by decide) (Nat.le_of_ble_eq_true rfl) (fr_at _) (rf_isSwitch H.1.1 x) ?_
      rintro v r1 ⟨rfl, hr1⟩
      subst r1
      first | refine gm_if_eqB (tgt := 54) d_M_rule_32 (by decide) (fun q32 => ?_) (fun q32 => ?_) | refine gm_if_eqN (tgt := 54) d_M_rule_32 (by decide) (by omega) (fun q32 => ?_) (fun q32 => ?_) | refine gm_if_eq (tgt := 54) d_M_rule_32 (by decide) (fun q32 => ?_) (fun q32 => ?_)
      · refine gm_iconst (v := (-1)) d_M_rule_54 (by decide) ?_
        refine gm_istore (L1 := [_, _, _, _, _, _, _]) d_M_rule_55 (by decide) rfl ?_
        refine gm_iload d_M_rule_57 rfl ?_
        refine gm_if_lt (tgt := 73) d_M_rule_59 (by decide) (fun _ => ?_) (fun q => absurd (by decide) q)
        refine gm_iconst (v := (-1)) d_M_rule_73 (by decide) ?_
        refine gm_iret d_M_rule_74 rfl rfl ?_
        first | (refine ⟨?_, rfl⟩; rw [fc_rule_no q32]; try rfl) | (obtain ⟨i, hi, rfl⟩ := fc_sw_nat n5 q32; refine ⟨?_, rfl⟩; rw [fc_rule_none n5 hi (fc_rix_out D.2.2.2.2.2.1 hi (fc_out6 (Or.inl q1)))]) | (obtain ⟨i, hi, rfl⟩ := fc_sw_nat n5 q32; refine ⟨?_, rfl⟩; rw [fc_rule_none n5 hi (fc_rix_out D.2.2.2.2.2.1 hi (fc_out6 (Or.inr (Or.inl q7))))]) | (obtain ⟨i, hi, rfl⟩ := fc_sw_nat n5 q32; refine ⟨?_, rfl⟩; rw [fc_rule_none n5 hi (fc_rix_out D.2.2.2.2.2.1 hi (fc_out6 (Or.inr (Or.inr (Or.inl q11)))))]) | (obtain ⟨i, hi, rfl⟩ := fc_sw_nat n5 q32; refine ⟨?_, rfl⟩; rw [fc_rule_none n5 hi (fc_rix_out D.2.2.2.2.2.1 hi (fc_out6 (Or.inr (Or.inr (Or.inr q17)))))])
      · refine gm_iload d_M_rule_35 rfl ?_
        refine gm_if_eqN (tgt := 54) d_M_rule_37 (by decide) (by omega) (fun _ => ?_) (fun q => absurd q (by omega))
        refine gm_iconst (v := (-1)) d_M_rule_54 (by decide) ?_
        refine gm_istore (L1 := [_, _, _, _, _, _, _]) d_M_rule_55 (by decide) rfl ?_
        refine gm_iload d_M_rule_57 rfl ?_
        refine gm_if_lt (tgt := 73) d_M_rule_59 (by decide) (fun _ => ?_) (fun q => absurd (by decide) q)
        refine gm_iconst (v := (-1)) d_M_rule_73 (by decide) ?_
        refine gm_iret d_M_rule_74 rfl rfl ?_
        first | (refine ⟨?_, rfl⟩; rw [fc_rule_no q32]; try rfl) | (obtain ⟨i, hi, rfl⟩ := fc_sw_nat n5 q32; refine ⟨?_, rfl⟩; rw [fc_rule_none n5 hi (fc_rix_out D.2.2.2.2.2.1 hi (fc_out6 (Or.inl q1)))]) | (obtain ⟨i, hi, rfl⟩ := fc_sw_nat n5 q32; refine ⟨?_, rfl⟩; rw [fc_rule_none n5 hi (fc_rix_out D.2.2.2.2.2.1 hi (fc_out6 (Or.inr (Or.inl q7))))]) | (obtain ⟨i, hi, rfl⟩ := fc_sw_nat n5 q32; refine ⟨?_, rfl⟩; rw [fc_rule_none n5 hi (fc_rix_out D.2.2.2.2.2.1 hi (fc_out6 (Or.inr (Or.inr (Or.inl q11)))))]) | (obtain ⟨i, hi, rfl⟩ := fc_sw_nat n5 q32; refine ⟨?_, rfl⟩; rw [fc_rule_none n5 hi (fc_rix_out D.2.2.2.2.2.1 hi (fc_out6 (Or.inr (Or.inr (Or.inr q17)))))])
    · refine gm_iload_n d_M_rule_10 rfl ?_
      first | refine gm_if_ltN (tgt := 24) d_M_rule_11 (by decide) (by omega) (fun q11 => ?_) (fun q11 => ?_) | refine gm_if_lt (tgt := 24) d_M_rule_11 (by decide) (fun q11 => ?_) (fun q11 => ?_)
      · refine gm_iconst (v := nI 0) d_M_rule_24 (by decide) ?_
        refine gm_istore (L1 := [_, _, _, _, _, _, _]) d_M_rule_25 (by decide) rfl ?_
        refine gm_aload_n d_M_rule_27 rfl (by first | exact am_rvR _ | exact am_rvN | assumption) ?_
        refine gm_iload_n d_M_rule_28 rfl ?_
        refine gm_cV (b := A 44) d_M_rule_29 v_M_133 (vs := [.int x]) (st := []) rfl rfl (by decide) (Nat.le_of_ble_eq_true rfl) (fr_at _) (rf_isSwitch H.1.1 x) ?_
        rintro v r1 ⟨rfl, hr1⟩
        subst r1
        first | refine gm_if_eqB (tgt := 54) d_M_rule_32 (by decide) (fun q32 => ?_) (fun q32 => ?_) | refine gm_if_eqN (tgt := 54) d_M_rule_32 (by decide) (by omega) (fun q32 => ?_) (fun q32 => ?_) | refine gm_if_eq (tgt := 54) d_M_rule_32 (by decide) (fun q32 => ?_) (fun q32 => ?_)
        · refine gm_iconst (v := (-1)) d_M_rule_54 (by decide) ?_
          refine gm_istore (L1 := [_, _, _, _, _, _, _]) d_M_rule_55 (by decide) rfl ?_
          refine gm_iload d_M_rule_57 rfl ?_
          refine gm_if_lt (tgt := 73) d_M_rule_59 (by decide) (fun _ => ?_) (fun q => absurd (by decide) q)
          refine gm_iconst (v := (-1)) d_M_rule_73 (by decide) ?_
          refine gm_iret d_M_rule_74 rfl rfl ?_
          first | (refine ⟨?_, rfl⟩; rw [fc_rule_no q32]; try rfl) | (obtain ⟨i, hi, rfl⟩ := fc_sw_nat n5 q32; refine ⟨?_, rfl⟩; rw [fc_rule_none n5 hi (fc_rix_out D.2.2.2.2.2.1 hi (fc_out6 (Or.inl q1)))]) | (obtain ⟨i, hi, rfl⟩ := fc_sw_nat n5 q32; refine ⟨?_, rfl⟩; rw [fc_rule_none n5 hi (fc_rix_out D.2.2.2.2.2.1 hi (fc_out6 (Or.inr (Or.inl q7))))]) | (obtain ⟨i, hi, rfl⟩ := fc_sw_nat n5 q32; refine ⟨?_, rfl⟩; rw [fc_rule_none n5 hi (fc_rix_out D.2.2.2.2.2.1 hi (fc_out6 (Or.inr (Or.inr (Or.inl q11)))))]) | (obtain ⟨i, hi, rfl⟩ := fc_sw_nat n5 q32; refine ⟨?_, rfl⟩; rw [fc_rule_none n5 hi (fc_rix_out D.2.2.2.2.2.1 hi (fc_out6 (Or.inr (Or.inr (Or.inr q17)))))])
        · refine gm_iload d_M_rule_35 rfl ?_
          refine gm_if_eqN (tgt := 54) d_M_rule_37 (by decide) (by omega) (fun _ => ?_) (fun q => absurd q (by omega))
          refine gm_iconst (v := (-1)) d_M_rule_54 (by decide) ?_
          refine gm_istore (L1 := [_, _, _, _, _, _, _]) d_M_rule_55 (by decide) rfl ?_
          refine gm_iload d_M_rule_57 rfl ?_
          refine gm_if_lt (tgt := 73) d_M_rule_59 (by decide) (fun _ => ?_) (fun q => absurd (by decide) q)
          refine gm_iconst (v := (-1)) d_M_rule_73 (by decide) ?_
          refine gm_iret d_M_rule_74 rfl rfl ?_
          first | (refine ⟨?_, rfl⟩; rw [fc_rule_no q32]; try rfl) | (obtain ⟨i, hi, rfl⟩ := fc_sw_nat n5 q32; refine ⟨?_, rfl⟩; rw [fc_rule_none n5 hi (fc_rix_out D.2.2.2.2.2.1 hi (fc_out6 (Or.inl q1)))]) | (obtain ⟨i, hi, rfl⟩ := fc_sw_nat n5 q32; refine ⟨?_, rfl⟩; rw [fc_rule_none n5 hi (fc_rix_out D.2.2.2.2.2.1 hi (fc_out6 (Or.inr (Or.inl q7))))]) | (obtain ⟨i, hi, rfl⟩ := fc_sw_nat n5 q32; refine ⟨?_, rfl⟩; rw [fc_rule_none n5 hi (fc_rix_out D.2.2.2.2.2.1 hi (fc_out6 (Or.inr (Or.inr (Or.inl q11)))))]) | (obtain ⟨i, hi, rfl⟩ := fc_sw_nat n5 q32; refine ⟨?_, rfl⟩; rw [fc_rule_none n5 hi (fc_rix_out D.2.2.2.2.2.1 hi (fc_out6 (Or.inr (Or.inr (Or.inr q17)))))])
      · refine gm_iload_n d_M_rule_14 rfl ?_
        refine gm_bipush (v := nI 6) d_M_rule_15 (by decide) ?_
        first | refine gm_icmp_geN (tgt := 24) d_M_rule_17 (by decide) (by omega) (by omega) (fun q17 => ?_) (fun q17 => ?_) | refine gm_icmp_ge (tgt := 24) d_M_rule_17 (by decide) (fun q17 => ?_) (fun q17 => ?_)
        · refine gm_iconst (v := nI 0) d_M_rule_24 (by decide) ?_
          refine gm_istore (L1 := [_, _, _, _, _, _, _]) d_M_rule_25 (by decide) rfl ?_
          refine gm_aload_n d_M_rule_27 rfl (by first | exact am_rvR _ | exact am_rvN | assumption) ?_
          refine gm_iload_n d_M_rule_28 rfl ?_
          refine gm_cV (b := A 44) d_M_rule_29 v_M_133 (vs := [.int x]) (st := []) rfl rfl (by decide) (Nat.le_of_ble_eq_true rfl) (fr_at _) (rf_isSwitch H.1.1 x) ?_
          rintro v r1 ⟨rfl, hr1⟩
          subst r1
          first | refine gm_if_eqB (tgt := 54) d_M_rule_32 (by decide) (fun q32 => ?_) (fun q32 => ?_) | refine gm_if_eqN (tgt := 54) d_M_rule_32 (by decide) (by omega) (fun q32 => ?_) (fun q32 => ?_) | refine gm_if_eq (tgt := 54) d_M_rule_32 (by decide) (fun q32 => ?_) (fun q32 => ?_)
          · refine gm_iconst (v := (-1)) d_M_rule_54 (by decide) ?_
            refine gm_istore (L1 := [_, _, _, _, _, _, _]) d_M_rule_55 (by decide) rfl ?_
            refine gm_iload d_M_rule_57 rfl ?_
            refine gm_if_lt (tgt := 73) d_M_rule_59 (by decide) (fun _ => ?_) (fun q => absurd (by decide) q)
            refine gm_iconst (v := (-1)) d_M_rule_73 (by decide) ?_
            refine gm_iret d_M_rule_74 rfl rfl ?_
            first | (refine ⟨?_, rfl⟩; rw [fc_rule_no q32]; try rfl) | (obtain ⟨i, hi, rfl⟩ := fc_sw_nat n5 q32; refine ⟨?_, rfl⟩; rw [fc_rule_none n5 hi (fc_rix_out D.2.2.2.2.2.1 hi (fc_out6 (Or.inl q1)))]) | (obtain ⟨i, hi, rfl⟩ := fc_sw_nat n5 q32; refine ⟨?_, rfl⟩; rw [fc_rule_none n5 hi (fc_rix_out D.2.2.2.2.2.1 hi (fc_out6 (Or.inr (Or.inl q7))))]) | (obtain ⟨i, hi, rfl⟩ := fc_sw_nat n5 q32; refine ⟨?_, rfl⟩; rw [fc_rule_none n5 hi (fc_rix_out D.2.2.2.2.2.1 hi (fc_out6 (Or.inr (Or.inr (Or.inl q11)))))]) | (obtain ⟨i, hi, rfl⟩ := fc_sw_nat n5 q32; refine ⟨?_, rfl⟩; rw [fc_rule_none n5 hi (fc_rix_out D.2.2.2.2.2.1 hi (fc_out6 (Or.inr (Or.inr (Or.inr q17)))))])
          · refine gm_iload d_M_rule_35 rfl ?_
            refine gm_if_eqN (tgt := 54) d_M_rule_37 (by decide) (by omega) (fun _ => ?_) (fun q => absurd q (by omega))
            refine gm_iconst (v := (-1)) d_M_rule_54 (by decide) ?_
            refine gm_istore (L1 := [_, _, _, _, _, _, _]) d_M_rule_55 (by decide) rfl ?_
            refine gm_iload d_M_rule_57 rfl ?_
            refine gm_if_lt (tgt := 73) d_M_rule_59 (by decide) (fun _ => ?_) (fun q => absurd (by decide) q)
            refine gm_iconst (v := (-1)) d_M_rule_73 (by decide) ?_
            refine gm_iret d_M_rule_74 rfl rfl ?_
            first | (refine ⟨?_, rfl⟩; rw [fc_rule_no q32]; try rfl) | (obtain ⟨i, hi, rfl⟩ := fc_sw_nat n5 q32; refine ⟨?_, rfl⟩; rw [fc_rule_none n5 hi (fc_rix_out D.2.2.2.2.2.1 hi (fc_out6 (Or.inl q1)))]) | (obtain ⟨i, hi, rfl⟩ := fc_sw_nat n5 q32; refine ⟨?_, rfl⟩; rw [fc_rule_none n5 hi (fc_rix_out D.2.2.2.2.2.1 hi (fc_out6 (Or.inr (Or.inl q7))))]) | (obtain ⟨i, hi, rfl⟩ := fc_sw_nat n5 q32; refine ⟨?_, rfl⟩; rw [fc_rule_none n5 hi (fc_rix_out D.2.2.2.2.2.1 hi (fc_out6 (Or.inr (Or.inr (Or.inl q11)))))]) | (obtain ⟨i, hi, rfl⟩ := fc_sw_nat n5 q32; refine ⟨?_, rfl⟩; rw [fc_rule_none n5 hi (fc_rix_out D.2.2.2.2.2.1 hi (fc_out6 (Or.inr (Or.inr (Or.inr q17)))))])
        · obtain ⟨f1, hf, rfl⟩ := fc_rng6 q1 q7
          obtain ⟨t1, ht, rfl⟩ := fc_rng6 q11 q17
          refine gm_iconst (v := nI 1) d_M_rule_20 (by decide) ?_
          refine gm_goto (tgt := 25) d_M_rule_21 (by decide) ?_
          refine gm_istore (L1 := [_, _, _, _, _, _, _]) d_M_rule_25 (by decide) rfl ?_
          refine gm_aload_n d_M_rule_27 rfl (by first | exact am_rvR _ | exact am_rvN | assumption) ?_
          refine gm_iload_n d_M_rule_28 rfl ?_
          refine gm_cV (b := A 44) d_M_rule_29 v_M_133 (vs := [.int x]) (st := []) rfl rfl (by decide) (Nat.le_of_ble_eq_true rfl) (fr_at _) (rf_isSwitch H.1.1 x) ?_
          rintro v r1 ⟨rfl, hr1⟩
          subst r1
          first | refine gm_if_eqB (tgt := 54) d_M_rule_32 (by decide) (fun q32 => ?_) (fun q32 => ?_) | refine gm_if_eqN (tgt := 54) d_M_rule_32 (by decide) (by omega) (fun q32 => ?_) (fun q32 => ?_) | refine gm_if_eq (tgt := 54) d_M_rule_32 (by decide) (fun q32 => ?_) (fun q32 => ?_)
          · refine gm_iconst (v := (-1)) d_M_rule_54 (by decide) ?_
            refine gm_istore (L1 := [_, _, _, _, _, _, _]) d_M_rule_55 (by decide) rfl ?_
            refine gm_iload d_M_rule_57 rfl ?_
            refine gm_if_lt (tgt := 73) d_M_rule_59 (by decide) (fun _ => ?_) (fun q => absurd (by decide) q)
            refine gm_iconst (v := (-1)) d_M_rule_73 (by decide) ?_
            refine gm_iret d_M_rule_74 rfl rfl ?_
            first | (refine ⟨?_, rfl⟩; rw [fc_rule_no q32]; try rfl)
          · refine gm_iload d_M_rule_35 rfl ?_
            refine gm_if_eqN (tgt := 54) d_M_rule_37 (by decide) (by omega) (fun q => absurd q (by omega)) (fun _ => ?_)
            obtain ⟨i, hi, rfl⟩ := fc_sw_nat n5 q32
            refine gm_aload_n d_M_rule_40 rfl (by first | exact am_rvR _ | exact am_rvN | assumption) ?_
            refine gm_iload_n d_M_rule_41 rfl ?_
            refine gm_bipush (v := nI 6) d_M_rule_42 (by decide) ?_
            refine gm_iload_n d_M_rule_44 rfl ?_
            first | refine gm_imulN d_M_rule_45 ?_ | refine gm_imul d_M_rule_45 ?_
            refine gm_iload_n d_M_rule_46 rfl ?_
            first | refine gm_iaddN d_M_rule_47 ?_ | refine gm_iadd d_M_rule_47 ?_
            refine gm_cV (b := A 44) d_M_rule_48 v_M_170 (vs := [.int (nI i), .int (nI (6 * f1 + t1))]) (st := []) rfl rfl (by decide) (Nat.le_of_ble_eq_true rfl) (fr_at _) (rf_ruleAt (by omega) (H.2.2.2.2.2.1 i hi).1 (D.r8 i hi) (nI (6 * f1 + t1))) ?_
            rintro v r1 ⟨rfl, hr1⟩
            subst r1
            rw [H.2.2.2.2.2.1.find D.2.2.2.2.2.1 hi hf ht]
            cases hx : fc_rix s i (nI f1) (nI t1) with
            | none =>
              rw [show fr_pos none (8 * i) = -1 from rfl]
              refine gm_goto (tgt := 55) d_M_rule_51 (by decide) ?_
              refine gm_istore (L1 := [_, _, _, _, _, _, _]) d_M_rule_55 (by decide) rfl ?_
              refine gm_iload d_M_rule_57 rfl ?_
              refine gm_if_lt (tgt := 73) d_M_rule_59 (by decide) (fun _ => ?_) (fun q => absurd (by decide) q)
              refine gm_iconst (v := (-1)) d_M_rule_73 (by decide) ?_
              refine gm_iret d_M_rule_74 rfl rfl ?_
              first | (refine ⟨?_, rfl⟩; rw [fc_rule_none n5 hi hx]; try rfl)
            | some k =>
              rw [show fr_pos (some k) (8 * i) = nI (8 * i + k) from rfl]
              have hk := fc_rix_some hx
              have r8 := D.r8 i hi
              have hr := List.getElem?_eq_getElem hk
              obtain ⟨-, h21, h22, -, -⟩ := (H.2.2.2.2.2.1 i hi).2 k _ hr
              rw [← fc_get_row hr] at h21 h22
              refine gm_goto (tgt := 55) d_M_rule_51 (by decide) ?_
              refine gm_istore (L1 := [_, _, _, _, _, _, _]) d_M_rule_55 (by decide) rfl ?_
              refine gm_iload d_M_rule_57 rfl ?_
              refine gm_if_ltN (tgt := 73) d_M_rule_59 (by decide) (by omega) (fun q => absurd q (by omega)) (fun _ => ?_)
              refine gm_iload d_M_rule_62 rfl ?_
              first | refine gm_if_ltN (tgt := 73) d_M_rule_64 (by decide) (by omega) (fun q64 => ?_) (fun q64 => ?_) | refine gm_if_lt (tgt := 73) d_M_rule_64 (by decide) (fun q64 => ?_) (fun q64 => ?_)
              · refine gm_iconst (v := (-1)) d_M_rule_73 (by decide) ?_
                refine gm_iret d_M_rule_74 rfl rfl ?_
                first | (refine ⟨?_, rfl⟩; rw [fc_rule_some n5 hi q32 hx, if_neg (am_wo (Or.inl q64)).1, if_neg (am_wo (Or.inl q64)).2.1, if_neg (am_wo (Or.inl q64)).2.2]; try rfl) | (refine ⟨?_, rfl⟩; rw [fc_rule_some n5 hi q32 hx, if_neg (am_wo (Or.inr q70)).1, if_neg (am_wo (Or.inr q70)).2.1, if_neg (am_wo (Or.inr q70)).2.2]; try rfl) | (refine ⟨?_, rfl⟩; rw [fc_rule_some n5 hi q32 hx, if_pos q77]; try rfl) | (refine ⟨?_, rfl⟩; rw [fc_rule_some n5 hi q32 hx, if_neg q77, if_pos (show w = 1 from q93)]; try rfl) | (refine ⟨?_, rfl⟩; rw [fc_rule_some n5 hi q32 hx, if_neg q77, if_neg (show ¬ w = 1 from q93), if_pos (am_w2 q64 q70 q77 q93), show 8 * i + k - 8 * i = k by omega]; try rfl)
              · refine gm_iload d_M_rule_67 rfl ?_
                refine gm_iconst (v := nI 2) d_M_rule_69 (by decide) ?_
                first | refine gm_icmp_leN (tgt := 75) d_M_rule_70 (by decide) (by omega) (by omega) (fun q70 => ?_) (fun q70 => ?_) | refine gm_icmp_le (tgt := 75) d_M_rule_70 (by decide) (fun q70 => ?_) (fun q70 => ?_)
                · refine gm_iload d_M_rule_75 rfl ?_
                  first | refine gm_if_neB (tgt := 90) d_M_rule_77 (by decide) (fun q77 => ?_) (fun q77 => ?_) | refine gm_if_neN (tgt := 90) d_M_rule_77 (by decide) (by omega) (fun q77 => ?_) (fun q77 => ?_) | refine gm_if_ne (tgt := 90) d_M_rule_77 (by decide) (fun q77 => ?_) (fun q77 => ?_)
                  · refine gm_iload d_M_rule_90 rfl ?_
                    refine gm_iconst (v := nI 1) d_M_rule_92 (by decide) ?_
                    first | refine gm_icmp_neN (tgt := 106) d_M_rule_93 (by decide) (by omega) (by omega) (fun q93 => ?_) (fun q93 => ?_) | refine gm_icmp_ne (tgt := 106) d_M_rule_93 (by decide) (fun q93 => ?_) (fun q93 => ?_)
                    · refine gm_iload d_M_rule_106 rfl ?_
                      refine gm_bipush (v := nI 8) d_M_rule_108 (by decide) ?_
                      refine gm_iload_n d_M_rule_110 rfl ?_
                      first | refine gm_imulN d_M_rule_111 ?_ | refine gm_imul d_M_rule_111 ?_
                      first | refine gm_isubN d_M_rule_112 (by omega) ?_ | refine gm_isub d_M_rule_112 ?_
                      refine gm_iret d_M_rule_113 rfl rfl ?_
                      first | (refine ⟨?_, rfl⟩; rw [fc_rule_some n5 hi q32 hx, if_neg (am_wo (Or.inl q64)).1, if_neg (am_wo (Or.inl q64)).2.1, if_neg (am_wo (Or.inl q64)).2.2]; try rfl) | (refine ⟨?_, rfl⟩; rw [fc_rule_some n5 hi q32 hx, if_neg (am_wo (Or.inr q70)).1, if_neg (am_wo (Or.inr q70)).2.1, if_neg (am_wo (Or.inr q70)).2.2]; try rfl) | (refine ⟨?_, rfl⟩; rw [fc_rule_some n5 hi q32 hx, if_pos q77]; try rfl) | (refine ⟨?_, rfl⟩; rw [fc_rule_some n5 hi q32 hx, if_neg q77, if_pos (show w = 1 from q93)]; try rfl) | (refine ⟨?_, rfl⟩; rw [fc_rule_some n5 hi q32 hx, if_neg q77, if_neg (show ¬ w = 1 from q93), if_pos (am_w2 q64 q70 q77 q93), show 8 * i + k - 8 * i = k by omega]; try rfl)
                    · refine gm_aload_n d_M_rule_96 rfl (by first | exact am_rvR _ | exact am_rvN | assumption) ?_
                      refine fr_gA 22 d_M_rule_97 f_M_62 (by decide) (by decide) ?_
                      refine gm_iload d_M_rule_100 rfl ?_
                      refine fr_aldv d_M_rule_102 (by decide) rfl (show _ < 40 by omega) (by first | assumption | (simp only [fr_up_at, fr_up_s, fr_sc_at, fr_sc_a, Nat.reduceEqDiff, false_and, if_false, ite_false, reduceCtorEq]; first | assumption | rfl) | rfl) ?_
                      refine gm_goto (tgt := 113) d_M_rule_103 (by decide) ?_
                      refine gm_iret d_M_rule_113 rfl rfl ?_
                      first | (refine ⟨?_, rfl⟩; rw [fc_rule_some n5 hi q32 hx, if_neg (am_wo (Or.inl q64)).1, if_neg (am_wo (Or.inl q64)).2.1, if_neg (am_wo (Or.inl q64)).2.2]; try rfl) | (refine ⟨?_, rfl⟩; rw [fc_rule_some n5 hi q32 hx, if_neg (am_wo (Or.inr q70)).1, if_neg (am_wo (Or.inr q70)).2.1, if_neg (am_wo (Or.inr q70)).2.2]; try rfl) | (refine ⟨?_, rfl⟩; rw [fc_rule_some n5 hi q32 hx, if_pos q77]; try rfl) | (refine ⟨?_, rfl⟩; rw [fc_rule_some n5 hi q32 hx, if_neg q77, if_pos (show w = 1 from q93)]; try rfl) | (refine ⟨?_, rfl⟩; rw [fc_rule_some n5 hi q32 hx, if_neg q77, if_neg (show ¬ w = 1 from q93), if_pos (am_w2 q64 q70 q77 q93), show 8 * i + k - 8 * i = k by omega]; try rfl)
                  · refine gm_aload_n d_M_rule_80 rfl (by first | exact am_rvR _ | exact am_rvN | assumption) ?_
                    refine fr_gA 21 d_M_rule_81 f_M_59 (by decide) (by decide) ?_
                    refine gm_iload d_M_rule_84 rfl ?_
                    refine fr_aldv d_M_rule_86 (by decide) rfl (show _ < 40 by omega) (by first | assumption | (simp only [fr_up_at, fr_up_s, fr_sc_at, fr_sc_a, Nat.reduceEqDiff, false_and, if_false, ite_false, reduceCtorEq]; first | assumption | rfl) | rfl) ?_
                    refine gm_goto (tgt := 113) d_M_rule_87 (by decide) ?_
                    refine gm_iret d_M_rule_113 rfl rfl ?_
                    first | (refine ⟨?_, rfl⟩; rw [fc_rule_some n5 hi q32 hx, if_neg (am_wo (Or.inl q64)).1, if_neg (am_wo (Or.inl q64)).2.1, if_neg (am_wo (Or.inl q64)).2.2]; try rfl) | (refine ⟨?_, rfl⟩; rw [fc_rule_some n5 hi q32 hx, if_neg (am_wo (Or.inr q70)).1, if_neg (am_wo (Or.inr q70)).2.1, if_neg (am_wo (Or.inr q70)).2.2]; try rfl) | (refine ⟨?_, rfl⟩; rw [fc_rule_some n5 hi q32 hx, if_pos q77]; try rfl) | (refine ⟨?_, rfl⟩; rw [fc_rule_some n5 hi q32 hx, if_neg q77, if_pos (show w = 1 from q93)]; try rfl) | (refine ⟨?_, rfl⟩; rw [fc_rule_some n5 hi q32 hx, if_neg q77, if_neg (show ¬ w = 1 from q93), if_pos (am_w2 q64 q70 q77 q93), show 8 * i + k - 8 * i = k by omega]; try rfl)
                · refine gm_iconst (v := (-1)) d_M_rule_73 (by decide) ?_
                  refine gm_iret d_M_rule_74 rfl rfl ?_
                  first | (refine ⟨?_, rfl⟩; rw [fc_rule_some n5 hi q32 hx, if_neg (am_wo (Or.inl q64)).1, if_neg (am_wo (Or.inl q64)).2.1, if_neg (am_wo (Or.inl q64)).2.2]; try rfl) | (refine ⟨?_, rfl⟩; rw [fc_rule_some n5 hi q32 hx, if_neg (am_wo (Or.inr q70)).1, if_neg (am_wo (Or.inr q70)).2.1, if_neg (am_wo (Or.inr q70)).2.2]; try rfl) | (refine ⟨?_, rfl⟩; rw [fc_rule_some n5 hi q32 hx, if_pos q77]; try rfl) | (refine ⟨?_, rfl⟩; rw [fc_rule_some n5 hi q32 hx, if_neg q77, if_pos (show w = 1 from q93)]; try rfl) | (refine ⟨?_, rfl⟩; rw [fc_rule_some n5 hi q32 hx, if_neg q77, if_neg (show ¬ w = 1 from q93), if_pos (am_w2 q64 q70 q77 q93), show 8 * i + k - 8 * i = k by omega]; try rfl)
theorem rf_course (H : fr_rel ns room idle s r) (D : fc_iD ns room s) (f t w : Int32) : gm_M (fr_P A) fr_X g y_M_course "(III)I" 1 22 [.ref (A 44), .int f, .int t, .int w] (fun v r' => v = some (.int (fc_course s f t w)) ∧ r' = r) r := by
  have n5 := D.1.2.1
  have IK := D.2.2.2.2.2.2.2.2
  have h32 : r.1 32 = nI (s 7).length := H.2.2.2.2.2.2.2.2.2.1
  have k6 := IK.1
  refine gm_Mof (L0 := [some (.ref (A 44)), some (.int f), some (.int t), some (.int w), none, none]) pl_M_course (am_k1 rfl (am_k1 rfl (am_k1 rfl (am_k1 rfl am_k0)))) (Nat.le_of_ble_eq_true rfl) rfl ?_
  refine gm_iload_n d_M_course_0 rfl ?_
  first | refine gm_if_ltN (tgt := 24) d_M_course_1 (by decide) (by omega) (fun q1 => ?_) (fun q1 => ?_) | refine gm_if_lt (tgt := 24) d_M_course_1 (by decide) (fun q1 => ?_) (fun q1 => ?_)
  · refine gm_iconst (v := nI 0) d_M_course_24 (by decide) ?_
    refine gm_istore (L1 := [_, _, _, _, _, _]) d_M_course_25 (by decide) rfl ?_
    refine gm_iload d_M_course_27 rfl ?_
    refine gm_if_eqN (tgt := 45) d_M_course_29 (by decide) (by omega) (fun _ => ?_) (fun q => absurd q (by omega))
    refine gm_iconst (v := (-1)) d_M_course_45 (by decide) ?_
    refine gm_istore (L1 := [_, _, _, _, _, _]) d_M_course_46 (by decide) rfl ?_
    refine gm_iload d_M_course_48 rfl ?_
    refine gm_if_lt (tgt := 70) d_M_course_50 (by decide) (fun _ => ?_) (fun q => absurd (by decide) q)
    refine gm_iconst (v := (-1)) d_M_course_70 (by decide) ?_
    refine gm_iret d_M_course_71 rfl rfl ?_
    first | (refine ⟨?_, rfl⟩; rw [fc_course_none (fc_cix_out IK (fc_out6 (Or.inl q1)))]) | (refine ⟨?_, rfl⟩; rw [fc_course_none (fc_cix_out IK (fc_out6 (Or.inr (Or.inl q7))))]) | (refine ⟨?_, rfl⟩; rw [fc_course_none (fc_cix_out IK (fc_out6 (Or.inr (Or.inr (Or.inl q11)))))]) | (refine ⟨?_, rfl⟩; rw [fc_course_none (fc_cix_out IK (fc_out6 (Or.inr (Or.inr (Or.inr q17)))))])
  · refine gm_iload_n d_M_course_4 rfl ?_
    refine gm_bipush (v := nI 6) d_M_course_5 (by decide) ?_
    first | refine gm_icmp_geN (tgt := 24) d_M_course_7 (by decide) (by omega) (by omega) (fun q7 => ?_) (fun q7 => ?_) | refine gm_icmp_ge (tgt := 24) d_M_course_7 (by decide) (fun q7 => ?_) (fun q7 => ?_)
    · refine gm_iconst (v := nI 0) d_M_course_24 (by decide) ?_
      refine gm_istore (L1 := [_, _, _, _, _, _]) d_M_course_25 (by decide) rfl ?_
      refine gm_iload d_M_course_27 rfl ?_
      refine gm_if_eqN (tgt := 45) d_M_course_29 (by decide) (by omega) (fun _ => ?_) (fun q => absurd q (by omega))
      refine gm_iconst (v := (-1)) d_M_course_45 (by decide) ?_
      refine gm_istore (L1 := [_, _, _, _, _, _]) d_M_course_46 (by decide) rfl ?_
      refine gm_iload d_M_course_48 rfl ?_
      refine gm_if_lt (tgt := 70) d_M_course_50 (by decide) (fun _ => ?_) (fun q => absurd (by decide) q)
      refine gm_iconst (v := (-1)) d_M_course_70 (by decide) ?_
      refine gm_iret d_M_course_71 rfl rfl ?_
      first | (refine ⟨?_, rfl⟩; rw [fc_course_none (fc_cix_out IK (fc_out6 (Or.inl q1)))]) | (refine ⟨?_, rfl⟩; rw [fc_course_none (fc_cix_out IK (fc_out6 (Or.inr (Or.inl q7))))]) | (refine ⟨?_, rfl⟩; rw [fc_course_none (fc_cix_out IK (fc_out6 (Or.inr (Or.inr (Or.inl q11)))))]) | (refine ⟨?_, rfl⟩; rw [fc_course_none (fc_cix_out IK (fc_out6 (Or.inr (Or.inr (Or.inr q17)))))])
    · refine gm_iload_n d_M_course_10 rfl ?_
      first | refine gm_if_ltN (tgt := 24) d_M_course_11 (by decide) (by omega) (fun q11 => ?_) (fun q11 => ?_) | refine gm_if_lt (tgt := 24) d_M_course_11 (by decide) (fun q11 => ?_) (fun q11 => ?_)
      · refine gm_iconst (v := nI 0) d_M_course_24 (by decide) ?_
        refine gm_istore (L1 := [_, _, _, _, _, _]) d_M_course_25 (by decide) rfl ?_
        refine gm_iload d_M_course_27 rfl ?_
        refine gm_if_eqN (tgt := 45) d_M_course_29 (by decide) (by omega) (fun _ => ?_) (fun q => absurd q (by omega))
        refine gm_iconst (v := (-1)) d_M_course_45 (by decide) ?_
        refine gm_istore (L1 := [_, _, _, _, _, _]) d_M_course_46 (by decide) rfl ?_
        refine gm_iload d_M_course_48 rfl ?_
        refine gm_if_lt (tgt := 70) d_M_course_50 (by decide) (fun _ => ?_) (fun q => absurd (by decide) q)
        refine gm_iconst (v := (-1)) d_M_course_70 (by decide) ?_
        refine gm_iret d_M_course_71 rfl rfl ?_
        first | (refine ⟨?_, rfl⟩; rw [fc_course_none (fc_cix_out IK (fc_out6 (Or.inl q1)))]) | (refine ⟨?_, rfl⟩; rw [fc_course_none (fc_cix_out IK (fc_out6 (Or.inr (Or.inl q7))))]) | (refine ⟨?_, rfl⟩; rw [fc_course_none (fc_cix_out IK (fc_out6 (Or.inr (Or.inr (Or.inl q11)))))]) | (refine ⟨?_, rfl⟩; rw [fc_course_none (fc_cix_out IK (fc_out6 (Or.inr (Or.inr (Or.inr q17)))))])
      · refine gm_iload_n d_M_course_14 rfl ?_
        refine gm_bipush (v := nI 6) d_M_course_15 (by decide) ?_
        first | refine gm_icmp_geN (tgt := 24) d_M_course_17 (by decide) (by omega) (by omega) (fun q17 => ?_) (fun q17 => ?_) | refine gm_icmp_ge (tgt := 24) d_M_course_17 (by decide) (fun q17 => ?_) (fun q17 => ?_)
        · refine gm_iconst (v := nI 0) d_M_course_24 (by decide) ?_
          refine gm_istore (L1 := [_, _, _, _, _, _]) d_M_course_25 (by decide) rfl ?_
          refine gm_iload d_M_course_27 rfl ?_
          refine gm_if_eqN (tgt := 45) d_M_course_29 (by decide) (by omega) (fun _ => ?_) (fun q => absurd q (by omega))
          refine gm_iconst (v := (-1)) d_M_course_45 (by decide) ?_
          refine gm_istore (L1 := [_, _, _, _, _, _]) d_M_course_46 (by decide) rfl ?_
          refine gm_iload d_M_course_48 rfl ?_
          refine gm_if_lt (tgt := 70) d_M_course_50 (by decide) (fun _ => ?_) (fun q => absurd (by decide) q)
          refine gm_iconst (v := (-1)) d_M_course_70 (by decide) ?_
          refine gm_iret d_M_course_71 rfl rfl ?_
          first | (refine ⟨?_, rfl⟩; rw [fc_course_none (fc_cix_out IK (fc_out6 (Or.inl q1)))]) | (refine ⟨?_, rfl⟩; rw [fc_course_none (fc_cix_out IK (fc_out6 (Or.inr (Or.inl q7))))]) | (refine ⟨?_, rfl⟩; rw [fc_course_none (fc_cix_out IK (fc_out6 (Or.inr (Or.inr (Or.inl q11)))))]) | (refine ⟨?_, rfl⟩; rw [fc_course_none (fc_cix_out IK (fc_out6 (Or.inr (Or.inr (Or.inr q17)))))])
        · obtain ⟨f1, hf, rfl⟩ := fc_rng6 q1 q7
          obtain ⟨t1, ht, rfl⟩ := fc_rng6 q11 q17
          refine gm_iconst (v := nI 1) d_M_course_20 (by decide) ?_
          refine gm_goto (tgt := 25) d_M_course_21 (by decide) ?_
          refine gm_istore (L1 := [_, _, _, _, _, _]) d_M_course_25 (by decide) rfl ?_
          refine gm_iload d_M_course_27 rfl ?_
          refine gm_if_eqN (tgt := 45) d_M_course_29 (by decide) (by omega) (fun q => absurd q (by omega)) (fun _ => ?_)
          refine gm_aload_n d_M_course_32 rfl (by first | exact am_rvR _ | exact am_rvN | assumption) ?_
          refine gm_bipush (v := nI 6) d_M_course_33 (by decide) ?_
          refine gm_iload_n d_M_course_35 rfl ?_
          first | refine gm_imulN d_M_course_36 ?_ | refine gm_imul d_M_course_36 ?_
          refine gm_iload_n d_M_course_37 rfl ?_
          first | refine gm_iaddN d_M_course_38 ?_ | refine gm_iadd d_M_course_38 ?_
          refine gm_cV (b := A 44) d_M_course_39 v_M_227 (vs := [.int (nI (6 * f1 + t1))]) (st := []) rfl rfl (by decide) (Nat.le_of_ble_eq_true rfl) (fr_at _) (rf_courseOf h32 k6 (nI (6 * f1 + t1))) ?_
          rintro v r1 ⟨rfl, hr1⟩
          subst r1
          rw [H.2.2.2.2.2.2.2.2.find IK hf ht]
          cases hx : fc_cix s (nI f1) (nI t1) with
          | none =>
            rw [show fr_pos none 0 = -1 from rfl]
            refine gm_goto (tgt := 46) d_M_course_42 (by decide) ?_
            refine gm_istore (L1 := [_, _, _, _, _, _]) d_M_course_46 (by decide) rfl ?_
            refine gm_iload d_M_course_48 rfl ?_
            refine gm_if_lt (tgt := 70) d_M_course_50 (by decide) (fun _ => ?_) (fun q => absurd (by decide) q)
            refine gm_iconst (v := (-1)) d_M_course_70 (by decide) ?_
            refine gm_iret d_M_course_71 rfl rfl ?_
            first | (refine ⟨?_, rfl⟩; rw [fc_course_none hx]; try rfl)
          | some c =>
            have hc := fc_cix_some hx
            rw [show fr_pos (some c) 0 = nI c from congrArg nI (Nat.zero_add c)]
            obtain ⟨f', t', l, st, wv, aw, kp, kn, way, hr, h1, h2, h4, h5, h6, h7, h8, h9⟩ := IK.row hc
            obtain ⟨-, e34, -, -, -, e38, e39, e40, e41⟩ := H.2.2.2.2.2.2.2.2.row hr
            replace e34 : r.2 34 c = st := e34
            replace e38 : r.2 38 c = nI way.length := e38
            replace e39 : ∀ (k : Nat) (e : Int32), way[k]? = some e → r.2 39 (5 * c + k) = fr_wc e := e39
            replace e40 : r.2 40 c = kp := e40
            replace e41 : r.2 41 c = kn := e41
            refine gm_goto (tgt := 46) d_M_course_42 (by decide) ?_
            refine gm_istore (L1 := [_, _, _, _, _, _]) d_M_course_46 (by decide) rfl ?_
            refine gm_iload d_M_course_48 rfl ?_
            refine gm_if_ltN (tgt := 70) d_M_course_50 (by decide) (by omega) (fun q => absurd q (by omega)) (fun _ => ?_)
            refine gm_iload_n d_M_course_53 rfl ?_
            refine gm_bipush (v := (-2)) d_M_course_54 (by decide) ?_
            first | refine gm_icmp_ltN (tgt := 70) d_M_course_56 (by decide) (by omega) (by omega) (fun q56 => ?_) (fun q56 => ?_) | refine gm_icmp_lt (tgt := 70) d_M_course_56 (by decide) (fun q56 => ?_) (fun q56 => ?_)
            · refine gm_iconst (v := (-1)) d_M_course_70 (by decide) ?_
              refine gm_iret d_M_course_71 rfl rfl ?_
              first | (refine ⟨?_, rfl⟩; rw [fc_course_eq hx hr, fc_course_nw (Or.inl (fc_klow q56).1), if_neg (fc_klow q56).2.1, if_neg (fc_klow q56).2.2]; try rfl) | (refine ⟨?_, rfl⟩; rw [fc_course_eq hx hr, fc_course_nw (Or.inr q67), if_neg (fc_khigh (show way.length < 1000 by omega) (Int32.not_lt.mp q67)).1, if_neg (fc_khigh (show way.length < 1000 by omega) (Int32.not_lt.mp q67)).2]; try rfl) | (subst q74; (refine ⟨?_, rfl⟩; rw [fc_course_eq hx hr, fc_course_nw (Or.inl fc_kneg.1), if_pos rfl]; try rfl)) | (subst q90; (refine ⟨?_, rfl⟩; rw [fc_course_eq hx hr, fc_course_nw (Or.inl fc_kneg.2), if_neg (show ¬ (-2 : Int32) = -1 by decide), if_pos rfl, if_pos q100]; try rfl)) | (subst q90; (refine ⟨?_, rfl⟩; rw [fc_course_eq hx hr, fc_course_nw (Or.inl fc_kneg.2), if_neg (show ¬ (-2 : Int32) = -1 by decide), if_pos rfl, if_neg q100]; try rfl)) | (refine ⟨?_, rfl⟩; rw [fc_course_eq hx hr, fc_course_way (x := _) (y := 0) (z := 0) hj h7 hxj (show mm < 1000 by omega)]; try rfl)
            · refine gm_iload_n d_M_course_59 rfl ?_
              refine gm_aload_n d_M_course_60 rfl (by first | exact am_rvR _ | exact am_rvN | assumption) ?_
              refine fr_gA 38 d_M_course_61 f_M_104 (by decide) (by decide) ?_
              refine gm_iload d_M_course_64 rfl ?_
              refine fr_aldv d_M_course_66 (by decide) rfl (show _ < 6 by omega) (by first | assumption | (simp only [fr_up_at, fr_up_s, fr_sc_at, fr_sc_a, Nat.reduceEqDiff, false_and, if_false, ite_false, reduceCtorEq]; first | assumption | rfl) | rfl) ?_
              first | refine gm_icmp_ltN (tgt := 72) d_M_course_67 (by decide) (by omega) (by omega) (fun q67 => ?_) (fun q67 => ?_) | refine gm_icmp_lt (tgt := 72) d_M_course_67 (by decide) (fun q67 => ?_) (fun q67 => ?_)
              · refine gm_iload_n d_M_course_72 rfl ?_
                refine gm_iconst (v := (-1)) d_M_course_73 (by decide) ?_
                first | refine gm_icmp_neN (tgt := 87) d_M_course_74 (by decide) (by omega) (by omega) (fun q74 => ?_) (fun q74 => ?_) | refine gm_icmp_ne (tgt := 87) d_M_course_74 (by decide) (fun q74 => ?_) (fun q74 => ?_)
                · refine gm_iload_n d_M_course_87 rfl ?_
                  refine gm_bipush (v := (-2)) d_M_course_88 (by decide) ?_
                  first | refine gm_icmp_neN (tgt := 117) d_M_course_90 (by decide) (by omega) (by omega) (fun q90 => ?_) (fun q90 => ?_) | refine gm_icmp_ne (tgt := 117) d_M_course_90 (by decide) (fun q90 => ?_) (fun q90 => ?_)
                  · obtain ⟨j, hj31, rfl⟩ := nI_of (fc_k2 q56 q74 q90)
                    have hj : j < way.length := (nI_ltI hj31 (by omega)).mp q67
                    obtain ⟨mm, hmm, hx2⟩ := h9 _ (List.getElem_mem hj)
                    have hxj : way[j]? = some (nI mm) := by rw [List.getElem?_eq_getElem hj, hx2]
                    have h39 : r.2 39 (5 * c + j) = nI (5 * (mm / 4) + mm % 4) := by
                      rw [e39 j _ hxj]
                      unfold fr_wc
                      rw [nI_clamp (by omega)]
                    refine gm_aload_n d_M_course_117 rfl (by first | exact am_rvR _ | exact am_rvN | assumption) ?_
                    refine fr_gA 39 d_M_course_118 f_M_107 (by decide) (by decide) ?_
                    refine gm_iconst (v := nI 5) d_M_course_121 (by decide) ?_
                    refine gm_iload d_M_course_122 rfl ?_
                    first | refine gm_imulN d_M_course_124 ?_ | refine gm_imul d_M_course_124 ?_
                    refine gm_iload_n d_M_course_125 rfl ?_
                    first | refine gm_iaddN d_M_course_126 ?_ | refine gm_iadd d_M_course_126 ?_
                    refine fr_aldv d_M_course_127 (by decide) rfl (show _ < 30 by omega) (by first | assumption | (simp only [fr_up_at, fr_up_s, fr_sc_at, fr_sc_a, Nat.reduceEqDiff, false_and, if_false, ite_false, reduceCtorEq]; first | assumption | rfl) | rfl) ?_
                    refine gm_iconst (v := nI 5) d_M_course_128 (by decide) ?_
                    first | refine gm_idivN d_M_course_129 (by omega) (by omega) (by omega) ?_ | refine gm_idiv d_M_course_129 (by decide) ?_
                    refine gm_iret d_M_course_130 rfl rfl ?_
                    first | (refine ⟨?_, rfl⟩; rw [fc_course_eq hx hr, fc_course_nw (Or.inl (fc_klow q56).1), if_neg (fc_klow q56).2.1, if_neg (fc_klow q56).2.2]; try rfl) | (refine ⟨?_, rfl⟩; rw [fc_course_eq hx hr, fc_course_nw (Or.inr q67), if_neg (fc_khigh (show way.length < 1000 by omega) (Int32.not_lt.mp q67)).1, if_neg (fc_khigh (show way.length < 1000 by omega) (Int32.not_lt.mp q67)).2]; try rfl) | (subst q74; (refine ⟨?_, rfl⟩; rw [fc_course_eq hx hr, fc_course_nw (Or.inl fc_kneg.1), if_pos rfl]; try rfl)) | (subst q90; (refine ⟨?_, rfl⟩; rw [fc_course_eq hx hr, fc_course_nw (Or.inl fc_kneg.2), if_neg (show ¬ (-2 : Int32) = -1 by decide), if_pos rfl, if_pos q100]; try rfl)) | (subst q90; (refine ⟨?_, rfl⟩; rw [fc_course_eq hx hr, fc_course_nw (Or.inl fc_kneg.2), if_neg (show ¬ (-2 : Int32) = -1 by decide), if_pos rfl, if_neg q100]; try rfl)) | (refine ⟨?_, rfl⟩; rw [fc_course_eq hx hr, fc_course_way (x := _) (y := 0) (z := 0) hj h7 hxj (show mm < 1000 by omega)]; try rfl)
                  · refine gm_aload_n d_M_course_93 rfl (by first | exact am_rvR _ | exact am_rvN | assumption) ?_
                    refine fr_gA 40 d_M_course_94 f_M_110 (by decide) (by decide) ?_
                    refine gm_iload d_M_course_97 rfl ?_
                    refine fr_zldv d_M_course_99 (by decide) rfl (show _ < 6 by omega) (by first | assumption | (simp only [fr_up_at, fr_up_s, fr_sc_at, fr_sc_a, Nat.reduceEqDiff, false_and, if_false, ite_false, reduceCtorEq]; first | assumption | rfl) | rfl) ?_
                    first | refine gm_if_eqB (tgt := 113) d_M_course_100 (by decide) (fun q100 => ?_) (fun q100 => ?_) | refine gm_if_eqN (tgt := 113) d_M_course_100 (by decide) (by omega) (fun q100 => ?_) (fun q100 => ?_) | refine gm_if_eq (tgt := 113) d_M_course_100 (by decide) (fun q100 => ?_) (fun q100 => ?_)
                    · refine gm_iconst (v := nI 0) d_M_course_113 (by decide) ?_
                      refine gm_goto (tgt := 130) d_M_course_114 (by decide) ?_
                      refine gm_iret d_M_course_130 rfl rfl ?_
                      first | (refine ⟨?_, rfl⟩; rw [fc_course_eq hx hr, fc_course_nw (Or.inl (fc_klow q56).1), if_neg (fc_klow q56).2.1, if_neg (fc_klow q56).2.2]; try rfl) | (refine ⟨?_, rfl⟩; rw [fc_course_eq hx hr, fc_course_nw (Or.inr q67), if_neg (fc_khigh (show way.length < 1000 by omega) (Int32.not_lt.mp q67)).1, if_neg (fc_khigh (show way.length < 1000 by omega) (Int32.not_lt.mp q67)).2]; try rfl) | (subst q74; (refine ⟨?_, rfl⟩; rw [fc_course_eq hx hr, fc_course_nw (Or.inl fc_kneg.1), if_pos rfl]; try rfl)) | (subst q90; (refine ⟨?_, rfl⟩; rw [fc_course_eq hx hr, fc_course_nw (Or.inl fc_kneg.2), if_neg (show ¬ (-2 : Int32) = -1 by decide), if_pos rfl, if_pos q100]; try rfl)) | (subst q90; (refine ⟨?_, rfl⟩; rw [fc_course_eq hx hr, fc_course_nw (Or.inl fc_kneg.2), if_neg (show ¬ (-2 : Int32) = -1 by decide), if_pos rfl, if_neg q100]; try rfl)) | (refine ⟨?_, rfl⟩; rw [fc_course_eq hx hr, fc_course_way (x := _) (y := 0) (z := 0) hj h7 hxj (show mm < 1000 by omega)]; try rfl)
                    · refine gm_aload_n d_M_course_103 rfl (by first | exact am_rvR _ | exact am_rvN | assumption) ?_
                      refine fr_gA 41 d_M_course_104 f_M_113 (by decide) (by decide) ?_
                      refine gm_iload d_M_course_107 rfl ?_
                      refine fr_aldv d_M_course_109 (by decide) rfl (show _ < 6 by omega) (by first | assumption | (simp only [fr_up_at, fr_up_s, fr_sc_at, fr_sc_a, Nat.reduceEqDiff, false_and, if_false, ite_false, reduceCtorEq]; first | assumption | rfl) | rfl) ?_
                      refine gm_goto (tgt := 130) d_M_course_110 (by decide) ?_
                      refine gm_iret d_M_course_130 rfl rfl ?_
                      first | (refine ⟨?_, rfl⟩; rw [fc_course_eq hx hr, fc_course_nw (Or.inl (fc_klow q56).1), if_neg (fc_klow q56).2.1, if_neg (fc_klow q56).2.2]; try rfl) | (refine ⟨?_, rfl⟩; rw [fc_course_eq hx hr, fc_course_nw (Or.inr q67), if_neg (fc_khigh (show way.length < 1000 by omega) (Int32.not_lt.mp q67)).1, if_neg (fc_khigh (show way.length < 1000 by omega) (Int32.not_lt.mp q67)).2]; try rfl) | (subst q74; (refine ⟨?_, rfl⟩; rw [fc_course_eq hx hr, fc_course_nw (Or.inl fc_kneg.1), if_pos rfl]; try rfl)) | (subst q90; (refine ⟨?_, rfl⟩; rw [fc_course_eq hx hr, fc_course_nw (Or.inl fc_kneg.2), if_neg (show ¬ (-2 : Int32) = -1 by decide), if_pos rfl, if_pos q100]; try rfl)) | (subst q90; (refine ⟨?_, rfl⟩; rw [fc_course_eq hx hr, fc_course_nw (Or.inl fc_kneg.2), if_neg (show ¬ (-2 : Int32) = -1 by decide), if_pos rfl, if_neg q100]; try rfl)) | (refine ⟨?_, rfl⟩; rw [fc_course_eq hx hr, fc_course_way (x := _) (y := 0) (z := 0) hj h7 hxj (show mm < 1000 by omega)]; try rfl)
                · refine gm_aload_n d_M_course_77 rfl (by first | exact am_rvR _ | exact am_rvN | assumption) ?_
                  refine fr_gA 34 d_M_course_78 f_M_92 (by decide) (by decide) ?_
                  refine gm_iload d_M_course_81 rfl ?_
                  refine fr_aldv d_M_course_83 (by decide) rfl (show _ < 6 by omega) (by first | assumption | (simp only [fr_up_at, fr_up_s, fr_sc_at, fr_sc_a, Nat.reduceEqDiff, false_and, if_false, ite_false, reduceCtorEq]; first | assumption | rfl) | rfl) ?_
                  refine gm_goto (tgt := 130) d_M_course_84 (by decide) ?_
                  refine gm_iret d_M_course_130 rfl rfl ?_
                  first | (refine ⟨?_, rfl⟩; rw [fc_course_eq hx hr, fc_course_nw (Or.inl (fc_klow q56).1), if_neg (fc_klow q56).2.1, if_neg (fc_klow q56).2.2]; try rfl) | (refine ⟨?_, rfl⟩; rw [fc_course_eq hx hr, fc_course_nw (Or.inr q67), if_neg (fc_khigh (show way.length < 1000 by omega) (Int32.not_lt.mp q67)).1, if_neg (fc_khigh (show way.length < 1000 by omega) (Int32.not_lt.mp q67)).2]; try rfl) | (subst q74; (refine ⟨?_, rfl⟩; rw [fc_course_eq hx hr, fc_course_nw (Or.inl fc_kneg.1), if_pos rfl]; try rfl)) | (subst q90; (refine ⟨?_, rfl⟩; rw [fc_course_eq hx hr, fc_course_nw (Or.inl fc_kneg.2), if_neg (show ¬ (-2 : Int32) = -1 by decide), if_pos rfl, if_pos q100]; try rfl)) | (subst q90; (refine ⟨?_, rfl⟩; rw [fc_course_eq hx hr, fc_course_nw (Or.inl fc_kneg.2), if_neg (show ¬ (-2 : Int32) = -1 by decide), if_pos rfl, if_neg q100]; try rfl)) | (refine ⟨?_, rfl⟩; rw [fc_course_eq hx hr, fc_course_way (x := _) (y := 0) (z := 0) hj h7 hxj (show mm < 1000 by omega)]; try rfl)
              · refine gm_iconst (v := (-1)) d_M_course_70 (by decide) ?_
                refine gm_iret d_M_course_71 rfl rfl ?_
                first | (refine ⟨?_, rfl⟩; rw [fc_course_eq hx hr, fc_course_nw (Or.inl (fc_klow q56).1), if_neg (fc_klow q56).2.1, if_neg (fc_klow q56).2.2]; try rfl) | (refine ⟨?_, rfl⟩; rw [fc_course_eq hx hr, fc_course_nw (Or.inr q67), if_neg (fc_khigh (show way.length < 1000 by omega) (Int32.not_lt.mp q67)).1, if_neg (fc_khigh (show way.length < 1000 by omega) (Int32.not_lt.mp q67)).2]; try rfl) | (subst q74; (refine ⟨?_, rfl⟩; rw [fc_course_eq hx hr, fc_course_nw (Or.inl fc_kneg.1), if_pos rfl]; try rfl)) | (subst q90; (refine ⟨?_, rfl⟩; rw [fc_course_eq hx hr, fc_course_nw (Or.inl fc_kneg.2), if_neg (show ¬ (-2 : Int32) = -1 by decide), if_pos rfl, if_pos q100]; try rfl)) | (subst q90; (refine ⟨?_, rfl⟩; rw [fc_course_eq hx hr, fc_course_nw (Or.inl fc_kneg.2), if_neg (show ¬ (-2 : Int32) = -1 by decide), if_pos rfl, if_neg q100]; try rfl)) | (refine ⟨?_, rfl⟩; rw [fc_course_eq hx hr, fc_course_way (x := _) (y := 0) (z := 0) hj h7 hxj (show mm < 1000 by omega)]; try rfl)
end REO
