/-! the class: more calls -/
section CFB
variable {g : am_G} {e nw ns room idle : Nat} {A : Nat → Nat} {s : cl_S} {S : am_S}
theorem fc_hs_nat {s : fc_S} {x : Int32} (h6 : (s 1).length ≤ 6) (h : fc_hs s x = true) : ∃ k, k < (s 1).length ∧ x = nI k := by
  unfold fc_hs fc_len at h
  rw [Bool.and_eq_true, decide_eq_true_eq, decide_eq_true_eq] at h
  rcases pk_ix x (n := (s 1).length) (by omega) with h1 | h1 | h1
  · exact absurd h.1 (by rw [Int32.le_iff_toInt_le]; rw [Int32.lt_iff_toInt_lt] at h1; omega)
  · exact absurd h.2 (by rw [Int32.lt_iff_toInt_lt]; rw [Int32.le_iff_toInt_le] at h1; omega)
  · exact h1
/-- a host's object -/
theorem cl_ho (hS : cl_P e nw ns room idle A s S) (I : fc_iH ns s.1) {k : Nat} (hk : k < (s.1 1).length) : ∃ (a i p : Nat) (x y z : Int32), (s.2.1 1)[k]? = some a ∧ (s.1 1)[k]? = some [nI k, nI i, nI p, x, y, z] ∧ S.1 a = some (13, .inr (am_cHo, [.int (nI k), .int (nI i), .int (nI p), .int x, .int y, .int z])) ∧ i < ns ∧ p < 4 ∧ ((s.2.1 1).map Value.ref ++ List.replicate (6 - (s.2.1 1).length) Value.null)[k]? = some (.ref a) ∧ ((s.2.1 1).map Value.ref ++ List.replicate (6 - (s.2.1 1).length) Value.null).length = 6 := by
  obtain ⟨a, row, ha, hr, hel⟩ := cl_at (cl_hosts hS).2.2 hk
  obtain ⟨i, p, x, y, z, hi, hp, rfl⟩ := I.2.2 k row hr
  have h6 := (cl_hosts hS).2.1
  refine ⟨a, i, p, x, y, z, ha, hr, hel.1, hi, hp, ?_, by simp; omega⟩
  rw [List.getElem?_append_left (by simpa using (List.getElem?_eq_some_iff.mp ha).1), List.getElem?_map, ha]
  rfl
theorem fc_now_fab (I : fc_iH ns s.1) : fc_get s.1 0 0 0 = fc_now s.1 := rfl
theorem ff_guard (hn : ns ≤ 5) (hS : cl_P e nw ns room idle A s S) (he : am_gE g e) (I : fc_iG ns s.1) (x pr m vd : Int32) : am_M g y_FF_guard "(IIII)I" 7 152 [.ref (A 0), .int x, .int pr, .int m, .int vd] S (fun v S' => v = some (.int (fc_guard ns s.1 x pr m vd).1) ∧ cl_Q e nw ns room idle A s S (fc_guard ns s.1 x pr m vd).2 2 100 S') := by
  have hid : cl_Q e nw ns room idle A s S s.1 2 100 S := (cl_Q.id hS).wide (by omega) (by omega)
  refine am_Mof (L0 := [some (.ref (A 0)), some (.int x), some (.int pr), some (.int m), some (.int vd), none]) pl_FF_guard (am_k1 rfl (am_k1 rfl (am_k1 rfl (am_k1 rfl (am_k1 rfl am_k0))))) (Nat.le_of_ble_eq_true rfl) rfl ?_
  refine am_aload_n d_FF_guard_0 rfl (by first | exact am_rvR _ | exact am_rvN | assumption) ?_
  refine am_iload_n d_FF_guard_1 rfl ?_
  refine am_cV (b := A 0) d_FF_guard_2 v_FF_103 (vs := [.int x]) (st := []) rfl rfl (by decide) (Nat.le_of_ble_eq_true rfl) (cl_fab hS) (cq_isSwitch hS hn x) ?_
  rintro v S2 ⟨rfl, rfl⟩
  first | refine am_if_eqB (tgt := 18) d_FF_guard_5 (by decide) (fun q1 => ?_) (fun q1 => ?_) | refine am_if_eqN (tgt := 18) d_FF_guard_5 (by decide) (by omega) (fun q1 => ?_) (fun q1 => ?_) | refine am_if_eq (tgt := 18) d_FF_guard_5 (by decide) (fun q1 => ?_) (fun q1 => ?_)
  · refine am_iconst (v := (-1)) d_FF_guard_18 (by decide) ?_
    refine am_iret d_FF_guard_19 rfl (by first | rfl | exact am_b_nar _) ?_
    have hc : ¬ (fc_sw ns x && (decide (0 ≤ pr) && (decide (pr ≤ 9) && (decide (0 ≤ vd) && (decide (vd ≤ 6) && fc_mt m))))) = true := by
      simp only [Bool.and_eq_true, decide_eq_true_eq, Int32.lt_iff_toInt_lt, Int32.le_iff_toInt_le, am_n0, am_i0, am_n1, am_i1, am_n2, am_i2, am_n3, am_i3, am_n4, am_i4, am_n5, am_i5, am_n6, am_i6, am_n7, am_i7, am_n8, am_i8, am_n9, am_i9, am_n10, am_i10, am_n11, am_i11, am_m1, am_n511, am_i511] at *
      intro hz
      obtain ⟨z1, z2, z3, z4, z5, z6⟩ := hz
      simp_all <;> omega
    exact ⟨by unfold fc_guard; rw [if_neg hc], by unfold fc_guard; rw [if_neg hc]; exact hid⟩
  · refine am_iload_n d_FF_guard_8 rfl ?_
    first | refine am_if_ltN (tgt := 18) d_FF_guard_9 (by decide) (by omega) (fun q2 => ?_) (fun q2 => ?_) | refine am_if_lt (tgt := 18) d_FF_guard_9 (by decide) (fun q2 => ?_) (fun q2 => ?_)
    · refine am_iconst (v := (-1)) d_FF_guard_18 (by decide) ?_
      refine am_iret d_FF_guard_19 rfl (by first | rfl | exact am_b_nar _) ?_
      have hc : ¬ (fc_sw ns x && (decide (0 ≤ pr) && (decide (pr ≤ 9) && (decide (0 ≤ vd) && (decide (vd ≤ 6) && fc_mt m))))) = true := by
        simp only [Bool.and_eq_true, decide_eq_true_eq, Int32.lt_iff_toInt_lt, Int32.le_iff_toInt_le, am_n0, am_i0, am_n1, am_i1, am_n2, am_i2, am_n3, am_i3, am_n4, am_i4, am_n5, am_i5, am_n6, am_i6, am_n7, am_i7, am_n8, am_i8, am_n9, am_i9, am_n10, am_i10, am_n11, am_i11, am_m1, am_n511, am_i511] at *
        intro hz
        obtain ⟨z1, z2, z3, z4, z5, z6⟩ := hz
        simp_all <;> omega
      exact ⟨by unfold fc_guard; rw [if_neg hc], by unfold fc_guard; rw [if_neg hc]; exact hid⟩
    · refine am_iload_n d_FF_guard_12 rfl ?_
      refine am_bipush (v := nI 9) d_FF_guard_13 (by decide) ?_
      first | refine am_icmp_leN (tgt := 20) d_FF_guard_15 (by decide) (by omega) (by omega) (fun q3 => ?_) (fun q3 => ?_) | refine am_icmp_le (tgt := 20) d_FF_guard_15 (by decide) (fun q3 => ?_) (fun q3 => ?_)
      · refine am_iload d_FF_guard_20 rfl ?_
        first | refine am_if_ltN (tgt := 39) d_FF_guard_22 (by decide) (by omega) (fun q4 => ?_) (fun q4 => ?_) | refine am_if_lt (tgt := 39) d_FF_guard_22 (by decide) (fun q4 => ?_) (fun q4 => ?_)
        · refine am_iconst (v := (-1)) d_FF_guard_39 (by decide) ?_
          refine am_iret d_FF_guard_40 rfl (by first | rfl | exact am_b_nar _) ?_
          have hc : ¬ (fc_sw ns x && (decide (0 ≤ pr) && (decide (pr ≤ 9) && (decide (0 ≤ vd) && (decide (vd ≤ 6) && fc_mt m))))) = true := by
            simp only [Bool.and_eq_true, decide_eq_true_eq, Int32.lt_iff_toInt_lt, Int32.le_iff_toInt_le, am_n0, am_i0, am_n1, am_i1, am_n2, am_i2, am_n3, am_i3, am_n4, am_i4, am_n5, am_i5, am_n6, am_i6, am_n7, am_i7, am_n8, am_i8, am_n9, am_i9, am_n10, am_i10, am_n11, am_i11, am_m1, am_n511, am_i511] at *
            intro hz
            obtain ⟨z1, z2, z3, z4, z5, z6⟩ := hz
            simp_all <;> omega
          exact ⟨by unfold fc_guard; rw [if_neg hc], by unfold fc_guard; rw [if_neg hc]; exact hid⟩
        · refine am_iload d_FF_guard_25 rfl ?_
          refine am_bipush (v := nI 6) d_FF_guard_27 (by decide) ?_
          first | refine am_icmp_gtN (tgt := 39) d_FF_guard_29 (by decide) (by omega) (by omega) (fun q5 => ?_) (fun q5 => ?_) | refine am_icmp_gt (tgt := 39) d_FF_guard_29 (by decide) (fun q5 => ?_) (fun q5 => ?_)
          · refine am_iconst (v := (-1)) d_FF_guard_39 (by decide) ?_
            refine am_iret d_FF_guard_40 rfl (by first | rfl | exact am_b_nar _) ?_
            have hc : ¬ (fc_sw ns x && (decide (0 ≤ pr) && (decide (pr ≤ 9) && (decide (0 ≤ vd) && (decide (vd ≤ 6) && fc_mt m))))) = true := by
              simp only [Bool.and_eq_true, decide_eq_true_eq, Int32.lt_iff_toInt_lt, Int32.le_iff_toInt_le, am_n0, am_i0, am_n1, am_i1, am_n2, am_i2, am_n3, am_i3, am_n4, am_i4, am_n5, am_i5, am_n6, am_i6, am_n7, am_i7, am_n8, am_i8, am_n9, am_i9, am_n10, am_i10, am_n11, am_i11, am_m1, am_n511, am_i511] at *
              intro hz
              obtain ⟨z1, z2, z3, z4, z5, z6⟩ := hz
              simp_all <;> omega
            exact ⟨by unfold fc_guard; rw [if_neg hc], by unfold fc_guard; rw [if_neg hc]; exact hid⟩
          · refine am_iload_n d_FF_guard_32 rfl ?_
            refine am_cS d_FF_guard_33 s_FF_107 (vs := [.int m]) (st := []) rfl rfl (by decide) (Nat.le_of_ble_eq_true rfl) (gd_isMatch m) ?_
            rintro v S2 ⟨rfl, rfl⟩
            first | refine am_if_neB (tgt := 41) d_FF_guard_36 (by decide) (fun q6 => ?_) (fun q6 => ?_) | refine am_if_neN (tgt := 41) d_FF_guard_36 (by decide) (by omega) (fun q6 => ?_) (fun q6 => ?_) | refine am_if_ne (tgt := 41) d_FF_guard_36 (by decide) (fun q6 => ?_) (fun q6 => ?_)
            · have hc : (fc_sw ns x && (decide (0 ≤ pr) && (decide (pr ≤ 9) && (decide (0 ≤ vd) && (decide (vd ≤ 6) && fc_mt m))))) = true := by
                simp only [Bool.and_eq_true, decide_eq_true_eq, Int32.lt_iff_toInt_lt, Int32.le_iff_toInt_le, am_n0, am_i0, am_n1, am_i1, am_n2, am_i2, am_n3, am_i3, am_n4, am_i4, am_n5, am_i5, am_n6, am_i6, am_n7, am_i7, am_n8, am_i8, am_n9, am_i9, am_n10, am_i10, am_n11, am_i11, am_m1, am_n511, am_i511] at *
                exact ⟨q1, by omega, by omega, by omega, by omega, q6⟩
              obtain ⟨i, hi, ex⟩ := fc_sw_nat hn q1
              subst ex
              have ec := nI_clamp (n := i) (by omega)
              have hL : cl_isL ns (10 + i) := by unfold cl_isL; omega
              have h4 := (I i hi).1
              refine am_aload_n d_FF_guard_41 rfl (by first | exact am_rvR _ | exact am_rvN | assumption) ?_
              refine am_get d_FF_guard_42 f_FF_18 (cl_fab hS) (by rfl) ?_
              refine am_iload_n d_FF_guard_45 rfl ?_
              refine am_aald d_FF_guard_46 am_kN_ok rfl (cl_nodes hS) rfl (cl_nodes_at hi) (by simp; omega) ?_
              refine am_get d_FF_guard_47 f_FF_112 (cl_node hS hi) (by rfl) ?_
              refine am_astore (L1 := [_, _, _, _, _, _]) d_FF_guard_50 (by decide) (by first | exact am_rvR _ | exact am_rvN | assumption) rfl ?_
              refine am_aload d_FF_guard_52 rfl (by first | exact am_rvR _ | exact am_rvN | assumption) ?_
              refine am_cV (b := A (10 + i)) d_FF_guard_54 v_FF_116 (vs := []) (st := []) rfl rfl (by decide) (Nat.le_of_ble_eq_true rfl) (cl_list hS hL).1.choose_spec.choose_spec.choose_spec.choose_spec.1 (cl_size hS hL) ?_
              rintro v S2 ⟨rfl, rfl⟩
              refine am_iconst (v := nI 4) d_FF_guard_57 (by decide) ?_
              first | refine am_icmp_ltN (tgt := 64) d_FF_guard_58 (by decide) (by omega) (by omega) (fun q7 => ?_) (fun q7 => ?_) | refine am_icmp_lt (tgt := 64) d_FF_guard_58 (by decide) (fun q7 => ?_) (fun q7 => ?_)
              · refine am_aload d_FF_guard_64 rfl (by first | exact am_rvR _ | exact am_rvN | assumption) ?_
                refine am_nw (10 * (10 + i) + 3) d_FF_guard_66 n_FF_108 df_Gd ?_
                have hb0 := am_mk_at S2 (10 * (10 + i) + 3) 4 (.inr (am_cGd, [.int 0, .int 0, .int 0, .int 0]))
                refine am_dup d_FF_guard_69 rfl ?_
                refine am_iload_n d_FF_guard_70 rfl ?_
                refine am_iload_n d_FF_guard_71 rfl ?_
                refine am_iload d_FF_guard_72 rfl ?_
                refine am_cI (b := S2.2.1) d_FF_guard_74 i_FF_122 (vs := [.int pr, .int m, .int vd]) (st := [.ref S2.2.1, .ref (A (10 + i))]) rfl rfl (by decide) (Nat.le_of_ble_eq_true rfl) (mk_Gd (by omega) hb0 _ _ _) ?_
                rintro v S3 ⟨rfl, rfl⟩
                rw [am_up_mk]
                obtain ⟨hS3, hf3⟩ := cl_mkT (z := 4) (x := .inr (am_cGd, [.int pr, .int m, .int vd, .int 0])) (10 * (10 + i) + 3) hS
                have hel : cl_el (10 + i) S2.2.1 [pr, m, vd, 0] _ := (cl_eldir hn (c := 10 + i) (by unfold cl_dir; omega)).mpr ⟨by rw [show cl_cls (10 + i) = am_cGd from by unfold cl_cls; rw [if_neg (by omega), if_pos (by omega)]]; exact am_mk_at S2 (10 * (10 + i) + 3) 4 (.inr (am_cGd, [.int pr, .int m, .int vd, .int 0])), by unfold cl_wid; rw [if_neg (by omega), if_pos (by omega)]; rfl⟩
                refine am_cV (b := A (10 + i)) d_FF_guard_77 v_FF_123 (vs := [.ref _]) (st := []) rfl rfl (by decide) (Nat.le_of_ble_eq_true rfl) (cl_list hS3 hL).1.choose_spec.choose_spec.choose_spec.choose_spec.1 (cl_addM (row := [pr, m, vd, 0]) hn he hS3 hL (show (s.1 (10 + i)).length < 60 by omega) hel (fun _ => (cl_fresh hn hS hL : S2.2.1 ∉ s.2.1 (10 + i)))) ?_
                rintro v S4 ⟨rfl, hS4, hf4⟩
                refine am_pop d_FF_guard_80 rfl ?_
                refine am_aload d_FF_guard_81 rfl (by first | exact am_rvR _ | exact am_rvN | assumption) ?_
                refine am_cV (b := A (10 + i)) d_FF_guard_83 v_FF_116 (vs := []) (st := []) rfl rfl (by decide) (Nat.le_of_ble_eq_true rfl) (cl_list hS4 hL).1.choose_spec.choose_spec.choose_spec.choose_spec.1 (cl_size hS4 hL) ?_
                rintro v S5 ⟨rfl, rfl⟩
                have el : ((cl_up (cl_bg s 1 4) (10 + i) ((cl_bg s 1 4).1 (10 + i) ++ [[pr, m, vd, 0]]) ((cl_bg s 1 4).2.1 (10 + i) ++ [S2.2.1]) 1 90).1 (10 + i)).length = (s.1 (10 + i)).length + 1 := by rw [cl_up_1, List.length_append]; rfl
                rw [el]
                refine am_iconst (v := nI 1) d_FF_guard_86 (by decide) ?_
                first | refine am_isubN d_FF_guard_87 (by omega) ?_ | refine am_isub d_FF_guard_87 ?_
                refine am_iret d_FF_guard_88 rfl (by first | rfl | exact am_b_nar _) ?_
                refine ⟨by unfold fc_guard fc_len; rw [if_pos hc, ec, if_neg (by omega)]; rfl, _, ?_, ⟨by show s.2.2.1 + 1 + 1 ≤ _; omega, by show s.2.2.2 + 4 + 90 ≤ _; omega⟩, hS4, hf3.trans hf4⟩
                unfold fc_guard fc_len
                rw [if_pos hc, ec, if_neg (by omega)]
                rfl
              · refine am_bipush (v := (-2)) d_FF_guard_61 (by decide) ?_
                refine am_iret d_FF_guard_63 rfl (by first | rfl | exact am_b_nar _) ?_
                exact ⟨by unfold fc_guard fc_len; rw [if_pos hc, ec, if_pos (by omega)], by unfold fc_guard fc_len; rw [if_pos hc, ec, if_pos (by omega)]; exact hid⟩
            · refine am_iconst (v := (-1)) d_FF_guard_39 (by decide) ?_
              refine am_iret d_FF_guard_40 rfl (by first | rfl | exact am_b_nar _) ?_
              have hc : ¬ (fc_sw ns x && (decide (0 ≤ pr) && (decide (pr ≤ 9) && (decide (0 ≤ vd) && (decide (vd ≤ 6) && fc_mt m))))) = true := by
                simp only [Bool.and_eq_true, decide_eq_true_eq, Int32.lt_iff_toInt_lt, Int32.le_iff_toInt_le, am_n0, am_i0, am_n1, am_i1, am_n2, am_i2, am_n3, am_i3, am_n4, am_i4, am_n5, am_i5, am_n6, am_i6, am_n7, am_i7, am_n8, am_i8, am_n9, am_i9, am_n10, am_i10, am_n11, am_i11, am_m1, am_n511, am_i511] at *
                intro hz
                obtain ⟨z1, z2, z3, z4, z5, z6⟩ := hz
                simp_all <;> omega
              exact ⟨by unfold fc_guard; rw [if_neg hc], by unfold fc_guard; rw [if_neg hc]; exact hid⟩
      · refine am_iconst (v := (-1)) d_FF_guard_18 (by decide) ?_
        refine am_iret d_FF_guard_19 rfl (by first | rfl | exact am_b_nar _) ?_
        have hc : ¬ (fc_sw ns x && (decide (0 ≤ pr) && (decide (pr ≤ 9) && (decide (0 ≤ vd) && (decide (vd ≤ 6) && fc_mt m))))) = true := by
          simp only [Bool.and_eq_true, decide_eq_true_eq, Int32.lt_iff_toInt_lt, Int32.le_iff_toInt_le, am_n0, am_i0, am_n1, am_i1, am_n2, am_i2, am_n3, am_i3, am_n4, am_i4, am_n5, am_i5, am_n6, am_i6, am_n7, am_i7, am_n8, am_i8, am_n9, am_i9, am_n10, am_i10, am_n11, am_i11, am_m1, am_n511, am_i511] at *
          intro hz
          obtain ⟨z1, z2, z3, z4, z5, z6⟩ := hz
          simp_all <;> omega
        exact ⟨by unfold fc_guard; rw [if_neg hc], by unfold fc_guard; rw [if_neg hc]; exact hid⟩
theorem ff_send (hn : ns ≤ 5) (hS : cl_P e nw ns room idle A s S) (he : am_gE g e) (I : fc_iD ns room s.1) (x z nr : Int32) : am_M g y_FF_send "(III)Z" 10 223 [.ref (A 0), .int x, .int z, .int nr] S (fun v S' => v = some (.int (am_b (fc_send s.1 x z nr).1)) ∧ cl_Q e nw ns room idle A s S (fc_send s.1 x z nr).2 4 210 S') := by
  have hid : cl_Q e nw ns room idle A s S s.1 4 210 S := (cl_Q.id hS).wide (by omega) (by omega)
  have IH := I.2.1
  have h6 := IH.2.1
  refine am_Mof (L0 := [some (.ref (A 0)), some (.int x), some (.int z), some (.int nr), none]) pl_FF_send (am_k1 rfl (am_k1 rfl (am_k1 rfl (am_k1 rfl am_k0)))) (Nat.le_of_ble_eq_true rfl) rfl ?_
  refine am_aload_n d_FF_send_0 rfl (by first | exact am_rvR _ | exact am_rvN | assumption) ?_
  refine am_iload_n d_FF_send_1 rfl ?_
  refine am_cV (b := A 0) d_FF_send_2 v_FF_137 (vs := [.int x]) (st := []) rfl rfl (by decide) (Nat.le_of_ble_eq_true rfl) (cl_fab hS) (cq_isHost hS IH x) ?_
  rintro v S2 ⟨rfl, rfl⟩
  first | refine am_if_eqB (tgt := 21) d_FF_send_5 (by decide) (fun q1 => ?_) (fun q1 => ?_) | refine am_if_eqN (tgt := 21) d_FF_send_5 (by decide) (by omega) (fun q1 => ?_) (fun q1 => ?_) | refine am_if_eq (tgt := 21) d_FF_send_5 (by decide) (fun q1 => ?_) (fun q1 => ?_)
  · refine am_iconst (v := nI 0) d_FF_send_21 (by decide) ?_
    refine am_iret d_FF_send_22 rfl (by first | rfl | exact am_b_nar _) ?_
    have hc : (fc_hs s.1 x && (fc_hs s.1 z && x != z)) = false := by simp_all
    exact ⟨by unfold fc_send; rw [if_neg (by rw [hc]; decide)]; rfl, by unfold fc_send; rw [if_neg (by rw [hc]; decide)]; exact hid⟩
  · refine am_aload_n d_FF_send_8 rfl (by first | exact am_rvR _ | exact am_rvN | assumption) ?_
    refine am_iload_n d_FF_send_9 rfl ?_
    refine am_cV (b := A 0) d_FF_send_10 v_FF_137 (vs := [.int z]) (st := []) rfl rfl (by decide) (Nat.le_of_ble_eq_true rfl) (cl_fab hS) (cq_isHost hS IH z) ?_
    rintro v S2 ⟨rfl, rfl⟩
    first | refine am_if_eqB (tgt := 21) d_FF_send_13 (by decide) (fun q2 => ?_) (fun q2 => ?_) | refine am_if_eqN (tgt := 21) d_FF_send_13 (by decide) (by omega) (fun q2 => ?_) (fun q2 => ?_) | refine am_if_eq (tgt := 21) d_FF_send_13 (by decide) (fun q2 => ?_) (fun q2 => ?_)
    · refine am_iconst (v := nI 0) d_FF_send_21 (by decide) ?_
      refine am_iret d_FF_send_22 rfl (by first | rfl | exact am_b_nar _) ?_
      have hc : (fc_hs s.1 x && (fc_hs s.1 z && x != z)) = false := by simp_all
      exact ⟨by unfold fc_send; rw [if_neg (by rw [hc]; decide)]; rfl, by unfold fc_send; rw [if_neg (by rw [hc]; decide)]; exact hid⟩
    · refine am_iload_n d_FF_send_16 rfl ?_
      refine am_iload_n d_FF_send_17 rfl ?_
      first | refine am_icmp_neN (tgt := 23) d_FF_send_18 (by decide) (by omega) (by omega) (fun q3 => ?_) (fun q3 => ?_) | refine am_icmp_ne (tgt := 23) d_FF_send_18 (by decide) (fun q3 => ?_) (fun q3 => ?_)
      · have hc : (fc_hs s.1 x && (fc_hs s.1 z && x != z)) = true := by simp_all
        obtain ⟨k, hk, ex⟩ := fc_hs_nat h6 q1
        have hx1 : x ≠ -1 := by rw [ex]; exact cl_ix_ne (by omega)
        obtain ⟨a, i, p, x3, x4, x5, ha, hr, ho, hi, hp, hat, hlen⟩ := cl_ho hS IH hk
        have es : fc_send s.1 x z nr = (true, fc_in s.1 i (nI p) x z nr) := by
          unfold fc_send
          rw [if_pos hc, ex, nI_clamp (by omega), fc_get_row hr, fc_get_row hr]
          show (true, fc_in s.1 (nI i).toNatClampNeg _ _ _ _) = _
          rw [nI_clamp (by omega)]
          rfl
        rw [es]
        refine am_aload_n d_FF_send_23 rfl (by first | exact am_rvR _ | exact am_rvN | assumption) ?_
        refine am_get d_FF_send_24 f_FF_28 (cl_fab hS) (by rfl) ?_
        refine am_iload_n d_FF_send_27 rfl ?_
        refine am_aald (j := k) d_FF_send_28 am_kH_ok rfl (cl_hosts hS).1 ex hat (by rw [hlen]; decide) ?_
        refine am_astore (L1 := [_, _, _, _, _]) d_FF_send_29 (by decide) (by first | exact am_rvR _ | exact am_rvN | assumption) rfl ?_
        refine am_aload_n d_FF_send_31 rfl (by first | exact am_rvR _ | exact am_rvN | assumption) ?_
        refine am_get d_FF_send_32 f_FF_18 (cl_fab hS) (by rfl) ?_
        refine am_aload d_FF_send_35 rfl (by first | exact am_rvR _ | exact am_rvN | assumption) ?_
        refine am_get d_FF_send_37 f_FF_140 ho (by rfl) ?_
        refine am_aald d_FF_send_40 am_kN_ok rfl (cl_nodes hS) rfl (cl_nodes_at hi) (by simp; omega) ?_
        refine am_nw 9999 d_FF_send_41 n_FF_143 df_Dg ?_
        have hb0 := am_mk_at S2 9999 3 (.inr (am_cDg, [.int 0, .int 0, .int 0]))
        refine am_dup d_FF_send_44 rfl ?_
        refine am_iload_n d_FF_send_45 rfl ?_
        refine am_iload_n d_FF_send_46 rfl ?_
        refine am_iload_n d_FF_send_47 rfl ?_
        refine am_cI (b := S2.2.1) d_FF_send_48 i_FF_145 (vs := [.int x, .int z, .int nr]) (st := [.ref S2.2.1, .ref (A (50 + i))]) rfl rfl (by decide) (Nat.le_of_ble_eq_true rfl) (mk_Dg (by decide) hb0 _ _ _) ?_
        rintro v S3 ⟨rfl, rfl⟩
        rw [am_up_mk]
        refine am_retag 0 (am_mk_at S2 9999 3 (.inr (am_cDg, [.int x, .int z, .int nr]))) (by decide) ?_
        rw [am_up_mk]
        obtain ⟨hS3, hf3⟩ := hS.mk (z := 3) (x := .inr (am_cDg, [.int x, .int z, .int nr]))
        have hb3 := am_mk_at S2 0 3 (.inr (am_cDg, [.int x, .int z, .int nr]))
        have ho3 := hf3
        refine am_aload d_FF_send_51 rfl (by first | exact am_rvR _ | exact am_rvN | assumption) ?_
        refine am_get d_FF_send_53 f_FF_146 (am_mk_old ho hS.1.1) (by rfl) ?_
        refine am_aload_n d_FF_send_56 rfl (by first | exact am_rvR _ | exact am_rvN | assumption) ?_
        refine am_get d_FF_send_57 f_FF_44 (cl_fab hS3) (by rfl) ?_
        refine am_cV (b := A (50 + i)) d_FF_send_60 v_FF_149 (vs := [.ref _, .int (nI p), .int (fc_now s.1)]) (st := []) rfl rfl (by decide) (Nat.le_of_ble_eq_true rfl) (cl_node hS3 hi) (nd_in hn hS3 hi he I hb3 hx1 (nI p)) ?_
        rintro v S4 ⟨rfl, hq4⟩
        refine am_iconst (v := nI 1) d_FF_send_63 (by decide) ?_
        refine am_iret d_FF_send_64 rfl (by first | rfl | exact am_b_nar _) ?_
        exact ⟨rfl, hq4.from hf3 (by show s.2.2.1 + 1 + 3 ≤ _; omega) (by show s.2.2.2 + 3 + 200 ≤ _; omega)⟩
      · refine am_iconst (v := nI 0) d_FF_send_21 (by decide) ?_
        refine am_iret d_FF_send_22 rfl (by first | rfl | exact am_b_nar _) ?_
        have hc : (fc_hs s.1 x && (fc_hs s.1 z && x != z)) = false := by simp_all
        exact ⟨by unfold fc_send; rw [if_neg (by rw [hc]; decide)]; rfl, by unfold fc_send; rw [if_neg (by rw [hc]; decide)]; exact hid⟩
theorem ff_place (hn : ns ≤ 5) (hS : cl_P e nw ns room idle A s S) (IH : fc_iH ns s.1) (Io : fc_iO ns s.1) (x : Int32) : am_M g y_FF_place "(I)I" 1 21 [.ref (A 0), .int x] S (fun v S' => v = some (.int (fc_place s.1 x)) ∧ S' = S) := by
  refine am_Mof (L0 := [some (.ref (A 0)), some (.int x)]) pl_FF_place (am_k1 rfl (am_k1 rfl am_k0)) (Nat.le_of_ble_eq_true rfl) rfl ?_
  refine am_aload_n d_FF_place_0 rfl (by first | exact am_rvR _ | exact am_rvN | assumption) ?_
  refine am_iload_n d_FF_place_1 rfl ?_
  refine am_cV (b := A 0) d_FF_place_2 v_FF_137 (vs := [.int x]) (st := []) rfl rfl (by decide) (Nat.le_of_ble_eq_true rfl) (cl_fab hS) (cq_isHost hS IH x) ?_
  rintro v S2 ⟨rfl, rfl⟩
  first | refine am_if_neB (tgt := 10) d_FF_place_5 (by decide) (fun q1 => ?_) (fun q1 => ?_) | refine am_if_neN (tgt := 10) d_FF_place_5 (by decide) (by omega) (fun q1 => ?_) (fun q1 => ?_) | refine am_if_ne (tgt := 10) d_FF_place_5 (by decide) (fun q1 => ?_) (fun q1 => ?_)
  · obtain ⟨k, hk, ex⟩ := fc_hs_nat IH.2.1 q1
    obtain ⟨-, -, -, pl, hpl, hl6, -⟩ := Io
    have h6 := IH.2.1
    have h5 : S2.1 (A 5) = some (51, .inl (am_kI, pl.map Value.int)) := by
      have h1 := cl_a5 hS
      unfold cl_arr at h1
      rw [hpl] at h1
      exact h1
    refine am_aload_n d_FF_place_10 rfl (by first | exact am_rvR _ | exact am_rvN | assumption) ?_
    refine am_get d_FF_place_11 f_FF_37 (cl_fab hS) (by rfl) ?_
    refine am_get d_FF_place_14 f_FF_219 (cl_ctl hS) (by rfl) ?_
    refine am_iload_n d_FF_place_17 rfl ?_
    refine am_iald (j := k) d_FF_place_18 am_kI_ok h5 ex (cl_fld (by omega)) (by simp; omega) ?_
    refine am_iret d_FF_place_19 rfl (by first | rfl | exact am_b_nar _) ?_
    exact ⟨by unfold fc_place fc_get; rw [if_pos q1, ex, nI_clamp (by omega), hpl]; rfl, rfl⟩
  · refine am_iconst (v := (-1)) d_FF_place_8 (by decide) ?_
    refine am_iret d_FF_place_9 rfl (by first | rfl | exact am_b_nar _) ?_
    exact ⟨by unfold fc_place; rw [if_neg (by rw [q1]; decide)], rfl⟩
theorem ff_known (hn : ns ≤ 5) (hS : cl_P e nw ns room idle A s S) (Io : fc_iO ns s.1) (x p : Int32) : am_M g y_FF_known "(II)I" 2 43 [.ref (A 0), .int x, .int p] S (fun v S' => v = some (.int (fc_known ns s.1 x p)) ∧ S' = S) := by
  refine am_Mof (L0 := [some (.ref (A 0)), some (.int x), some (.int p)]) pl_FF_known (am_k1 rfl (am_k1 rfl (am_k1 rfl am_k0))) (Nat.le_of_ble_eq_true rfl) rfl ?_
  refine am_aload_n d_FF_known_0 rfl (by first | exact am_rvR _ | exact am_rvN | assumption) ?_
  refine am_iload_n d_FF_known_1 rfl ?_
  refine am_iload_n d_FF_known_2 rfl ?_
  refine am_cV (b := A 0) d_FF_known_3 v_FF_47 (vs := [.int x, .int p]) (st := []) rfl rfl (by decide) (Nat.le_of_ble_eq_true rfl) (cl_fab hS) (cq_isPort hS hn x p) ?_
  rintro v S2 ⟨rfl, rfl⟩
  first | refine am_if_neB (tgt := 11) d_FF_known_6 (by decide) (fun q1 => ?_) (fun q1 => ?_) | refine am_if_neN (tgt := 11) d_FF_known_6 (by decide) (by omega) (fun q1 => ?_) (fun q1 => ?_) | refine am_if_ne (tgt := 11) d_FF_known_6 (by decide) (fun q1 => ?_) (fun q1 => ?_)
  · obtain ⟨i, q, hi, hq, ex, ep⟩ := fc_pt_nat hn q1
    subst ex ep
    obtain ⟨-, ⟨ot, hot, hol, -⟩, -⟩ := Io
    have h3 : S2.1 (A 3) = some (31, .inl (am_kI, ot.map Value.int)) := by
      have h1 := cl_a3 hS
      unfold cl_arr at h1
      rw [hot] at h1
      exact h1
    refine am_aload_n d_FF_known_11 rfl (by first | exact am_rvR _ | exact am_rvN | assumption) ?_
    refine am_get d_FF_known_12 f_FF_37 (cl_fab hS) (by rfl) ?_
    refine am_get d_FF_known_15 f_FF_215 (cl_ctl hS) (by rfl) ?_
    refine am_iload_n d_FF_known_18 rfl ?_
    refine am_iload_n d_FF_known_19 rfl ?_
    refine am_cS d_FF_known_20 s_FF_71 (vs := [.int (nI i), .int (nI q)]) (st := [.ref (A 3)]) rfl rfl (by decide) (Nat.le_of_ble_eq_true rfl) (ff_endOf) ?_
    rintro v S3 ⟨rfl, rfl⟩
    refine am_iald (j := i * 4 + q) d_FF_known_23 am_kI_ok h3 rfl (cl_fld (by omega)) (by simp; omega) ?_
    refine am_iret d_FF_known_24 rfl (by first | rfl | exact am_b_nar _) ?_
    exact ⟨by unfold fc_known fc_get; rw [if_pos q1, fc_e_nat (by omega) hq, hot, show 4 * i + q = i * 4 + q by omega]; rfl, rfl⟩
  · refine am_iconst (v := (-1)) d_FF_known_9 (by decide) ?_
    refine am_iret d_FF_known_10 rfl (by first | rfl | exact am_b_nar _) ?_
    exact ⟨by unfold fc_known; rw [if_neg (by rw [q1]; decide)], rfl⟩
end CFB
