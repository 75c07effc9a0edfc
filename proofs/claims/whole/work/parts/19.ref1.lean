/-! the reference, method by method -/
theorem am_bt {c : Bool} (h : c = true) : some (Value.int (nI 1)) = some (Value.int (am_b c)) := by subst h; rfl
theorem am_bf {c : Bool} (h : c = false) : some (Value.int (nI 0)) = some (Value.int (am_b c)) := by subst h; rfl
theorem am_n0 : (nI 0).toInt = 0 := by decide
theorem am_i0 : (0 : Int32).toInt = 0 := by decide
theorem am_n1 : (nI 1).toInt = 1 := by decide
theorem am_i1 : (1 : Int32).toInt = 1 := by decide
theorem am_n2 : (nI 2).toInt = 2 := by decide
theorem am_i2 : (2 : Int32).toInt = 2 := by decide
theorem am_n3 : (nI 3).toInt = 3 := by decide
theorem am_i3 : (3 : Int32).toInt = 3 := by decide
theorem am_n4 : (nI 4).toInt = 4 := by decide
theorem am_i4 : (4 : Int32).toInt = 4 := by decide
theorem am_n5 : (nI 5).toInt = 5 := by decide
theorem am_i5 : (5 : Int32).toInt = 5 := by decide
theorem am_n6 : (nI 6).toInt = 6 := by decide
theorem am_i6 : (6 : Int32).toInt = 6 := by decide
theorem am_n7 : (nI 7).toInt = 7 := by decide
theorem am_i7 : (7 : Int32).toInt = 7 := by decide
theorem am_n8 : (nI 8).toInt = 8 := by decide
theorem am_i8 : (8 : Int32).toInt = 8 := by decide
theorem am_n9 : (nI 9).toInt = 9 := by decide
theorem am_i9 : (9 : Int32).toInt = 9 := by decide
theorem am_n10 : (nI 10).toInt = 10 := by decide
theorem am_i10 : (10 : Int32).toInt = 10 := by decide
theorem am_n11 : (nI 11).toInt = 11 := by decide
theorem am_i11 : (11 : Int32).toInt = 11 := by decide
theorem am_m1 : (-1 : Int32).toInt = -1 := by decide
theorem am_n511 : (nI 511).toInt = 511 := by decide
theorem am_i511 : (511 : Int32).toInt = 511 := by decide
section REF
variable {g : am_G} {A : Nat → Nat} {r : fr_S}
theorem rf_between (v lo hi : Int32) : gm_M (fr_P A) fr_X g y_M_between "(III)I" 0 0 [.int v, .int lo, .int hi] (fun v0 r' => v0 = some (.int (if v < lo then lo else if hi < v then hi else v)) ∧ r' = r) r := by
  refine gm_Mof (L0 := [some (.int v), some (.int lo), some (.int hi)]) pl_M_between (am_k1 rfl (am_k1 rfl (am_k1 rfl am_k0))) (Nat.le_of_ble_eq_true rfl) rfl ?_
  refine gm_iload_n d_M_between_0 rfl ?_
  refine gm_iload_n d_M_between_1 rfl ?_
  first | refine gm_icmp_geN (tgt := 9) d_M_between_2 (by decide) (by omega) (by omega) (fun q1 => ?_) (fun q1 => ?_) | refine gm_icmp_ge (tgt := 9) d_M_between_2 (by decide) (fun q1 => ?_) (fun q1 => ?_)
  · refine gm_iload_n d_M_between_9 rfl ?_
    refine gm_iload_n d_M_between_10 rfl ?_
    first | refine gm_icmp_leN (tgt := 18) d_M_between_11 (by decide) (by omega) (by omega) (fun q2 => ?_) (fun q2 => ?_) | refine gm_icmp_le (tgt := 18) d_M_between_11 (by decide) (fun q2 => ?_) (fun q2 => ?_)
    · refine gm_iload_n d_M_between_18 rfl ?_
      refine gm_iret d_M_between_19 rfl rfl ?_
      exact ⟨by (split <;> (try split) <;> first | rfl | (exfalso; simp only [Int32.lt_iff_toInt_lt, Int32.le_iff_toInt_le, am_n0, am_i0, am_n1, am_i1, am_n2, am_i2, am_n3, am_i3, am_n4, am_i4, am_n5, am_i5, am_n6, am_i6, am_n7, am_i7, am_n8, am_i8, am_n9, am_i9, am_n10, am_i10, am_n11, am_i11, am_m1, am_n511, am_i511] at *; omega)), rfl⟩
    · refine gm_iload_n d_M_between_14 rfl ?_
      refine gm_goto (tgt := 19) d_M_between_15 (by decide) ?_
      refine gm_iret d_M_between_19 rfl rfl ?_
      exact ⟨by (split <;> (try split) <;> first | rfl | (exfalso; simp only [Int32.lt_iff_toInt_lt, Int32.le_iff_toInt_le, am_n0, am_i0, am_n1, am_i1, am_n2, am_i2, am_n3, am_i3, am_n4, am_i4, am_n5, am_i5, am_n6, am_i6, am_n7, am_i7, am_n8, am_i8, am_n9, am_i9, am_n10, am_i10, am_n11, am_i11, am_m1, am_n511, am_i511] at *; omega)), rfl⟩
  · refine gm_iload_n d_M_between_5 rfl ?_
    refine gm_goto (tgt := 19) d_M_between_6 (by decide) ?_
    refine gm_iret d_M_between_19 rfl rfl ?_
    exact ⟨by (split <;> (try split) <;> first | rfl | (exfalso; simp only [Int32.lt_iff_toInt_lt, Int32.le_iff_toInt_le, am_n0, am_i0, am_n1, am_i1, am_n2, am_i2, am_n3, am_i3, am_n4, am_i4, am_n5, am_i5, am_n6, am_i6, am_n7, am_i7, am_n8, am_i8, am_n9, am_i9, am_n10, am_i10, am_n11, am_i11, am_m1, am_n511, am_i511] at *; omega)), rfl⟩
theorem rf_isSwitch {ns : Nat} (h0 : r.1 0 = nI ns) (x : Int32) : gm_M (fr_P A) fr_X g y_M_isSwitch "(I)Z" 0 0 [.ref (A 44), .int x] (fun v r' => v = some (.int (am_b (fc_sw ns x))) ∧ r' = r) r := by
  refine gm_Mof (L0 := [some (.ref (A 44)), some (.int x)]) pl_M_isSwitch (am_k1 rfl (am_k1 rfl am_k0)) (Nat.le_of_ble_eq_true rfl) rfl ?_
  refine gm_iload_n d_M_isSwitch_0 rfl ?_
  first | refine gm_if_ltN (tgt := 16) d_M_isSwitch_1 (by decide) (by omega) (fun q1 => ?_) (fun q1 => ?_) | refine gm_if_lt (tgt := 16) d_M_isSwitch_1 (by decide) (fun q1 => ?_) (fun q1 => ?_)
  · refine gm_iconst (v := nI 0) d_M_isSwitch_16 (by decide) ?_
    refine gm_iret d_M_isSwitch_17 rfl (by first | rfl | exact am_b_nar _) ?_
    exact ⟨by first | (refine am_bt ?_; (simp only [fc_sw, Bool.and_eq_true, Bool.and_eq_false_iff, decide_eq_true_eq, decide_eq_false_iff_not, Int32.lt_iff_toInt_lt, Int32.le_iff_toInt_le, am_n0, am_i0, am_n1, am_i1, am_n2, am_i2, am_n3, am_i3, am_n4, am_i4, am_n5, am_i5, am_n6, am_i6, am_n7, am_i7, am_n8, am_i8, am_n9, am_i9, am_n10, am_i10, am_n11, am_i11, am_m1, am_n511, am_i511] at *; omega)) | (refine am_bf ?_; (simp only [fc_sw, Bool.and_eq_true, Bool.and_eq_false_iff, decide_eq_true_eq, decide_eq_false_iff_not, Int32.lt_iff_toInt_lt, Int32.le_iff_toInt_le, am_n0, am_i0, am_n1, am_i1, am_n2, am_i2, am_n3, am_i3, am_n4, am_i4, am_n5, am_i5, am_n6, am_i6, am_n7, am_i7, am_n8, am_i8, am_n9, am_i9, am_n10, am_i10, am_n11, am_i11, am_m1, am_n511, am_i511] at *; omega)), rfl⟩
  · refine gm_iload_n d_M_isSwitch_4 rfl ?_
    refine gm_aload_n d_M_isSwitch_5 rfl (by first | exact am_rvR _ | exact am_rvN | assumption) ?_
    refine fr_gSv 0 d_M_isSwitch_6 f_M_123 (by decide) rfl (by first | assumption | (simp only [fr_up_at, fr_up_s, fr_sc_at, fr_sc_a, Nat.reduceEqDiff, false_and, if_false, ite_false, reduceCtorEq]; first | assumption | rfl) | rfl) ?_
    first | refine gm_icmp_geN (tgt := 16) d_M_isSwitch_9 (by decide) (by omega) (by omega) (fun q2 => ?_) (fun q2 => ?_) | refine gm_icmp_ge (tgt := 16) d_M_isSwitch_9 (by decide) (fun q2 => ?_) (fun q2 => ?_)
    · refine gm_iconst (v := nI 0) d_M_isSwitch_16 (by decide) ?_
      refine gm_iret d_M_isSwitch_17 rfl (by first | rfl | exact am_b_nar _) ?_
      exact ⟨by first | (refine am_bt ?_; (simp only [fc_sw, Bool.and_eq_true, Bool.and_eq_false_iff, decide_eq_true_eq, decide_eq_false_iff_not, Int32.lt_iff_toInt_lt, Int32.le_iff_toInt_le, am_n0, am_i0, am_n1, am_i1, am_n2, am_i2, am_n3, am_i3, am_n4, am_i4, am_n5, am_i5, am_n6, am_i6, am_n7, am_i7, am_n8, am_i8, am_n9, am_i9, am_n10, am_i10, am_n11, am_i11, am_m1, am_n511, am_i511] at *; omega)) | (refine am_bf ?_; (simp only [fc_sw, Bool.and_eq_true, Bool.and_eq_false_iff, decide_eq_true_eq, decide_eq_false_iff_not, Int32.lt_iff_toInt_lt, Int32.le_iff_toInt_le, am_n0, am_i0, am_n1, am_i1, am_n2, am_i2, am_n3, am_i3, am_n4, am_i4, am_n5, am_i5, am_n6, am_i6, am_n7, am_i7, am_n8, am_i8, am_n9, am_i9, am_n10, am_i10, am_n11, am_i11, am_m1, am_n511, am_i511] at *; omega)), rfl⟩
    · refine gm_iconst (v := nI 1) d_M_isSwitch_12 (by decide) ?_
      refine gm_goto (tgt := 17) d_M_isSwitch_13 (by decide) ?_
      refine gm_iret d_M_isSwitch_17 rfl (by first | rfl | exact am_b_nar _) ?_
      exact ⟨by first | (refine am_bt ?_; (simp only [fc_sw, Bool.and_eq_true, Bool.and_eq_false_iff, decide_eq_true_eq, decide_eq_false_iff_not, Int32.lt_iff_toInt_lt, Int32.le_iff_toInt_le, am_n0, am_i0, am_n1, am_i1, am_n2, am_i2, am_n3, am_i3, am_n4, am_i4, am_n5, am_i5, am_n6, am_i6, am_n7, am_i7, am_n8, am_i8, am_n9, am_i9, am_n10, am_i10, am_n11, am_i11, am_m1, am_n511, am_i511] at *; omega)) | (refine am_bf ?_; (simp only [fc_sw, Bool.and_eq_true, Bool.and_eq_false_iff, decide_eq_true_eq, decide_eq_false_iff_not, Int32.lt_iff_toInt_lt, Int32.le_iff_toInt_le, am_n0, am_i0, am_n1, am_i1, am_n2, am_i2, am_n3, am_i3, am_n4, am_i4, am_n5, am_i5, am_n6, am_i6, am_n7, am_i7, am_n8, am_i8, am_n9, am_i9, am_n10, am_i10, am_n11, am_i11, am_m1, am_n511, am_i511] at *; omega)), rfl⟩
theorem rf_isPort {ns : Nat} (h0 : r.1 0 = nI ns) (x p : Int32) : gm_M (fr_P A) fr_X g y_M_isPort "(II)Z" 1 21 [.ref (A 44), .int x, .int p] (fun v r' => v = some (.int (am_b (fc_pt ns x p))) ∧ r' = r) r := by
  refine gm_Mof (L0 := [some (.ref (A 44)), some (.int x), some (.int p)]) pl_M_isPort (am_k1 rfl (am_k1 rfl (am_k1 rfl am_k0))) (Nat.le_of_ble_eq_true rfl) rfl ?_
  refine gm_aload_n d_M_isPort_0 rfl (by first | exact am_rvR _ | exact am_rvN | assumption) ?_
  refine gm_iload_n d_M_isPort_1 rfl ?_
  refine gm_cV (b := A 44) d_M_isPort_2 v_M_133 (vs := [.int x]) (st := []) rfl rfl (by decide) (Nat.le_of_ble_eq_true rfl) (fr_at _) (rf_isSwitch h0 x) ?_
  rintro v r1 ⟨rfl, rfl⟩
  first | refine gm_if_eqB (tgt := 21) d_M_isPort_5 (by decide) (fun q1 => ?_) (fun q1 => ?_) | refine gm_if_eqN (tgt := 21) d_M_isPort_5 (by decide) (by omega) (fun q1 => ?_) (fun q1 => ?_) | refine gm_if_eq (tgt := 21) d_M_isPort_5 (by decide) (fun q1 => ?_) (fun q1 => ?_)
  · refine gm_iconst (v := nI 0) d_M_isPort_21 (by decide) ?_
    refine gm_iret d_M_isPort_22 rfl (by first | rfl | exact am_b_nar _) ?_
    exact ⟨by first | (refine am_bt ?_; (simp only [fc_pt, fc_sw, Bool.and_eq_true, Bool.and_eq_false_iff, decide_eq_true_eq, decide_eq_false_iff_not, Int32.lt_iff_toInt_lt, Int32.le_iff_toInt_le, am_n0, am_i0, am_n1, am_i1, am_n2, am_i2, am_n3, am_i3, am_n4, am_i4, am_n5, am_i5, am_n6, am_i6, am_n7, am_i7, am_n8, am_i8, am_n9, am_i9, am_n10, am_i10, am_n11, am_i11, am_m1, am_n511, am_i511] at *; omega)) | (refine am_bf ?_; (simp only [fc_pt, fc_sw, Bool.and_eq_true, Bool.and_eq_false_iff, decide_eq_true_eq, decide_eq_false_iff_not, Int32.lt_iff_toInt_lt, Int32.le_iff_toInt_le, am_n0, am_i0, am_n1, am_i1, am_n2, am_i2, am_n3, am_i3, am_n4, am_i4, am_n5, am_i5, am_n6, am_i6, am_n7, am_i7, am_n8, am_i8, am_n9, am_i9, am_n10, am_i10, am_n11, am_i11, am_m1, am_n511, am_i511] at *; omega)), rfl⟩
  · refine gm_iload_n d_M_isPort_8 rfl ?_
    first | refine gm_if_ltN (tgt := 21) d_M_isPort_9 (by decide) (by omega) (fun q2 => ?_) (fun q2 => ?_) | refine gm_if_lt (tgt := 21) d_M_isPort_9 (by decide) (fun q2 => ?_) (fun q2 => ?_)
    · refine gm_iconst (v := nI 0) d_M_isPort_21 (by decide) ?_
      refine gm_iret d_M_isPort_22 rfl (by first | rfl | exact am_b_nar _) ?_
      exact ⟨by first | (refine am_bt ?_; (simp only [fc_pt, fc_sw, Bool.and_eq_true, Bool.and_eq_false_iff, decide_eq_true_eq, decide_eq_false_iff_not, Int32.lt_iff_toInt_lt, Int32.le_iff_toInt_le, am_n0, am_i0, am_n1, am_i1, am_n2, am_i2, am_n3, am_i3, am_n4, am_i4, am_n5, am_i5, am_n6, am_i6, am_n7, am_i7, am_n8, am_i8, am_n9, am_i9, am_n10, am_i10, am_n11, am_i11, am_m1, am_n511, am_i511] at *; omega)) | (refine am_bf ?_; (simp only [fc_pt, fc_sw, Bool.and_eq_true, Bool.and_eq_false_iff, decide_eq_true_eq, decide_eq_false_iff_not, Int32.lt_iff_toInt_lt, Int32.le_iff_toInt_le, am_n0, am_i0, am_n1, am_i1, am_n2, am_i2, am_n3, am_i3, am_n4, am_i4, am_n5, am_i5, am_n6, am_i6, am_n7, am_i7, am_n8, am_i8, am_n9, am_i9, am_n10, am_i10, am_n11, am_i11, am_m1, am_n511, am_i511] at *; omega)), rfl⟩
    · refine gm_iload_n d_M_isPort_12 rfl ?_
      refine gm_iconst (v := nI 3) d_M_isPort_13 (by decide) ?_
      first | refine gm_icmp_gtN (tgt := 21) d_M_isPort_14 (by decide) (by omega) (by omega) (fun q3 => ?_) (fun q3 => ?_) | refine gm_icmp_gt (tgt := 21) d_M_isPort_14 (by decide) (fun q3 => ?_) (fun q3 => ?_)
      · refine gm_iconst (v := nI 0) d_M_isPort_21 (by decide) ?_
        refine gm_iret d_M_isPort_22 rfl (by first | rfl | exact am_b_nar _) ?_
        exact ⟨by first | (refine am_bt ?_; (simp only [fc_pt, fc_sw, Bool.and_eq_true, Bool.and_eq_false_iff, decide_eq_true_eq, decide_eq_false_iff_not, Int32.lt_iff_toInt_lt, Int32.le_iff_toInt_le, am_n0, am_i0, am_n1, am_i1, am_n2, am_i2, am_n3, am_i3, am_n4, am_i4, am_n5, am_i5, am_n6, am_i6, am_n7, am_i7, am_n8, am_i8, am_n9, am_i9, am_n10, am_i10, am_n11, am_i11, am_m1, am_n511, am_i511] at *; omega)) | (refine am_bf ?_; (simp only [fc_pt, fc_sw, Bool.and_eq_true, Bool.and_eq_false_iff, decide_eq_true_eq, decide_eq_false_iff_not, Int32.lt_iff_toInt_lt, Int32.le_iff_toInt_le, am_n0, am_i0, am_n1, am_i1, am_n2, am_i2, am_n3, am_i3, am_n4, am_i4, am_n5, am_i5, am_n6, am_i6, am_n7, am_i7, am_n8, am_i8, am_n9, am_i9, am_n10, am_i10, am_n11, am_i11, am_m1, am_n511, am_i511] at *; omega)), rfl⟩
      · refine gm_iconst (v := nI 1) d_M_isPort_17 (by decide) ?_
        refine gm_goto (tgt := 22) d_M_isPort_18 (by decide) ?_
        refine gm_iret d_M_isPort_22 rfl (by first | rfl | exact am_b_nar _) ?_
        exact ⟨by first | (refine am_bt ?_; (simp only [fc_pt, fc_sw, Bool.and_eq_true, Bool.and_eq_false_iff, decide_eq_true_eq, decide_eq_false_iff_not, Int32.lt_iff_toInt_lt, Int32.le_iff_toInt_le, am_n0, am_i0, am_n1, am_i1, am_n2, am_i2, am_n3, am_i3, am_n4, am_i4, am_n5, am_i5, am_n6, am_i6, am_n7, am_i7, am_n8, am_i8, am_n9, am_i9, am_n10, am_i10, am_n11, am_i11, am_m1, am_n511, am_i511] at *; omega)) | (refine am_bf ?_; (simp only [fc_pt, fc_sw, Bool.and_eq_true, Bool.and_eq_false_iff, decide_eq_true_eq, decide_eq_false_iff_not, Int32.lt_iff_toInt_lt, Int32.le_iff_toInt_le, am_n0, am_i0, am_n1, am_i1, am_n2, am_i2, am_n3, am_i3, am_n4, am_i4, am_n5, am_i5, am_n6, am_i6, am_n7, am_i7, am_n8, am_i8, am_n9, am_i9, am_n10, am_i10, am_n11, am_i11, am_m1, am_n511, am_i511] at *; omega)), rfl⟩
theorem rf_isHost {nh : Nat} (h0 : r.1 7 = nI nh) (x : Int32) : gm_M (fr_P A) fr_X g y_M_isHost "(I)Z" 0 0 [.ref (A 44), .int x] (fun v r' => v = some (.int (am_b (decide (0 ≤ x) && decide (x < nI nh)))) ∧ r' = r) r := by
  refine gm_Mof (L0 := [some (.ref (A 44)), some (.int x)]) pl_M_isHost (am_k1 rfl (am_k1 rfl am_k0)) (Nat.le_of_ble_eq_true rfl) rfl ?_
  refine gm_iload_n d_M_isHost_0 rfl ?_
  first | refine gm_if_ltN (tgt := 16) d_M_isHost_1 (by decide) (by omega) (fun q1 => ?_) (fun q1 => ?_) | refine gm_if_lt (tgt := 16) d_M_isHost_1 (by decide) (fun q1 => ?_) (fun q1 => ?_)
  · refine gm_iconst (v := nI 0) d_M_isHost_16 (by decide) ?_
    refine gm_iret d_M_isHost_17 rfl (by first | rfl | exact am_b_nar _) ?_
    exact ⟨by first | (refine am_bt ?_; (simp only [fc_sw, Bool.and_eq_true, Bool.and_eq_false_iff, decide_eq_true_eq, decide_eq_false_iff_not, Int32.lt_iff_toInt_lt, Int32.le_iff_toInt_le, am_n0, am_i0, am_n1, am_i1, am_n2, am_i2, am_n3, am_i3, am_n4, am_i4, am_n5, am_i5, am_n6, am_i6, am_n7, am_i7, am_n8, am_i8, am_n9, am_i9, am_n10, am_i10, am_n11, am_i11, am_m1, am_n511, am_i511] at *; omega)) | (refine am_bf ?_; (simp only [fc_sw, Bool.and_eq_true, Bool.and_eq_false_iff, decide_eq_true_eq, decide_eq_false_iff_not, Int32.lt_iff_toInt_lt, Int32.le_iff_toInt_le, am_n0, am_i0, am_n1, am_i1, am_n2, am_i2, am_n3, am_i3, am_n4, am_i4, am_n5, am_i5, am_n6, am_i6, am_n7, am_i7, am_n8, am_i8, am_n9, am_i9, am_n10, am_i10, am_n11, am_i11, am_m1, am_n511, am_i511] at *; omega)), rfl⟩
  · refine gm_iload_n d_M_isHost_4 rfl ?_
    refine gm_aload_n d_M_isHost_5 rfl (by first | exact am_rvR _ | exact am_rvN | assumption) ?_
    refine fr_gSv 7 d_M_isHost_6 f_M_137 (by decide) rfl (by first | assumption | (simp only [fr_up_at, fr_up_s, fr_sc_at, fr_sc_a, Nat.reduceEqDiff, false_and, if_false, ite_false, reduceCtorEq]; first | assumption | rfl) | rfl) ?_
    first | refine gm_icmp_geN (tgt := 16) d_M_isHost_9 (by decide) (by omega) (by omega) (fun q2 => ?_) (fun q2 => ?_) | refine gm_icmp_ge (tgt := 16) d_M_isHost_9 (by decide) (fun q2 => ?_) (fun q2 => ?_)
    · refine gm_iconst (v := nI 0) d_M_isHost_16 (by decide) ?_
      refine gm_iret d_M_isHost_17 rfl (by first | rfl | exact am_b_nar _) ?_
      exact ⟨by first | (refine am_bt ?_; (simp only [fc_sw, Bool.and_eq_true, Bool.and_eq_false_iff, decide_eq_true_eq, decide_eq_false_iff_not, Int32.lt_iff_toInt_lt, Int32.le_iff_toInt_le, am_n0, am_i0, am_n1, am_i1, am_n2, am_i2, am_n3, am_i3, am_n4, am_i4, am_n5, am_i5, am_n6, am_i6, am_n7, am_i7, am_n8, am_i8, am_n9, am_i9, am_n10, am_i10, am_n11, am_i11, am_m1, am_n511, am_i511] at *; omega)) | (refine am_bf ?_; (simp only [fc_sw, Bool.and_eq_true, Bool.and_eq_false_iff, decide_eq_true_eq, decide_eq_false_iff_not, Int32.lt_iff_toInt_lt, Int32.le_iff_toInt_le, am_n0, am_i0, am_n1, am_i1, am_n2, am_i2, am_n3, am_i3, am_n4, am_i4, am_n5, am_i5, am_n6, am_i6, am_n7, am_i7, am_n8, am_i8, am_n9, am_i9, am_n10, am_i10, am_n11, am_i11, am_m1, am_n511, am_i511] at *; omega)), rfl⟩
    · refine gm_iconst (v := nI 1) d_M_isHost_12 (by decide) ?_
      refine gm_goto (tgt := 17) d_M_isHost_13 (by decide) ?_
      refine gm_iret d_M_isHost_17 rfl (by first | rfl | exact am_b_nar _) ?_
      exact ⟨by first | (refine am_bt ?_; (simp only [fc_sw, Bool.and_eq_true, Bool.and_eq_false_iff, decide_eq_true_eq, decide_eq_false_iff_not, Int32.lt_iff_toInt_lt, Int32.le_iff_toInt_le, am_n0, am_i0, am_n1, am_i1, am_n2, am_i2, am_n3, am_i3, am_n4, am_i4, am_n5, am_i5, am_n6, am_i6, am_n7, am_i7, am_n8, am_i8, am_n9, am_i9, am_n10, am_i10, am_n11, am_i11, am_m1, am_n511, am_i511] at *; omega)) | (refine am_bf ?_; (simp only [fc_sw, Bool.and_eq_true, Bool.and_eq_false_iff, decide_eq_true_eq, decide_eq_false_iff_not, Int32.lt_iff_toInt_lt, Int32.le_iff_toInt_le, am_n0, am_i0, am_n1, am_i1, am_n2, am_i2, am_n3, am_i3, am_n4, am_i4, am_n5, am_i5, am_n6, am_i6, am_n7, am_i7, am_n8, am_i8, am_n9, am_i9, am_n10, am_i10, am_n11, am_i11, am_m1, am_n511, am_i511] at *; omega)), rfl⟩
def fr_join (r : fr_S) (e o : Nat) : fr_S := fr_up (fr_up (fr_up r 4 e (nI 2)) 5 e (nI o)) 6 e (nI 1)
theorem rf_join {e o : Nat} (he : e < 20) : gm_M (fr_P A) fr_X g y_M_join "(II)V" 0 0 [.ref (A 44), .int (nI e), .int (nI o)] (fun v r' => v = none ∧ r' = fr_join r e o) r := by
  refine gm_Mof (L0 := [some (.ref (A 44)), some (.int (nI e)), some (.int (nI o))]) pl_M_join (am_k1 rfl (am_k1 rfl (am_k1 rfl am_k0))) (Nat.le_of_ble_eq_true rfl) rfl ?_
  refine gm_aload_n d_M_join_0 rfl (by first | exact am_rvR _ | exact am_rvN | assumption) ?_
  refine fr_gA 4 d_M_join_1 f_M_7 (by decide) (by decide) ?_
  refine gm_iload_n d_M_join_4 rfl ?_
  refine gm_iconst (v := nI 2) d_M_join_5 (by decide) ?_
  refine fr_ast d_M_join_6 (by decide) rfl (show _ < 20 by omega) ?_
  refine gm_aload_n d_M_join_7 rfl (by first | exact am_rvR _ | exact am_rvN | assumption) ?_
  refine fr_gA 5 d_M_join_8 f_M_13 (by decide) (by decide) ?_
  refine gm_iload_n d_M_join_11 rfl ?_
  refine gm_iload_n d_M_join_12 rfl ?_
  refine fr_ast d_M_join_13 (by decide) rfl (show _ < 20 by omega) ?_
  refine gm_aload_n d_M_join_14 rfl (by first | exact am_rvR _ | exact am_rvN | assumption) ?_
  refine fr_gA 6 d_M_join_15 f_M_16 (by decide) (by decide) ?_
  refine gm_iload_n d_M_join_18 rfl ?_
  refine gm_iconst (v := nI 1) d_M_join_19 (by decide) ?_
  refine fr_zst d_M_join_20 (by decide) rfl (show _ < 20 by omega) (by first | rfl | exact am_b_nar _) ?_
  refine gm_vret d_M_join_21 rfl ?_
  exact ⟨rfl, rfl⟩
def fr_keep (r : fr_S) (c : Nat) (x : Int32) : fr_S := fr_up (fr_up r 40 c (nI 1)) 41 c x
theorem rf_keep {c : Nat} (x : Int32) (hc : c < 6) : gm_M (fr_P A) fr_X g y_M_keep "(II)V" 0 0 [.ref (A 44), .int (nI c), .int x] (fun v r' => v = none ∧ r' = fr_keep r c x) r := by
  refine gm_Mof (L0 := [some (.ref (A 44)), some (.int (nI c)), some (.int x)]) pl_M_keep (am_k1 rfl (am_k1 rfl (am_k1 rfl am_k0))) (Nat.le_of_ble_eq_true rfl) rfl ?_
  refine gm_aload_n d_M_keep_0 rfl (by first | exact am_rvR _ | exact am_rvN | assumption) ?_
  refine fr_gA 40 d_M_keep_1 f_M_110 (by decide) (by decide) ?_
  refine gm_iload_n d_M_keep_4 rfl ?_
  refine gm_iconst (v := nI 1) d_M_keep_5 (by decide) ?_
  refine fr_zst d_M_keep_6 (by decide) rfl (show _ < 6 by omega) (by first | rfl | exact am_b_nar _) ?_
  refine gm_aload_n d_M_keep_7 rfl (by first | exact am_rvR _ | exact am_rvN | assumption) ?_
  refine fr_gA 41 d_M_keep_8 f_M_113 (by decide) (by decide) ?_
  refine gm_iload_n d_M_keep_11 rfl ?_
  refine gm_iload_n d_M_keep_12 rfl ?_
  refine fr_ast d_M_keep_13 (by decide) rfl (show _ < 6 by omega) ?_
  refine gm_vret d_M_keep_14 rfl ?_
  exact ⟨rfl, rfl⟩
def fr_add (r : fr_S) (l n : Nat) (x0 x1 x2 x3 x4 : Int32) : fr_S := fr_up (fr_up (fr_up (fr_up (fr_up (fr_up r 26 (300 * l + 5 * n) x0) 26 (300 * l + 5 * n + 1) x1) 26 (300 * l + 5 * n + 2) x2) 26 (300 * l + 5 * n + 3) x3) 26 (300 * l + 5 * n + 4) x4) 25 l (nI (n + 1))
theorem rf_add {l n : Nat} (hl : l < 10) (hn : r.2 25 l = nI n) (h60 : n < 60) (x0 x1 x2 x3 x4 : Int32) : gm_M (fr_P A) fr_X g y_M_add "(IIIIII)V" 0 0 [.ref (A 44), .int (nI l), .int x0, .int x1, .int x2, .int x3, .int x4] (fun v r' => v = none ∧ r' = fr_add r l n x0 x1 x2 x3 x4) r := by
  refine gm_Mof (L0 := [some (.ref (A 44)), some (.int (nI l)), some (.int x0), some (.int x1), some (.int x2), some (.int x3), some (.int x4), none]) pl_M_add (am_k1 rfl (am_k1 rfl (am_k1 rfl (am_k1 rfl (am_k1 rfl (am_k1 rfl (am_k1 rfl am_k0))))))) (Nat.le_of_ble_eq_true rfl) rfl ?_
  refine gm_aload_n d_M_add_0 rfl (by first | exact am_rvR _ | exact am_rvN | assumption) ?_
  refine fr_gA 25 d_M_add_1 f_M_71 (by decide) (by decide) ?_
  refine gm_iload_n d_M_add_4 rfl ?_
  refine fr_aldv d_M_add_5 (by decide) rfl (show _ < 10 by omega) (by first | assumption | (simp only [fr_up_at, fr_up_s, fr_sc_at, fr_sc_a, Nat.reduceEqDiff, false_and, if_false, ite_false, reduceCtorEq]; first | assumption | rfl) | rfl) ?_
  refine gm_bipush (v := nI 60) d_M_add_6 (by decide) ?_
  first | refine gm_icmp_ltN (tgt := 12) d_M_add_8 (by decide) (by omega) (by omega) (fun q1 => ?_) (fun q1 => ?_) | refine gm_icmp_lt (tgt := 12) d_M_add_8 (by decide) (fun q1 => ?_) (fun q1 => ?_)
  · refine gm_sipush (v := nI 300) d_M_add_12 (by decide) ?_
    refine gm_iload_n d_M_add_15 rfl ?_
    first | refine gm_imulN d_M_add_16 ?_ | refine gm_imul d_M_add_16 ?_
    refine gm_iconst (v := nI 5) d_M_add_17 (by decide) ?_
    refine gm_aload_n d_M_add_18 rfl (by first | exact am_rvR _ | exact am_rvN | assumption) ?_
    refine fr_gA 25 d_M_add_19 f_M_71 (by decide) (by decide) ?_
    refine gm_iload_n d_M_add_22 rfl ?_
    refine fr_aldv d_M_add_23 (by decide) rfl (show _ < 10 by omega) (by first | assumption | (simp only [fr_up_at, fr_up_s, fr_sc_at, fr_sc_a, Nat.reduceEqDiff, false_and, if_false, ite_false, reduceCtorEq]; first | assumption | rfl) | rfl) ?_
    first | refine gm_imulN d_M_add_24 ?_ | refine gm_imul d_M_add_24 ?_
    first | refine gm_iaddN d_M_add_25 ?_ | refine gm_iadd d_M_add_25 ?_
    refine gm_istore (L1 := [_, _, _, _, _, _, _, _]) d_M_add_26 (by decide) rfl ?_
    refine gm_aload_n d_M_add_28 rfl (by first | exact am_rvR _ | exact am_rvN | assumption) ?_
    refine fr_gA 26 d_M_add_29 f_M_74 (by decide) (by decide) ?_
    refine gm_iload d_M_add_32 rfl ?_
    refine gm_iload_n d_M_add_34 rfl ?_
    refine fr_ast d_M_add_35 (by decide) rfl (show _ < 3000 by omega) ?_
    refine gm_aload_n d_M_add_36 rfl (by first | exact am_rvR _ | exact am_rvN | assumption) ?_
    refine fr_gA 26 d_M_add_37 f_M_74 (by decide) (by decide) ?_
    refine gm_iload d_M_add_40 rfl ?_
    refine gm_iconst (v := nI 1) d_M_add_42 (by decide) ?_
    first | refine gm_iaddN d_M_add_43 ?_ | refine gm_iadd d_M_add_43 ?_
    refine gm_iload_n d_M_add_44 rfl ?_
    refine fr_ast d_M_add_45 (by decide) rfl (show _ < 3000 by omega) ?_
    refine gm_aload_n d_M_add_46 rfl (by first | exact am_rvR _ | exact am_rvN | assumption) ?_
    refine fr_gA 26 d_M_add_47 f_M_74 (by decide) (by decide) ?_
    refine gm_iload d_M_add_50 rfl ?_
    refine gm_iconst (v := nI 2) d_M_add_52 (by decide) ?_
    first | refine gm_iaddN d_M_add_53 ?_ | refine gm_iadd d_M_add_53 ?_
    refine gm_iload d_M_add_54 rfl ?_
    refine fr_ast d_M_add_56 (by decide) rfl (show _ < 3000 by omega) ?_
    refine gm_aload_n d_M_add_57 rfl (by first | exact am_rvR _ | exact am_rvN | assumption) ?_
    refine fr_gA 26 d_M_add_58 f_M_74 (by decide) (by decide) ?_
    refine gm_iload d_M_add_61 rfl ?_
    refine gm_iconst (v := nI 3) d_M_add_63 (by decide) ?_
    first | refine gm_iaddN d_M_add_64 ?_ | refine gm_iadd d_M_add_64 ?_
    refine gm_iload d_M_add_65 rfl ?_
    refine fr_ast d_M_add_67 (by decide) rfl (show _ < 3000 by omega) ?_
    refine gm_aload_n d_M_add_68 rfl (by first | exact am_rvR _ | exact am_rvN | assumption) ?_
    refine fr_gA 26 d_M_add_69 f_M_74 (by decide) (by decide) ?_
    refine gm_iload d_M_add_72 rfl ?_
    refine gm_iconst (v := nI 4) d_M_add_74 (by decide) ?_
    first | refine gm_iaddN d_M_add_75 ?_ | refine gm_iadd d_M_add_75 ?_
    refine gm_iload d_M_add_76 rfl ?_
    refine fr_ast d_M_add_78 (by decide) rfl (show _ < 3000 by omega) ?_
    refine gm_aload_n d_M_add_79 rfl (by first | exact am_rvR _ | exact am_rvN | assumption) ?_
    refine fr_gA 25 d_M_add_80 f_M_71 (by decide) (by decide) ?_
    refine gm_iload_n d_M_add_83 rfl ?_
    refine gm_dup2 d_M_add_84 rfl rfl ?_
    refine fr_aldv d_M_add_85 (by decide) rfl (show _ < 10 by omega) (by first | assumption | (simp only [fr_up_at, fr_up_s, fr_sc_at, fr_sc_a, Nat.reduceEqDiff, false_and, if_false, ite_false, reduceCtorEq]; first | assumption | rfl) | rfl) ?_
    refine gm_iconst (v := nI 1) d_M_add_86 (by decide) ?_
    first | refine gm_iaddN d_M_add_87 ?_ | refine gm_iadd d_M_add_87 ?_
    refine fr_ast d_M_add_88 (by decide) rfl (show _ < 10 by omega) ?_
    refine gm_vret d_M_add_89 rfl ?_
    first | exact ⟨rfl, rfl⟩ | exact absurd q1 (by omega)
  · refine gm_vret d_M_add_11 rfl ?_
    first | exact ⟨rfl, rfl⟩ | exact absurd q1 (by omega)
theorem rf_portOf {c k e : Nat} (hc : 5 * c + k < 30) (he : r.2 39 (5 * c + k) = nI (5 * (e / 4) + e % 4)) (h20 : e < 20) : gm_M (fr_P A) fr_X g y_M_portOf "(II)I" 0 0 [.ref (A 44), .int (nI c), .int (nI k)] (fun v r' => v = some (.int (nI e)) ∧ r' = r) r := by
  refine gm_Mof (L0 := [some (.ref (A 44)), some (.int (nI c)), some (.int (nI k)), none]) pl_M_portOf (am_k1 rfl (am_k1 rfl (am_k1 rfl am_k0))) (Nat.le_of_ble_eq_true rfl) rfl ?_
  refine gm_aload_n d_M_portOf_0 rfl (by first | exact am_rvR _ | exact am_rvN | assumption) ?_
  refine fr_gA 39 d_M_portOf_1 f_M_107 (by decide) (by decide) ?_
  refine gm_iconst (v := nI 5) d_M_portOf_4 (by decide) ?_
  refine gm_iload_n d_M_portOf_5 rfl ?_
  first | refine gm_imulN d_M_portOf_6 ?_ | refine gm_imul d_M_portOf_6 ?_
  refine gm_iload_n d_M_portOf_7 rfl ?_
  first | refine gm_iaddN d_M_portOf_8 ?_ | refine gm_iadd d_M_portOf_8 ?_
  refine fr_aldv d_M_portOf_9 (by decide) rfl (show _ < 30 by omega) (by first | assumption | (simp only [fr_up_at, fr_up_s, fr_sc_at, fr_sc_a, Nat.reduceEqDiff, false_and, if_false, ite_false, reduceCtorEq]; first | assumption | rfl) | rfl) ?_
  refine gm_istore_n (L1 := [_, _, _, _]) d_M_portOf_10 (by decide) rfl ?_
  refine gm_iconst (v := nI 4) d_M_portOf_11 (by decide) ?_
  refine gm_iload_n d_M_portOf_12 rfl ?_
  refine gm_iconst (v := nI 5) d_M_portOf_13 (by decide) ?_
  first | refine gm_idivN d_M_portOf_14 (by omega) (by omega) (by omega) ?_ | refine gm_idiv d_M_portOf_14 (by decide) ?_
  first | refine gm_imulN d_M_portOf_15 ?_ | refine gm_imul d_M_portOf_15 ?_
  refine gm_iload_n d_M_portOf_16 rfl ?_
  refine gm_iconst (v := nI 5) d_M_portOf_17 (by decide) ?_
  first | refine gm_iremN d_M_portOf_18 (by omega) (by omega) (by omega) ?_ | refine gm_irem d_M_portOf_18 (by decide) ?_
  first | refine gm_iaddN d_M_portOf_19 ?_ | refine gm_iadd d_M_portOf_19 ?_
  refine gm_iret d_M_portOf_20 rfl rfl ?_
  exact ⟨by congr 2; congr 1; omega, rfl⟩
end REF
