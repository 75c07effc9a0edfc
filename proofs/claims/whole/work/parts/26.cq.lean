/-! the class: what is asked -/
section CQA
variable {g : am_G} {e nw ns room idle : Nat} {A : Nat → Nat} {s : cl_S} {S : am_S}
theorem fc_sw_nat {n : Nat} {x : Int32} (hn : n ≤ 5) (h : fc_sw n x = true) : ∃ i, i < n ∧ x = nI i := by
  unfold fc_sw at h
  simp only [Bool.and_eq_true, decide_eq_true_eq] at h
  rcases pk_ix x (n := n) (by omega) with h1 | h1 | h1
  · exact absurd h.1 (by rw [Int32.le_iff_toInt_le]; rw [Int32.lt_iff_toInt_lt] at h1; omega)
  · exact absurd h.2 (by rw [Int32.lt_iff_toInt_lt]; rw [Int32.le_iff_toInt_le] at h1; omega)
  · exact h1
theorem fc_pt_nat {n : Nat} {x p : Int32} (hn : n ≤ 5) (h : fc_pt n x p = true) : ∃ i q, i < n ∧ q < 4 ∧ x = nI i ∧ p = nI q := by
  unfold fc_pt at h
  rw [Bool.and_eq_true] at h
  obtain ⟨i, hi, rfl⟩ := fc_sw_nat hn h.1
  have h2 : fc_sw 4 p = true := by
    unfold fc_sw
    exact h.2
  obtain ⟨q, hq, rfl⟩ := fc_sw_nat (by omega) h2
  exact ⟨i, q, hi, hq, rfl, rfl⟩
theorem fc_e_nat {i q : Nat} (hi : i < 5) (hq : q < 4) : fc_e (nI i) (nI q) = 4 * i + q := by
  unfold fc_e
  rw [nI_clamp (by omega), nI_clamp (by omega)]
theorem cq_isSwitch (hS : cl_P e nw ns room idle A s S) (hn : ns ≤ 5) (x : Int32) : am_M g y_FF_isSwitch "(I)Z" 0 0 [.ref (A 0), .int x] S (fun v S' => v = some (.int (am_b (fc_sw ns x))) ∧ S' = S) := by
  have hS0 := hS.1.1
  refine am_Mof (L0 := [some (.ref (A 0)), some (.int x)]) pl_FF_isSwitch (am_k1 rfl (am_k1 rfl am_k0)) (Nat.le_of_ble_eq_true rfl) rfl ?_
  refine am_iload_n d_FF_isSwitch_0 rfl ?_
  first | refine am_if_ltN (tgt := 17) d_FF_isSwitch_1 (by decide) (by omega) (fun q1 => ?_) (fun q1 => ?_) | refine am_if_lt (tgt := 17) d_FF_isSwitch_1 (by decide) (fun q1 => ?_) (fun q1 => ?_)
  · refine am_iconst (v := nI 0) d_FF_isSwitch_17 (by decide) ?_
    refine am_iret d_FF_isSwitch_18 rfl (by first | rfl | exact am_b_nar _) ?_
    exact ⟨by first | (refine am_bt ?_; (simp only [fc_sw, Bool.and_eq_true, Bool.and_eq_false_iff, decide_eq_true_eq, decide_eq_false_iff_not, Int32.lt_iff_toInt_lt, Int32.le_iff_toInt_le, am_n0, am_i0, am_n1, am_i1, am_n2, am_i2, am_n3, am_i3, am_n4, am_i4, am_n5, am_i5, am_n6, am_i6, am_n7, am_i7, am_n8, am_i8, am_n9, am_i9, am_n10, am_i10, am_n11, am_i11, am_m1, am_n511, am_i511] at *; omega)) | (refine am_bf ?_; (simp only [fc_sw, Bool.and_eq_true, Bool.and_eq_false_iff, decide_eq_true_eq, decide_eq_false_iff_not, Int32.lt_iff_toInt_lt, Int32.le_iff_toInt_le, am_n0, am_i0, am_n1, am_i1, am_n2, am_i2, am_n3, am_i3, am_n4, am_i4, am_n5, am_i5, am_n6, am_i6, am_n7, am_i7, am_n8, am_i8, am_n9, am_i9, am_n10, am_i10, am_n11, am_i11, am_m1, am_n511, am_i511] at *; omega)), rfl⟩
  · refine am_iload_n d_FF_isSwitch_4 rfl ?_
    refine am_aload_n d_FF_isSwitch_5 rfl (by first | exact am_rvR _ | exact am_rvN | assumption) ?_
    refine am_get d_FF_isSwitch_6 f_FF_18 (cl_fab hS) (by rfl) ?_
    refine am_alen (v := nI ns) d_FF_isSwitch_9 am_kN_ok (cl_nodes hS) (by simp; rfl) ?_
    first | refine am_icmp_geN (tgt := 17) d_FF_isSwitch_10 (by decide) (by omega) (by omega) (fun q2 => ?_) (fun q2 => ?_) | refine am_icmp_ge (tgt := 17) d_FF_isSwitch_10 (by decide) (fun q2 => ?_) (fun q2 => ?_)
    · refine am_iconst (v := nI 0) d_FF_isSwitch_17 (by decide) ?_
      refine am_iret d_FF_isSwitch_18 rfl (by first | rfl | exact am_b_nar _) ?_
      exact ⟨by first | (refine am_bt ?_; (simp only [fc_sw, Bool.and_eq_true, Bool.and_eq_false_iff, decide_eq_true_eq, decide_eq_false_iff_not, Int32.lt_iff_toInt_lt, Int32.le_iff_toInt_le, am_n0, am_i0, am_n1, am_i1, am_n2, am_i2, am_n3, am_i3, am_n4, am_i4, am_n5, am_i5, am_n6, am_i6, am_n7, am_i7, am_n8, am_i8, am_n9, am_i9, am_n10, am_i10, am_n11, am_i11, am_m1, am_n511, am_i511] at *; omega)) | (refine am_bf ?_; (simp only [fc_sw, Bool.and_eq_true, Bool.and_eq_false_iff, decide_eq_true_eq, decide_eq_false_iff_not, Int32.lt_iff_toInt_lt, Int32.le_iff_toInt_le, am_n0, am_i0, am_n1, am_i1, am_n2, am_i2, am_n3, am_i3, am_n4, am_i4, am_n5, am_i5, am_n6, am_i6, am_n7, am_i7, am_n8, am_i8, am_n9, am_i9, am_n10, am_i10, am_n11, am_i11, am_m1, am_n511, am_i511] at *; omega)), rfl⟩
    · refine am_iconst (v := nI 1) d_FF_isSwitch_13 (by decide) ?_
      refine am_goto (tgt := 18) d_FF_isSwitch_14 (by decide) ?_
      refine am_iret d_FF_isSwitch_18 rfl (by first | rfl | exact am_b_nar _) ?_
      exact ⟨by first | (refine am_bt ?_; (simp only [fc_sw, Bool.and_eq_true, Bool.and_eq_false_iff, decide_eq_true_eq, decide_eq_false_iff_not, Int32.lt_iff_toInt_lt, Int32.le_iff_toInt_le, am_n0, am_i0, am_n1, am_i1, am_n2, am_i2, am_n3, am_i3, am_n4, am_i4, am_n5, am_i5, am_n6, am_i6, am_n7, am_i7, am_n8, am_i8, am_n9, am_i9, am_n10, am_i10, am_n11, am_i11, am_m1, am_n511, am_i511] at *; omega)) | (refine am_bf ?_; (simp only [fc_sw, Bool.and_eq_true, Bool.and_eq_false_iff, decide_eq_true_eq, decide_eq_false_iff_not, Int32.lt_iff_toInt_lt, Int32.le_iff_toInt_le, am_n0, am_i0, am_n1, am_i1, am_n2, am_i2, am_n3, am_i3, am_n4, am_i4, am_n5, am_i5, am_n6, am_i6, am_n7, am_i7, am_n8, am_i8, am_n9, am_i9, am_n10, am_i10, am_n11, am_i11, am_m1, am_n511, am_i511] at *; omega)), rfl⟩
theorem cq_isPort (hS : cl_P e nw ns room idle A s S) (hn : ns ≤ 5) (x p : Int32) : am_M g y_FF_isPort "(II)Z" 1 21 [.ref (A 0), .int x, .int p] S (fun v S' => v = some (.int (am_b (fc_pt ns x p))) ∧ S' = S) := by
  refine am_Mof (L0 := [some (.ref (A 0)), some (.int x), some (.int p)]) pl_FF_isPort (am_k1 rfl (am_k1 rfl (am_k1 rfl am_k0))) (Nat.le_of_ble_eq_true rfl) rfl ?_
  refine am_aload_n d_FF_isPort_0 rfl (by first | exact am_rvR _ | exact am_rvN | assumption) ?_
  refine am_iload_n d_FF_isPort_1 rfl ?_
  refine am_cV (b := A 0) d_FF_isPort_2 v_FF_103 (vs := [.int x]) (st := []) rfl rfl (by decide) (Nat.le_of_ble_eq_true rfl) (cl_fab hS) (cq_isSwitch hS hn x) ?_
  rintro v S1 ⟨rfl, rfl⟩
  first | refine am_if_eqB (tgt := 21) d_FF_isPort_5 (by decide) (fun q1 => ?_) (fun q1 => ?_) | refine am_if_eqN (tgt := 21) d_FF_isPort_5 (by decide) (by omega) (fun q1 => ?_) (fun q1 => ?_) | refine am_if_eq (tgt := 21) d_FF_isPort_5 (by decide) (fun q1 => ?_) (fun q1 => ?_)
  · refine am_iconst (v := nI 0) d_FF_isPort_21 (by decide) ?_
    refine am_iret d_FF_isPort_22 rfl (by first | rfl | exact am_b_nar _) ?_
    exact ⟨by first | (refine am_bt ?_; (simp only [fc_pt, fc_sw, Bool.and_eq_true, Bool.and_eq_false_iff, decide_eq_true_eq, decide_eq_false_iff_not, Int32.lt_iff_toInt_lt, Int32.le_iff_toInt_le, am_n0, am_i0, am_n1, am_i1, am_n2, am_i2, am_n3, am_i3, am_n4, am_i4, am_n5, am_i5, am_n6, am_i6, am_n7, am_i7, am_n8, am_i8, am_n9, am_i9, am_n10, am_i10, am_n11, am_i11, am_m1, am_n511, am_i511] at *; omega)) | (refine am_bf ?_; (simp only [fc_pt, fc_sw, Bool.and_eq_true, Bool.and_eq_false_iff, decide_eq_true_eq, decide_eq_false_iff_not, Int32.lt_iff_toInt_lt, Int32.le_iff_toInt_le, am_n0, am_i0, am_n1, am_i1, am_n2, am_i2, am_n3, am_i3, am_n4, am_i4, am_n5, am_i5, am_n6, am_i6, am_n7, am_i7, am_n8, am_i8, am_n9, am_i9, am_n10, am_i10, am_n11, am_i11, am_m1, am_n511, am_i511] at *; omega)), rfl⟩
  · refine am_iload_n d_FF_isPort_8 rfl ?_
    first | refine am_if_ltN (tgt := 21) d_FF_isPort_9 (by decide) (by omega) (fun q2 => ?_) (fun q2 => ?_) | refine am_if_lt (tgt := 21) d_FF_isPort_9 (by decide) (fun q2 => ?_) (fun q2 => ?_)
    · refine am_iconst (v := nI 0) d_FF_isPort_21 (by decide) ?_
      refine am_iret d_FF_isPort_22 rfl (by first | rfl | exact am_b_nar _) ?_
      exact ⟨by first | (refine am_bt ?_; (simp only [fc_pt, fc_sw, Bool.and_eq_true, Bool.and_eq_false_iff, decide_eq_true_eq, decide_eq_false_iff_not, Int32.lt_iff_toInt_lt, Int32.le_iff_toInt_le, am_n0, am_i0, am_n1, am_i1, am_n2, am_i2, am_n3, am_i3, am_n4, am_i4, am_n5, am_i5, am_n6, am_i6, am_n7, am_i7, am_n8, am_i8, am_n9, am_i9, am_n10, am_i10, am_n11, am_i11, am_m1, am_n511, am_i511] at *; omega)) | (refine am_bf ?_; (simp only [fc_pt, fc_sw, Bool.and_eq_true, Bool.and_eq_false_iff, decide_eq_true_eq, decide_eq_false_iff_not, Int32.lt_iff_toInt_lt, Int32.le_iff_toInt_le, am_n0, am_i0, am_n1, am_i1, am_n2, am_i2, am_n3, am_i3, am_n4, am_i4, am_n5, am_i5, am_n6, am_i6, am_n7, am_i7, am_n8, am_i8, am_n9, am_i9, am_n10, am_i10, am_n11, am_i11, am_m1, am_n511, am_i511] at *; omega)), rfl⟩
    · refine am_iload_n d_FF_isPort_12 rfl ?_
      refine am_iconst (v := nI 4) d_FF_isPort_13 (by decide) ?_
      first | refine am_icmp_geN (tgt := 21) d_FF_isPort_14 (by decide) (by omega) (by omega) (fun q3 => ?_) (fun q3 => ?_) | refine am_icmp_ge (tgt := 21) d_FF_isPort_14 (by decide) (fun q3 => ?_) (fun q3 => ?_)
      · refine am_iconst (v := nI 0) d_FF_isPort_21 (by decide) ?_
        refine am_iret d_FF_isPort_22 rfl (by first | rfl | exact am_b_nar _) ?_
        exact ⟨by first | (refine am_bt ?_; (simp only [fc_pt, fc_sw, Bool.and_eq_true, Bool.and_eq_false_iff, decide_eq_true_eq, decide_eq_false_iff_not, Int32.lt_iff_toInt_lt, Int32.le_iff_toInt_le, am_n0, am_i0, am_n1, am_i1, am_n2, am_i2, am_n3, am_i3, am_n4, am_i4, am_n5, am_i5, am_n6, am_i6, am_n7, am_i7, am_n8, am_i8, am_n9, am_i9, am_n10, am_i10, am_n11, am_i11, am_m1, am_n511, am_i511] at *; omega)) | (refine am_bf ?_; (simp only [fc_pt, fc_sw, Bool.and_eq_true, Bool.and_eq_false_iff, decide_eq_true_eq, decide_eq_false_iff_not, Int32.lt_iff_toInt_lt, Int32.le_iff_toInt_le, am_n0, am_i0, am_n1, am_i1, am_n2, am_i2, am_n3, am_i3, am_n4, am_i4, am_n5, am_i5, am_n6, am_i6, am_n7, am_i7, am_n8, am_i8, am_n9, am_i9, am_n10, am_i10, am_n11, am_i11, am_m1, am_n511, am_i511] at *; omega)), rfl⟩
      · refine am_iconst (v := nI 1) d_FF_isPort_17 (by decide) ?_
        refine am_goto (tgt := 22) d_FF_isPort_18 (by decide) ?_
        refine am_iret d_FF_isPort_22 rfl (by first | rfl | exact am_b_nar _) ?_
        exact ⟨by first | (refine am_bt ?_; (simp only [fc_pt, fc_sw, Bool.and_eq_true, Bool.and_eq_false_iff, decide_eq_true_eq, decide_eq_false_iff_not, Int32.lt_iff_toInt_lt, Int32.le_iff_toInt_le, am_n0, am_i0, am_n1, am_i1, am_n2, am_i2, am_n3, am_i3, am_n4, am_i4, am_n5, am_i5, am_n6, am_i6, am_n7, am_i7, am_n8, am_i8, am_n9, am_i9, am_n10, am_i10, am_n11, am_i11, am_m1, am_n511, am_i511] at *; omega)) | (refine am_bf ?_; (simp only [fc_pt, fc_sw, Bool.and_eq_true, Bool.and_eq_false_iff, decide_eq_true_eq, decide_eq_false_iff_not, Int32.lt_iff_toInt_lt, Int32.le_iff_toInt_le, am_n0, am_i0, am_n1, am_i1, am_n2, am_i2, am_n3, am_i3, am_n4, am_i4, am_n5, am_i5, am_n6, am_i6, am_n7, am_i7, am_n8, am_i8, am_n9, am_i9, am_n10, am_i10, am_n11, am_i11, am_m1, am_n511, am_i511] at *; omega)), rfl⟩
theorem cq_isHost (hS : cl_P e nw ns room idle A s S) (I : fc_iH ns s.1) (x : Int32) : am_M g y_FF_isHost "(I)Z" 0 0 [.ref (A 0), .int x] S (fun v S' => v = some (.int (am_b (fc_hs s.1 x))) ∧ S' = S) := by
  obtain ⟨⟨now, h0⟩, -⟩ := I
  have hf := cl_fab hS
  have e1 : fc_get s.1 0 0 1 = nI (s.1 1).length := by unfold fc_get; rw [h0]; rfl
  rw [e1] at hf
  refine am_Mof (L0 := [some (.ref (A 0)), some (.int x)]) pl_FF_isHost (am_k1 rfl (am_k1 rfl am_k0)) (Nat.le_of_ble_eq_true rfl) rfl ?_
  refine am_iload_n d_FF_isHost_0 rfl ?_
  first | refine am_if_ltN (tgt := 16) d_FF_isHost_1 (by decide) (by omega) (fun q1 => ?_) (fun q1 => ?_) | refine am_if_lt (tgt := 16) d_FF_isHost_1 (by decide) (fun q1 => ?_) (fun q1 => ?_)
  · refine am_iconst (v := nI 0) d_FF_isHost_16 (by decide) ?_
    refine am_iret d_FF_isHost_17 rfl (by first | rfl | exact am_b_nar _) ?_
    exact ⟨by first | (refine am_bt ?_; (simp only [fc_hs, fc_len, Bool.and_eq_true, Bool.and_eq_false_iff, decide_eq_true_eq, decide_eq_false_iff_not, Int32.lt_iff_toInt_lt, Int32.le_iff_toInt_le, am_n0, am_i0, am_n1, am_i1, am_n2, am_i2, am_n3, am_i3, am_n4, am_i4, am_n5, am_i5, am_n6, am_i6, am_n7, am_i7, am_n8, am_i8, am_n9, am_i9, am_n10, am_i10, am_n11, am_i11, am_m1, am_n511, am_i511] at *; omega)) | (refine am_bf ?_; (simp only [fc_hs, fc_len, Bool.and_eq_true, Bool.and_eq_false_iff, decide_eq_true_eq, decide_eq_false_iff_not, Int32.lt_iff_toInt_lt, Int32.le_iff_toInt_le, am_n0, am_i0, am_n1, am_i1, am_n2, am_i2, am_n3, am_i3, am_n4, am_i4, am_n5, am_i5, am_n6, am_i6, am_n7, am_i7, am_n8, am_i8, am_n9, am_i9, am_n10, am_i10, am_n11, am_i11, am_m1, am_n511, am_i511] at *; omega)), rfl⟩
  · refine am_iload_n d_FF_isHost_4 rfl ?_
    refine am_aload_n d_FF_isHost_5 rfl (by first | exact am_rvR _ | exact am_rvN | assumption) ?_
    refine am_get d_FF_isHost_6 f_FF_41 hf (by rfl) ?_
    first | refine am_icmp_geN (tgt := 16) d_FF_isHost_9 (by decide) (by omega) (by omega) (fun q2 => ?_) (fun q2 => ?_) | refine am_icmp_ge (tgt := 16) d_FF_isHost_9 (by decide) (fun q2 => ?_) (fun q2 => ?_)
    · refine am_iconst (v := nI 0) d_FF_isHost_16 (by decide) ?_
      refine am_iret d_FF_isHost_17 rfl (by first | rfl | exact am_b_nar _) ?_
      exact ⟨by first | (refine am_bt ?_; (simp only [fc_hs, fc_len, Bool.and_eq_true, Bool.and_eq_false_iff, decide_eq_true_eq, decide_eq_false_iff_not, Int32.lt_iff_toInt_lt, Int32.le_iff_toInt_le, am_n0, am_i0, am_n1, am_i1, am_n2, am_i2, am_n3, am_i3, am_n4, am_i4, am_n5, am_i5, am_n6, am_i6, am_n7, am_i7, am_n8, am_i8, am_n9, am_i9, am_n10, am_i10, am_n11, am_i11, am_m1, am_n511, am_i511] at *; omega)) | (refine am_bf ?_; (simp only [fc_hs, fc_len, Bool.and_eq_true, Bool.and_eq_false_iff, decide_eq_true_eq, decide_eq_false_iff_not, Int32.lt_iff_toInt_lt, Int32.le_iff_toInt_le, am_n0, am_i0, am_n1, am_i1, am_n2, am_i2, am_n3, am_i3, am_n4, am_i4, am_n5, am_i5, am_n6, am_i6, am_n7, am_i7, am_n8, am_i8, am_n9, am_i9, am_n10, am_i10, am_n11, am_i11, am_m1, am_n511, am_i511] at *; omega)), rfl⟩
    · refine am_iconst (v := nI 1) d_FF_isHost_12 (by decide) ?_
      refine am_goto (tgt := 17) d_FF_isHost_13 (by decide) ?_
      refine am_iret d_FF_isHost_17 rfl (by first | rfl | exact am_b_nar _) ?_
      exact ⟨by first | (refine am_bt ?_; (simp only [fc_hs, fc_len, Bool.and_eq_true, Bool.and_eq_false_iff, decide_eq_true_eq, decide_eq_false_iff_not, Int32.lt_iff_toInt_lt, Int32.le_iff_toInt_le, am_n0, am_i0, am_n1, am_i1, am_n2, am_i2, am_n3, am_i3, am_n4, am_i4, am_n5, am_i5, am_n6, am_i6, am_n7, am_i7, am_n8, am_i8, am_n9, am_i9, am_n10, am_i10, am_n11, am_i11, am_m1, am_n511, am_i511] at *; omega)) | (refine am_bf ?_; (simp only [fc_hs, fc_len, Bool.and_eq_true, Bool.and_eq_false_iff, decide_eq_true_eq, decide_eq_false_iff_not, Int32.lt_iff_toInt_lt, Int32.le_iff_toInt_le, am_n0, am_i0, am_n1, am_i1, am_n2, am_i2, am_n3, am_i3, am_n4, am_i4, am_n5, am_i5, am_n6, am_i6, am_n7, am_i7, am_n8, am_i8, am_n9, am_i9, am_n10, am_i10, am_n11, am_i11, am_m1, am_n511, am_i511] at *; omega)), rfl⟩
theorem cq_isEnd (hS : cl_P e nw ns room idle A s S) (hn : ns ≤ 5) (x p : Int32) : am_M g y_FF_isEnd "(II)Z" 2 43 [.ref (A 0), .int x, .int p] S (fun v S' => v = some (.int (am_b (fc_en ns s.1 x p))) ∧ S' = S) := by
  refine am_Mof (L0 := [some (.ref (A 0)), some (.int x), some (.int p)]) pl_FF_isEnd (am_k1 rfl (am_k1 rfl (am_k1 rfl am_k0))) (Nat.le_of_ble_eq_true rfl) rfl ?_
  refine am_aload_n d_FF_isEnd_0 rfl (by first | exact am_rvR _ | exact am_rvN | assumption) ?_
  refine am_iload_n d_FF_isEnd_1 rfl ?_
  refine am_iload_n d_FF_isEnd_2 rfl ?_
  refine am_cV (b := A 0) d_FF_isEnd_3 v_FF_47 (vs := [.int x, .int p]) (st := []) rfl rfl (by decide) (Nat.le_of_ble_eq_true rfl) (cl_fab hS) (cq_isPort hS hn x p) ?_
  rintro v S1 ⟨rfl, rfl⟩
  first | refine am_if_eqB (tgt := 31) d_FF_isEnd_6 (by decide) (fun q1 => ?_) (fun q1 => ?_) | refine am_if_eqN (tgt := 31) d_FF_isEnd_6 (by decide) (by omega) (fun q1 => ?_) (fun q1 => ?_) | refine am_if_eq (tgt := 31) d_FF_isEnd_6 (by decide) (fun q1 => ?_) (fun q1 => ?_)
  · refine am_iconst (v := nI 0) d_FF_isEnd_31 (by decide) ?_
    refine am_iret d_FF_isEnd_32 rfl (by first | rfl | exact am_b_nar _) ?_
    first | exact ⟨am_bf (by simp only [fc_en, q1]; rfl), rfl⟩ | exact ⟨am_bt (by simp only [fc_en, q1, fc_e_nat (show i < 5 by omega) hp]; simpa using q2), rfl⟩ | exact ⟨am_bf (by simp only [fc_en, q1, fc_e_nat (show i < 5 by omega) hp]; simpa using q2), rfl⟩
  · obtain ⟨i, q, hi, hp, rfl, rfl⟩ := fc_pt_nat hn q1
    have hpt := cl_port hS (q := 4 * i + q) (by omega)
    refine am_aload_n d_FF_isEnd_9 rfl (by first | exact am_rvR _ | exact am_rvN | assumption) ?_
    refine am_get d_FF_isEnd_10 f_FF_18 (cl_fab hS) (by rfl) ?_
    refine am_iload_n d_FF_isEnd_13 rfl ?_
    refine am_aald d_FF_isEnd_14 am_kN_ok rfl (cl_nodes hS) rfl (cl_nodes_at hi) (by simp; omega) ?_
    refine am_get d_FF_isEnd_15 f_FF_51 (cl_node hS hi) (by rfl) ?_
    refine am_iload_n d_FF_isEnd_18 rfl ?_
    refine am_aald d_FF_isEnd_19 am_kP_ok rfl (cl_ports hS hi) rfl (cl_ports_at hp) (by show 4 < 2 ^ 31; decide) ?_
    refine am_get d_FF_isEnd_20 f_FF_86 hpt (by rfl) ?_
    refine am_iconst (v := (-1)) d_FF_isEnd_23 (by decide) ?_
    first | refine am_icmp_eqN (tgt := 31) d_FF_isEnd_24 (by decide) (by omega) (by omega) (fun q2 => ?_) (fun q2 => ?_) | refine am_icmp_eq (tgt := 31) d_FF_isEnd_24 (by decide) (fun q2 => ?_) (fun q2 => ?_)
    · refine am_iconst (v := nI 0) d_FF_isEnd_31 (by decide) ?_
      refine am_iret d_FF_isEnd_32 rfl (by first | rfl | exact am_b_nar _) ?_
      first | exact ⟨am_bf (by simp only [fc_en, q1]; rfl), rfl⟩ | exact ⟨am_bt (by simp only [fc_en, q1, fc_e_nat (show i < 5 by omega) hp]; simpa using q2), rfl⟩ | exact ⟨am_bf (by simp only [fc_en, q1, fc_e_nat (show i < 5 by omega) hp]; simpa using q2), rfl⟩
    · refine am_iconst (v := nI 1) d_FF_isEnd_27 (by decide) ?_
      refine am_goto (tgt := 32) d_FF_isEnd_28 (by decide) ?_
      refine am_iret d_FF_isEnd_32 rfl (by first | rfl | exact am_b_nar _) ?_
      first | exact ⟨am_bf (by simp only [fc_en, q1]; rfl), rfl⟩ | exact ⟨am_bt (by simp only [fc_en, q1, fc_e_nat (show i < 5 by omega) hp]; simpa using q2), rfl⟩ | exact ⟨am_bf (by simp only [fc_en, q1, fc_e_nat (show i < 5 by omega) hp]; simpa using q2), rfl⟩
theorem cq_isGuard (hS : cl_P e nw ns room idle A s S) (hn : ns ≤ 5) (x k : Int32) : am_M g y_FF_isGuard "(II)Z" 1 21 [.ref (A 0), .int x, .int k] S (fun v S' => v = some (.int (am_b (fc_gd ns s.1 x k))) ∧ S' = S) := by
  refine am_Mof (L0 := [some (.ref (A 0)), some (.int x), some (.int k)]) pl_FF_isGuard (am_k1 rfl (am_k1 rfl (am_k1 rfl am_k0))) (Nat.le_of_ble_eq_true rfl) rfl ?_
  refine am_aload_n d_FF_isGuard_0 rfl (by first | exact am_rvR _ | exact am_rvN | assumption) ?_
  refine am_iload_n d_FF_isGuard_1 rfl ?_
  refine am_cV (b := A 0) d_FF_isGuard_2 v_FF_103 (vs := [.int x]) (st := []) rfl rfl (by decide) (Nat.le_of_ble_eq_true rfl) (cl_fab hS) (cq_isSwitch hS hn x) ?_
  rintro v S1 ⟨rfl, rfl⟩
  first | refine am_if_eqB (tgt := 32) d_FF_isGuard_5 (by decide) (fun q1 => ?_) (fun q1 => ?_) | refine am_if_eqN (tgt := 32) d_FF_isGuard_5 (by decide) (by omega) (fun q1 => ?_) (fun q1 => ?_) | refine am_if_eq (tgt := 32) d_FF_isGuard_5 (by decide) (fun q1 => ?_) (fun q1 => ?_)
  · refine am_iconst (v := nI 0) d_FF_isGuard_32 (by decide) ?_
    refine am_iret d_FF_isGuard_33 rfl (by first | rfl | exact am_b_nar _) ?_
    first | exact ⟨am_bf (by simp only [fc_gd, q1]; rfl), rfl⟩ | (refine ⟨?_, rfl⟩; simp only [fc_gd, q1, hcl, fc_len, Bool.true_and]; first | (refine am_bt ?_; (simp only [fc_len, Bool.and_eq_true, Bool.and_eq_false_iff, decide_eq_true_eq, decide_eq_false_iff_not, Int32.lt_iff_toInt_lt, Int32.le_iff_toInt_le, am_n0, am_i0, am_n1, am_i1, am_n2, am_i2, am_n3, am_i3, am_n4, am_i4, am_n5, am_i5, am_n6, am_i6, am_n7, am_i7, am_n8, am_i8, am_n9, am_i9, am_n10, am_i10, am_n11, am_i11, am_m1, am_n511, am_i511] at *; omega)) | (refine am_bf ?_; (simp only [fc_len, Bool.and_eq_true, Bool.and_eq_false_iff, decide_eq_true_eq, decide_eq_false_iff_not, Int32.lt_iff_toInt_lt, Int32.le_iff_toInt_le, am_n0, am_i0, am_n1, am_i1, am_n2, am_i2, am_n3, am_i3, am_n4, am_i4, am_n5, am_i5, am_n6, am_i6, am_n7, am_i7, am_n8, am_i8, am_n9, am_i9, am_n10, am_i10, am_n11, am_i11, am_m1, am_n511, am_i511] at *; omega)))
  · obtain ⟨i, hi, rfl⟩ := fc_sw_nat hn q1
    have hcl := nI_clamp (n := i) (by omega)
    have hL : cl_isL ns (10 + i) := by unfold cl_isL; omega
    refine am_iload_n d_FF_isGuard_8 rfl ?_
    first | refine am_if_ltN (tgt := 32) d_FF_isGuard_9 (by decide) (by omega) (fun q2 => ?_) (fun q2 => ?_) | refine am_if_lt (tgt := 32) d_FF_isGuard_9 (by decide) (fun q2 => ?_) (fun q2 => ?_)
    · refine am_iconst (v := nI 0) d_FF_isGuard_32 (by decide) ?_
      refine am_iret d_FF_isGuard_33 rfl (by first | rfl | exact am_b_nar _) ?_
      first | exact ⟨am_bf (by simp only [fc_gd, q1]; rfl), rfl⟩ | (refine ⟨?_, rfl⟩; simp only [fc_gd, q1, hcl, fc_len, Bool.true_and]; first | (refine am_bt ?_; (simp only [fc_len, Bool.and_eq_true, Bool.and_eq_false_iff, decide_eq_true_eq, decide_eq_false_iff_not, Int32.lt_iff_toInt_lt, Int32.le_iff_toInt_le, am_n0, am_i0, am_n1, am_i1, am_n2, am_i2, am_n3, am_i3, am_n4, am_i4, am_n5, am_i5, am_n6, am_i6, am_n7, am_i7, am_n8, am_i8, am_n9, am_i9, am_n10, am_i10, am_n11, am_i11, am_m1, am_n511, am_i511] at *; omega)) | (refine am_bf ?_; (simp only [fc_len, Bool.and_eq_true, Bool.and_eq_false_iff, decide_eq_true_eq, decide_eq_false_iff_not, Int32.lt_iff_toInt_lt, Int32.le_iff_toInt_le, am_n0, am_i0, am_n1, am_i1, am_n2, am_i2, am_n3, am_i3, am_n4, am_i4, am_n5, am_i5, am_n6, am_i6, am_n7, am_i7, am_n8, am_i8, am_n9, am_i9, am_n10, am_i10, am_n11, am_i11, am_m1, am_n511, am_i511] at *; omega)))
    · refine am_iload_n d_FF_isGuard_12 rfl ?_
      refine am_aload_n d_FF_isGuard_13 rfl (by first | exact am_rvR _ | exact am_rvN | assumption) ?_
      refine am_get d_FF_isGuard_14 f_FF_18 (cl_fab hS) (by rfl) ?_
      refine am_iload_n d_FF_isGuard_17 rfl ?_
      refine am_aald d_FF_isGuard_18 am_kN_ok rfl (cl_nodes hS) rfl (cl_nodes_at hi) (by simp; omega) ?_
      refine am_get d_FF_isGuard_19 f_FF_112 (cl_node hS hi) (by rfl) ?_
      refine am_cV (b := A (10 + i)) d_FF_isGuard_22 v_FF_116 (vs := []) (st := [.int k]) rfl rfl (by decide) (Nat.le_of_ble_eq_true rfl) (cl_list hS hL).1.choose_spec.choose_spec.choose_spec.choose_spec.1 (cl_size hS hL) ?_
      rintro v S1 ⟨rfl, rfl⟩
      first | refine am_icmp_geN (tgt := 32) d_FF_isGuard_25 (by decide) (by omega) (by omega) (fun q3 => ?_) (fun q3 => ?_) | refine am_icmp_ge (tgt := 32) d_FF_isGuard_25 (by decide) (fun q3 => ?_) (fun q3 => ?_)
      · refine am_iconst (v := nI 0) d_FF_isGuard_32 (by decide) ?_
        refine am_iret d_FF_isGuard_33 rfl (by first | rfl | exact am_b_nar _) ?_
        first | exact ⟨am_bf (by simp only [fc_gd, q1]; rfl), rfl⟩ | (refine ⟨?_, rfl⟩; simp only [fc_gd, q1, hcl, fc_len, Bool.true_and]; first | (refine am_bt ?_; (simp only [fc_len, Bool.and_eq_true, Bool.and_eq_false_iff, decide_eq_true_eq, decide_eq_false_iff_not, Int32.lt_iff_toInt_lt, Int32.le_iff_toInt_le, am_n0, am_i0, am_n1, am_i1, am_n2, am_i2, am_n3, am_i3, am_n4, am_i4, am_n5, am_i5, am_n6, am_i6, am_n7, am_i7, am_n8, am_i8, am_n9, am_i9, am_n10, am_i10, am_n11, am_i11, am_m1, am_n511, am_i511] at *; omega)) | (refine am_bf ?_; (simp only [fc_len, Bool.and_eq_true, Bool.and_eq_false_iff, decide_eq_true_eq, decide_eq_false_iff_not, Int32.lt_iff_toInt_lt, Int32.le_iff_toInt_le, am_n0, am_i0, am_n1, am_i1, am_n2, am_i2, am_n3, am_i3, am_n4, am_i4, am_n5, am_i5, am_n6, am_i6, am_n7, am_i7, am_n8, am_i8, am_n9, am_i9, am_n10, am_i10, am_n11, am_i11, am_m1, am_n511, am_i511] at *; omega)))
      · refine am_iconst (v := nI 1) d_FF_isGuard_28 (by decide) ?_
        refine am_goto (tgt := 33) d_FF_isGuard_29 (by decide) ?_
        refine am_iret d_FF_isGuard_33 rfl (by first | rfl | exact am_b_nar _) ?_
        first | exact ⟨am_bf (by simp only [fc_gd, q1]; rfl), rfl⟩ | (refine ⟨?_, rfl⟩; simp only [fc_gd, q1, hcl, fc_len, Bool.true_and]; first | (refine am_bt ?_; (simp only [fc_len, Bool.and_eq_true, Bool.and_eq_false_iff, decide_eq_true_eq, decide_eq_false_iff_not, Int32.lt_iff_toInt_lt, Int32.le_iff_toInt_le, am_n0, am_i0, am_n1, am_i1, am_n2, am_i2, am_n3, am_i3, am_n4, am_i4, am_n5, am_i5, am_n6, am_i6, am_n7, am_i7, am_n8, am_i8, am_n9, am_i9, am_n10, am_i10, am_n11, am_i11, am_m1, am_n511, am_i511] at *; omega)) | (refine am_bf ?_; (simp only [fc_len, Bool.and_eq_true, Bool.and_eq_false_iff, decide_eq_true_eq, decide_eq_false_iff_not, Int32.lt_iff_toInt_lt, Int32.le_iff_toInt_le, am_n0, am_i0, am_n1, am_i1, am_n2, am_i2, am_n3, am_i3, am_n4, am_i4, am_n5, am_i5, am_n6, am_i6, am_n7, am_i7, am_n8, am_i8, am_n9, am_i9, am_n10, am_i10, am_n11, am_i11, am_m1, am_n511, am_i511] at *; omega)))
end CQA
