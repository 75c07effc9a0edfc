/-! messages, frames, datagrams -/
section MDF
variable {g : am_G} {S : am_S}
theorem mk_ofValue (x0 x1 : Int32) : am_M g y_Ms_ofValue "(II)LFlowFabric$Message;" 2 39 [.int x0, .int x1] S (fun v S' => v = some (.ref S.2.1) ∧ S' = am_mk S 0 5 (.inr (am_cMs, [.int x0, .int x1, .int (-1), .int (-1), .int 0]))) := by
  refine am_Mof (L0 := [some (.int x0), some (.int x1)]) pl_Ms_ofValue (am_k1 rfl (am_k1 rfl am_k0)) (Nat.le_of_ble_eq_true rfl) rfl ?_
  refine am_nw 9999 d_Ms_ofValue_0 n_Ms_10 df_Ms ?_
  have hb := am_mk_at S 9999 5 (.inr (am_cMs, [.int 0, .int 0, .int 0, .int 0, .int 0]))
  refine am_dup d_Ms_ofValue_3 rfl ?_
  refine am_iload_n d_Ms_ofValue_4 rfl ?_
  refine am_iload_n d_Ms_ofValue_5 rfl ?_
  refine am_iconst (v := (-1)) d_Ms_ofValue_6 (by decide) ?_
  refine am_iconst (v := (-1)) d_Ms_ofValue_7 (by decide) ?_
  refine am_iconst (v := (0)) d_Ms_ofValue_8 (by decide) ?_
  refine am_cI (b := S.2.1) d_Ms_ofValue_9 i_Ms_27 (vs := [.int x0, .int x1, .int (-1), .int (-1), .int 0]) (st := [.ref S.2.1]) rfl rfl (by decide) (Nat.le_of_ble_eq_true rfl) (mk_Ms (by decide) hb _ _ _ _ _) ?_
  rintro v S1 ⟨rfl, rfl⟩
  rw [am_up_mk]
  refine am_retag 0 (am_mk_at S 9999 5 (.inr (am_cMs, [.int x0, .int x1, .int (-1), .int (-1), .int 0]))) (by decide) ?_
  rw [am_up_mk]
  refine am_aret d_Ms_ofValue_12 rfl (by first | exact Or.inl ⟨_, rfl⟩ | exact Or.inr ⟨_, rfl⟩) (by first | exact am_rvR _ | exact am_rvN | assumption) ?_
  exact ⟨rfl, rfl⟩
theorem mk_ofPair (x0 x1 x2 x3 : Int32) : am_M g y_Ms_ofPair "(IIII)LFlowFabric$Message;" 2 39 [.int x0, .int x1, .int x2, .int x3] S (fun v S' => v = some (.ref S.2.1) ∧ S' = am_mk S 0 5 (.inr (am_cMs, [.int x0, .int x1, .int x2, .int x3, .int 0]))) := by
  refine am_Mof (L0 := [some (.int x0), some (.int x1), some (.int x2), some (.int x3)]) pl_Ms_ofPair (am_k1 rfl (am_k1 rfl (am_k1 rfl (am_k1 rfl am_k0)))) (Nat.le_of_ble_eq_true rfl) rfl ?_
  refine am_nw 9999 d_Ms_ofPair_0 n_Ms_10 df_Ms ?_
  have hb := am_mk_at S 9999 5 (.inr (am_cMs, [.int 0, .int 0, .int 0, .int 0, .int 0]))
  refine am_dup d_Ms_ofPair_3 rfl ?_
  refine am_iload_n d_Ms_ofPair_4 rfl ?_
  refine am_iload_n d_Ms_ofPair_5 rfl ?_
  refine am_iload_n d_Ms_ofPair_6 rfl ?_
  refine am_iload_n d_Ms_ofPair_7 rfl ?_
  refine am_iconst (v := (0)) d_Ms_ofPair_8 (by decide) ?_
  refine am_cI (b := S.2.1) d_Ms_ofPair_9 i_Ms_27 (vs := [.int x0, .int x1, .int x2, .int x3, .int 0]) (st := [.ref S.2.1]) rfl rfl (by decide) (Nat.le_of_ble_eq_true rfl) (mk_Ms (by decide) hb _ _ _ _ _) ?_
  rintro v S1 ⟨rfl, rfl⟩
  rw [am_up_mk]
  refine am_retag 0 (am_mk_at S 9999 5 (.inr (am_cMs, [.int x0, .int x1, .int x2, .int x3, .int 0]))) (by decide) ?_
  rw [am_up_mk]
  refine am_aret d_Ms_ofPair_12 rfl (by first | exact Or.inl ⟨_, rfl⟩ | exact Or.inr ⟨_, rfl⟩) (by first | exact am_rvR _ | exact am_rvN | assumption) ?_
  exact ⟨rfl, rfl⟩
theorem mk_ofDatagram (x0 x1 : Int32) {b tb : Nat} {x2 x3 x4 : Int32} (o : am_ok S) (hg : S.1 b = some (tb, .inr (am_cDg, [.int x2, .int x3, .int x4]))) : am_M g y_Ms_ofDatagram "(IILFlowFabric$Datagram;)LFlowFabric$Message;" 2 39 [.int x0, .int x1, .ref b] S (fun v S' => v = some (.ref S.2.1) ∧ S' = am_mk S 0 5 (.inr (am_cMs, [.int x0, .int x1, .int x2, .int x3, .int x4]))) := by
  refine am_Mof (L0 := [some (.int x0), some (.int x1), some (.ref b)]) pl_Ms_ofDatagram (am_k1 rfl (am_k1 rfl (am_k1 rfl am_k0))) (Nat.le_of_ble_eq_true rfl) rfl ?_
  refine am_nw 9999 d_Ms_ofDatagram_0 n_Ms_10 df_Ms ?_
  have hb := am_mk_at S 9999 5 (.inr (am_cMs, [.int 0, .int 0, .int 0, .int 0, .int 0]))
  have hg1 := am_mk_old (t := 9999) (n := 5) (x := .inr (am_cMs, [.int 0, .int 0, .int 0, .int 0, .int 0])) hg o
  refine am_dup d_Ms_ofDatagram_3 rfl ?_
  refine am_iload_n d_Ms_ofDatagram_4 rfl ?_
  refine am_iload_n d_Ms_ofDatagram_5 rfl ?_
  refine am_aload_n d_Ms_ofDatagram_6 rfl (by first | exact am_rvR _ | exact am_rvN | assumption) ?_
  refine am_get d_Ms_ofDatagram_7 f_Ms_30 (by first | assumption | exact am_up_at _ _ _ _) (by rfl) ?_
  refine am_aload_n d_Ms_ofDatagram_10 rfl (by first | exact am_rvR _ | exact am_rvN | assumption) ?_
  refine am_get d_Ms_ofDatagram_11 f_Ms_33 (by first | assumption | exact am_up_at _ _ _ _) (by rfl) ?_
  refine am_aload_n d_Ms_ofDatagram_14 rfl (by first | exact am_rvR _ | exact am_rvN | assumption) ?_
  refine am_get d_Ms_ofDatagram_15 f_Ms_34 (by first | assumption | exact am_up_at _ _ _ _) (by rfl) ?_
  refine am_cI (b := S.2.1) d_Ms_ofDatagram_18 i_Ms_27 (vs := [.int x0, .int x1, .int x2, .int x3, .int x4]) (st := [.ref S.2.1]) rfl rfl (by decide) (Nat.le_of_ble_eq_true rfl) (mk_Ms (by decide) hb _ _ _ _ _) ?_
  rintro v S1 ⟨rfl, rfl⟩
  rw [am_up_mk]
  refine am_retag 0 (am_mk_at S 9999 5 (.inr (am_cMs, [.int x0, .int x1, .int x2, .int x3, .int x4]))) (by decide) ?_
  rw [am_up_mk]
  refine am_aret d_Ms_ofDatagram_21 rfl (by first | exact Or.inl ⟨_, rfl⟩ | exact Or.inr ⟨_, rfl⟩) (by first | exact am_rvR _ | exact am_rvN | assumption) ?_
  exact ⟨rfl, rfl⟩
theorem mk_msProbe (x0 x1 : Int32) : am_M g y_Ms_ofProbe "(II)LFlowFabric$Message;" 2 39 [.int x0, .int x1] S (fun v S' => v = some (.ref S.2.1) ∧ S' = am_mk S 0 5 (.inr (am_cMs, [.int 1, .int x0, .int x1, .int (-1), .int 0]))) := by
  refine am_Mof (L0 := [some (.int x0), some (.int x1)]) pl_Ms_ofProbe (am_k1 rfl (am_k1 rfl am_k0)) (Nat.le_of_ble_eq_true rfl) rfl ?_
  refine am_nw 9999 d_Ms_ofProbe_0 n_Ms_10 df_Ms ?_
  have hb := am_mk_at S 9999 5 (.inr (am_cMs, [.int 0, .int 0, .int 0, .int 0, .int 0]))
  refine am_dup d_Ms_ofProbe_3 rfl ?_
  refine am_iconst (v := (1)) d_Ms_ofProbe_4 (by decide) ?_
  refine am_iload_n d_Ms_ofProbe_5 rfl ?_
  refine am_iload_n d_Ms_ofProbe_6 rfl ?_
  refine am_iconst (v := (-1)) d_Ms_ofProbe_7 (by decide) ?_
  refine am_iconst (v := (0)) d_Ms_ofProbe_8 (by decide) ?_
  refine am_cI (b := S.2.1) d_Ms_ofProbe_9 i_Ms_27 (vs := [.int 1, .int x0, .int x1, .int (-1), .int 0]) (st := [.ref S.2.1]) rfl rfl (by decide) (Nat.le_of_ble_eq_true rfl) (mk_Ms (by decide) hb _ _ _ _ _) ?_
  rintro v S1 ⟨rfl, rfl⟩
  rw [am_up_mk]
  refine am_retag 0 (am_mk_at S 9999 5 (.inr (am_cMs, [.int 1, .int x0, .int x1, .int (-1), .int 0]))) (by decide) ?_
  rw [am_up_mk]
  refine am_aret d_Ms_ofProbe_12 rfl (by first | exact Or.inl ⟨_, rfl⟩ | exact Or.inr ⟨_, rfl⟩) (by first | exact am_rvR _ | exact am_rvN | assumption) ?_
  exact ⟨rfl, rfl⟩
theorem mk_toDg {b tb : Nat} {x0 x1 x2 x3 x4 : Int32} (o : am_ok S) (hg : S.1 b = some (tb, .inr (am_cMs, [.int x0, .int x1, .int x2, .int x3, .int x4]))) : am_M g y_Ms_toDatagram "()LFlowFabric$Datagram;" 2 37 [.ref b] S (fun v S' => v = some (.ref S.2.1) ∧ S' = am_mk S 0 3 (.inr (am_cDg, [.int x2, .int x3, .int x4]))) := by
  refine am_Mof (L0 := [some (.ref b)]) pl_Ms_toDatagram (am_k1 rfl am_k0) (Nat.le_of_ble_eq_true rfl) rfl ?_
  refine am_nw 9999 d_Ms_toDatagram_0 n_Ms_31 df_Dg ?_
  have hb := am_mk_at S 9999 3 (.inr (am_cDg, [.int 0, .int 0, .int 0]))
  have hg1 := am_mk_old (t := 9999) (n := 3) (x := .inr (am_cDg, [.int 0, .int 0, .int 0])) hg o
  refine am_dup d_Ms_toDatagram_3 rfl ?_
  refine am_aload_n d_Ms_toDatagram_4 rfl (by first | exact am_rvR _ | exact am_rvN | assumption) ?_
  refine am_get d_Ms_toDatagram_5 f_Ms_18 (by first | assumption | exact am_up_at _ _ _ _) (by rfl) ?_
  refine am_aload_n d_Ms_toDatagram_8 rfl (by first | exact am_rvR _ | exact am_rvN | assumption) ?_
  refine am_get d_Ms_toDatagram_9 f_Ms_21 (by first | assumption | exact am_up_at _ _ _ _) (by rfl) ?_
  refine am_aload_n d_Ms_toDatagram_12 rfl (by first | exact am_rvR _ | exact am_rvN | assumption) ?_
  refine am_get d_Ms_toDatagram_13 f_Ms_24 (by first | assumption | exact am_up_at _ _ _ _) (by rfl) ?_
  refine am_cI (b := S.2.1) d_Ms_toDatagram_16 i_Ms_35 (vs := [.int x2, .int x3, .int x4]) (st := [.ref S.2.1]) rfl rfl (by decide) (Nat.le_of_ble_eq_true rfl) (mk_Dg (by decide) hb _ _ _) ?_
  rintro v S1 ⟨rfl, rfl⟩
  rw [am_up_mk]
  refine am_retag 0 (am_mk_at S 9999 3 (.inr (am_cDg, [.int x2, .int x3, .int x4]))) (by decide) ?_
  rw [am_up_mk]
  refine am_aret d_Ms_toDatagram_19 rfl (by first | exact Or.inl ⟨_, rfl⟩ | exact Or.inr ⟨_, rfl⟩) (by first | exact am_rvR _ | exact am_rvN | assumption) ?_
  exact ⟨rfl, rfl⟩
theorem mk_frDg (b : Nat) : am_M g y_Fr_ofDatagram "(LFlowFabric$Datagram;)LFlowFabric$Frame;" 2 36 [.ref b] S (fun v S' => v = some (.ref S.2.1) ∧ S' = am_mk S 0 2 (.inr (am_cFr, [.ref b, .int (-1)]))) := by
  refine am_Mof (L0 := [some (.ref b)]) pl_Fr_ofDatagram (am_k1 rfl am_k0) (Nat.le_of_ble_eq_true rfl) rfl ?_
  refine am_nw 9999 d_Fr_ofDatagram_0 n_Fr_10 df_Fr ?_
  have hb := am_mk_at S 9999 2 (.inr (am_cFr, [.null, .int 0]))
  refine am_dup d_Fr_ofDatagram_3 rfl ?_
  refine am_aload_n d_Fr_ofDatagram_4 rfl (by first | exact am_rvR _ | exact am_rvN | assumption) ?_
  refine am_iconst (v := (-1)) d_Fr_ofDatagram_5 (by decide) ?_
  refine am_cI (b := S.2.1) d_Fr_ofDatagram_6 i_Fr_19 (vs := [.ref b, .int (-1)]) (st := [.ref S.2.1]) rfl rfl (by decide) (Nat.le_of_ble_eq_true rfl) (mk_Fr (by decide) hb (am_rvR _) rfl _) ?_
  rintro v S1 ⟨rfl, rfl⟩
  rw [am_up_mk]
  refine am_retag 0 (am_mk_at S 9999 2 (.inr (am_cFr, [.ref b, .int (-1)]))) (by decide) ?_
  rw [am_up_mk]
  refine am_aret d_Fr_ofDatagram_9 rfl (by first | exact Or.inl ⟨_, rfl⟩ | exact Or.inr ⟨_, rfl⟩) (by first | exact am_rvR _ | exact am_rvN | assumption) ?_
  exact ⟨rfl, rfl⟩
theorem mk_frProbe (x : Int32) : am_M g y_Fr_ofProbe "(I)LFlowFabric$Frame;" 2 36 [.int x] S (fun v S' => v = some (.ref S.2.1) ∧ S' = am_mk S 0 2 (.inr (am_cFr, [.null, .int x]))) := by
  refine am_Mof (L0 := [some (.int x)]) pl_Fr_ofProbe (am_k1 rfl am_k0) (Nat.le_of_ble_eq_true rfl) rfl ?_
  refine am_nw 9999 d_Fr_ofProbe_0 n_Fr_10 df_Fr ?_
  have hb := am_mk_at S 9999 2 (.inr (am_cFr, [.null, .int 0]))
  refine am_dup d_Fr_ofProbe_3 rfl ?_
  refine am_null d_Fr_ofProbe_4 ?_
  refine am_iload_n d_Fr_ofProbe_5 rfl ?_
  refine am_cI (b := S.2.1) d_Fr_ofProbe_6 i_Fr_19 (vs := [.null, .int x]) (st := [.ref S.2.1]) rfl rfl (by decide) (Nat.le_of_ble_eq_true rfl) (mk_Fr (by decide) hb am_rvN rfl _) ?_
  rintro v S1 ⟨rfl, rfl⟩
  rw [am_up_mk]
  refine am_retag 0 (am_mk_at S 9999 2 (.inr (am_cFr, [.null, .int x]))) (by decide) ?_
  rw [am_up_mk]
  refine am_aret d_Fr_ofProbe_9 rfl (by first | exact Or.inl ⟨_, rfl⟩ | exact Or.inr ⟨_, rfl⟩) (by first | exact am_rvR _ | exact am_rvN | assumption) ?_
  exact ⟨rfl, rfl⟩
theorem ff_endOf {i p : Nat} : am_M g y_FF_endOf "(II)I" 0 0 [.int (nI i), .int (nI p)] S (fun v S' => v = some (.int (nI (i * 4 + p))) ∧ S' = S) := by
  refine am_Mof (L0 := [some (.int (nI i)), some (.int (nI p))]) pl_FF_endOf (am_k1 rfl (am_k1 rfl am_k0)) (Nat.le_of_ble_eq_true rfl) rfl ?_
  refine am_iload_n d_FF_endOf_0 rfl ?_
  refine am_iconst (v := nI 4) d_FF_endOf_1 (by decide) ?_
  first | refine am_imulN d_FF_endOf_2 ?_ | refine am_imul d_FF_endOf_2 ?_
  refine am_iload_n d_FF_endOf_3 rfl ?_
  first | refine am_iaddN d_FF_endOf_4 ?_ | refine am_iadd d_FF_endOf_4 ?_
  refine am_iret d_FF_endOf_5 rfl rfl ?_
  exact ⟨rfl, rfl⟩
theorem ff_switchOf {q : Nat} (h : q < 1000) : am_M g y_FF_switchOf "(I)I" 0 0 [.int (nI q)] S (fun v S' => v = some (.int (nI (q / 4))) ∧ S' = S) := by
  refine am_Mof (L0 := [some (.int (nI q))]) pl_FF_switchOf (am_k1 rfl am_k0) (Nat.le_of_ble_eq_true rfl) rfl ?_
  refine am_iload_n d_FF_switchOf_0 rfl ?_
  refine am_iconst (v := nI 4) d_FF_switchOf_1 (by decide) ?_
  first | refine am_idivN d_FF_switchOf_2 (by omega) (by omega) (by omega) ?_ | refine am_idiv d_FF_switchOf_2 (by decide) ?_
  refine am_iret d_FF_switchOf_3 rfl rfl ?_
  exact ⟨rfl, rfl⟩
theorem ff_portOf {q : Nat} (h : q < 1000) : am_M g y_FF_portOf "(I)I" 0 0 [.int (nI q)] S (fun v S' => v = some (.int (nI (q % 4))) ∧ S' = S) := by
  refine am_Mof (L0 := [some (.int (nI q))]) pl_FF_portOf (am_k1 rfl am_k0) (Nat.le_of_ble_eq_true rfl) rfl ?_
  refine am_iload_n d_FF_portOf_0 rfl ?_
  refine am_iconst (v := nI 4) d_FF_portOf_1 (by decide) ?_
  first | refine am_iremN d_FF_portOf_2 (by omega) (by omega) (by omega) ?_ | refine am_irem d_FF_portOf_2 (by decide) ?_
  refine am_iret d_FF_portOf_3 rfl rfl ?_
  exact ⟨rfl, rfl⟩
theorem ff_within (x lo hi : Int32) : am_M g y_FF_within "(III)I" 1 21 [.int x, .int lo, .int hi] S (fun v S' => v = some (.int (if lo < (if x < hi then x else hi) then (if x < hi then x else hi) else lo)) ∧ S' = S) := by
  refine am_Mof (L0 := [some (.int x), some (.int lo), some (.int hi)]) pl_FF_within (am_k1 rfl (am_k1 rfl (am_k1 rfl am_k0))) (Nat.le_of_ble_eq_true rfl) rfl ?_
  refine am_iload_n d_FF_within_0 rfl ?_
  refine am_iload_n d_FF_within_1 rfl ?_
  refine am_iload_n d_FF_within_2 rfl ?_
  refine am_cS d_FF_within_3 s_FF_239 (vs := [.int hi, .int x]) (st := [.int lo]) rfl rfl (by decide) (Nat.le_of_ble_eq_true rfl) (jd_min _ _) ?_
  rintro v S1 ⟨rfl, rfl⟩
  refine am_cS d_FF_within_6 s_FF_244 (vs := [.int lo, .int (if x < hi then x else hi)]) (st := []) rfl rfl (by decide) (Nat.le_of_ble_eq_true rfl) (jd_max _ _) ?_
  rintro v S1 ⟨rfl, rfl⟩
  refine am_iret d_FF_within_9 rfl rfl ?_
  exact ⟨rfl, rfl⟩
theorem gd_fits (x z : Int32) : am_M g y_Gd_fits "(II)Z" 0 0 [.int x, .int z] S (fun v S' => v = some (.int (am_b (fc_fit x z))) ∧ S' = S) := by
  refine am_Mof (L0 := [some (.int x), some (.int z)]) pl_Gd_fits (am_k1 rfl (am_k1 rfl am_k0)) (Nat.le_of_ble_eq_true rfl) rfl ?_
  refine am_iload_n d_Gd_fits_0 rfl ?_
  first | refine am_if_eqB (tgt := 11) d_Gd_fits_1 (by decide) (fun q1 => ?_) (fun q1 => ?_) | refine am_if_eqN (tgt := 11) d_Gd_fits_1 (by decide) (by omega) (fun q1 => ?_) (fun q1 => ?_) | refine am_if_eq (tgt := 11) d_Gd_fits_1 (by decide) (fun q1 => ?_) (fun q1 => ?_)
  · refine am_iconst (v := (1)) d_Gd_fits_11 (by decide) ?_
    refine am_goto (tgt := 16) d_Gd_fits_12 (by decide) ?_
    refine am_iret d_Gd_fits_16 rfl (by first | rfl | exact am_b_nar _) ?_
    exact ⟨by first | (refine am_bt ?_; simp [fc_fit, *]; done) | (refine am_bf ?_; simp_all [fc_fit]; done) | (simp_all [fc_fit, am_b]; done), rfl⟩
  · refine am_iload_n d_Gd_fits_4 rfl ?_
    refine am_iload_n d_Gd_fits_5 rfl ?_
    refine am_iconst (v := (1)) d_Gd_fits_6 (by decide) ?_
    first | refine am_iaddN d_Gd_fits_7 ?_ | refine am_iadd d_Gd_fits_7 ?_
    first | refine am_icmp_neN (tgt := 15) d_Gd_fits_8 (by decide) (by omega) (by omega) (fun q2 => ?_) (fun q2 => ?_) | refine am_icmp_ne (tgt := 15) d_Gd_fits_8 (by decide) (fun q2 => ?_) (fun q2 => ?_)
    · refine am_iconst (v := (0)) d_Gd_fits_15 (by decide) ?_
      refine am_iret d_Gd_fits_16 rfl (by first | rfl | exact am_b_nar _) ?_
      exact ⟨by first | (refine am_bt ?_; simp [fc_fit, *]; done) | (refine am_bf ?_; simp_all [fc_fit]; done) | (simp_all [fc_fit, am_b]; done), rfl⟩
    · refine am_iconst (v := (1)) d_Gd_fits_11 (by decide) ?_
      refine am_goto (tgt := 16) d_Gd_fits_12 (by decide) ?_
      refine am_iret d_Gd_fits_16 rfl (by first | rfl | exact am_b_nar _) ?_
      exact ⟨by first | (refine am_bt ?_; simp [fc_fit, *]; done) | (refine am_bf ?_; simp_all [fc_fit]; done) | (simp_all [fc_fit, am_b]; done), rfl⟩
end MDF
