/-! the class: switches -/
section CND
variable {g : am_G} {e nw ns room idle : Nat} {A : Nat → Nat} {s : cl_S} {S : am_S}
theorem cl_fld {row : List Int32} {j : Nat} (h : j < row.length) : (row.map Value.int)[j]? = some (.int (row.getD j 0)) := by
  simp [List.getD_eq_getElem?_getD, List.getElem?_eq_getElem h]
def cl_ix (o : Option Nat) : Int32 := match o with | none => -1 | some k => nI k
theorem fc_ix_some {rows : List (List Int32)} {p : List Int32 → Bool} {k : Nat} {row : List Int32} (hk : rows[k]? = some row) (hp : p row = true) (hj : ∀ j r, j < k → rows[j]? = some r → p r = false) : rows.findIdx? p = some k := by
  rw [List.findIdx?_eq_some_iff_getElem]
  obtain ⟨h1, h2⟩ := List.getElem?_eq_some_iff.mp hk
  refine ⟨h1, by rw [h2]; exact hp, fun j hj2 => ?_⟩
  rw [hj j _ hj2 (List.getElem?_eq_getElem (by omega))]
  simp
theorem fc_ix_none {rows : List (List Int32)} {p : List Int32 → Bool} (hj : ∀ (j : Nat) (r : List Int32), rows[j]? = some r → p r = false) : rows.findIdx? p = none := by
  rw [List.findIdx?_eq_none_iff]
  intro r hr
  obtain ⟨j, hj2⟩ := List.getElem?_of_mem hr
  exact hj j r hj2
theorem nd_holds (hn : ns ≤ 5) (hS : cl_P e nw ns room idle A s S) {i : Nat} (hi : i < ns) : am_M g y_Nd_holdsLinks "()Z" 1 20 [.ref (A (50 + i))] S (fun v S' => v = some (.int (am_b (decide (20 ≤ (s.1 (40 + i)).length)))) ∧ S' = S) := by
  have hL : cl_isL ns (40 + i) := by unfold cl_isL; omega
  have hl := (cl_list hS hL).2.1
  have hb := (cl_list hS hL).1
  have h60 : (s.1 (40 + i)).length ≤ 60 := by rw [← hl]; exact hb.choose_spec.choose_spec.choose_spec.choose_spec.2.2.1
  refine am_Mof (L0 := [some (.ref (A (50 + i)))]) pl_Nd_holdsLinks (am_k1 rfl am_k0) (Nat.le_of_ble_eq_true rfl) rfl ?_
  refine am_aload_n d_Nd_holdsLinks_0 rfl (by first | exact am_rvR _ | exact am_rvN | assumption) ?_
  refine am_get d_Nd_holdsLinks_1 f_Nd_38 (cl_node hS hi) (by rfl) ?_
  refine am_cV (b := A (40 + i)) d_Nd_holdsLinks_4 v_Nd_41 (vs := []) (st := []) rfl rfl (by decide) (Nat.le_of_ble_eq_true rfl) hb.choose_spec.choose_spec.choose_spec.choose_spec.1 (cl_size hS hL) ?_
  rintro v S1 ⟨rfl, rfl⟩
  refine am_bipush (v := nI 20) d_Nd_holdsLinks_7 (by decide) ?_
  first | refine am_icmp_ltN (tgt := 16) d_Nd_holdsLinks_9 (by decide) (by omega) (by omega) (fun q1 => ?_) (fun q1 => ?_) | refine am_icmp_lt (tgt := 16) d_Nd_holdsLinks_9 (by decide) (fun q1 => ?_) (fun q1 => ?_)
  · refine am_iconst (v := nI 0) d_Nd_holdsLinks_16 (by decide) ?_
    refine am_iret d_Nd_holdsLinks_17 rfl (by first | rfl | exact am_b_nar _) ?_
    first | exact ⟨am_bt (by simpa using q1), rfl⟩ | exact ⟨am_bf (by simpa using q1), rfl⟩
  · refine am_iconst (v := nI 1) d_Nd_holdsLinks_12 (by decide) ?_
    refine am_goto (tgt := 17) d_Nd_holdsLinks_13 (by decide) ?_
    refine am_iret d_Nd_holdsLinks_17 rfl (by first | rfl | exact am_b_nar _) ?_
    first | exact ⟨am_bt (by simpa using q1), rfl⟩ | exact ⟨am_bf (by simpa using q1), rfl⟩
theorem nd_slight (hn : ns ≤ 5) (hS : cl_P e nw ns room idle A s S) {i : Nat} (hi : i < ns) (he : am_gE g e) {m : Nat} {row : List Int32} (hm : cl_el (40 + i) m row S) : am_M g y_Nd_addIfOpen "(LFlowFabric$Message;)V" 7 152 [.ref (A (50 + i)), .ref m] S (fun v S' => v = none ∧ cl_Q e nw ns room idle A s S (fc_slight s.1 i row) 1 90 S') := by
  have hL : cl_isL ns (40 + i) := by unfold cl_isL; omega
  have hl := (cl_list hS hL).2.1
  have hb := (cl_list hS hL).1
  have h60 : (s.1 (40 + i)).length ≤ 60 := by rw [← hl]; exact hb.choose_spec.choose_spec.choose_spec.choose_spec.2.2.1
  refine am_Mof (L0 := [some (.ref (A (50 + i))), some (.ref m)]) pl_Nd_addIfOpen (am_k1 rfl (am_k1 rfl am_k0)) (Nat.le_of_ble_eq_true rfl) rfl ?_
  refine am_aload_n d_Nd_addIfOpen_0 rfl (by first | exact am_rvR _ | exact am_rvN | assumption) ?_
  refine am_get d_Nd_addIfOpen_1 f_Nd_38 (cl_node hS hi) (by rfl) ?_
  refine am_cV (b := A (40 + i)) d_Nd_addIfOpen_4 v_Nd_41 (vs := []) (st := []) rfl rfl (by decide) (Nat.le_of_ble_eq_true rfl) hb.choose_spec.choose_spec.choose_spec.choose_spec.1 (cl_size hS hL) ?_
  rintro v S1 ⟨rfl, rfl⟩
  refine am_bipush (v := nI 8) d_Nd_addIfOpen_7 (by decide) ?_
  first | refine am_icmp_geN (tgt := 21) d_Nd_addIfOpen_9 (by decide) (by omega) (by omega) (fun q1 => ?_) (fun q1 => ?_) | refine am_icmp_ge (tgt := 21) d_Nd_addIfOpen_9 (by decide) (fun q1 => ?_) (fun q1 => ?_)
  · refine am_vret d_Nd_addIfOpen_21 rfl ?_
    first | (refine ⟨rfl, s, ?_, ⟨by omega, by omega⟩, hS, am_fr.refl _ _⟩; unfold fc_slight fc_len; rw [if_neg (by omega)]) | (refine ⟨rfl, _, ?_, ⟨Nat.le_refl _, Nat.le_refl _⟩, hS1, hf1⟩; unfold fc_slight fc_len; rw [if_pos (by omega)]; rfl)
  · refine am_aload_n d_Nd_addIfOpen_12 rfl (by first | exact am_rvR _ | exact am_rvN | assumption) ?_
    refine am_get d_Nd_addIfOpen_13 f_Nd_38 (cl_node hS hi) (by rfl) ?_
    refine am_aload_n d_Nd_addIfOpen_16 rfl (by first | exact am_rvR _ | exact am_rvN | assumption) ?_
    refine am_cV (b := A (40 + i)) d_Nd_addIfOpen_17 v_Nd_61 (vs := [.ref m]) (st := []) rfl rfl (by decide) (Nat.le_of_ble_eq_true rfl) hb.choose_spec.choose_spec.choose_spec.choose_spec.1 (cl_addM (row := row) hn he hS hL (by omega) hm (fun z => by omega)) ?_
    rintro v S1 ⟨rfl, hS1, hf1⟩
    refine am_pop d_Nd_addIfOpen_20 rfl ?_
    refine am_vret d_Nd_addIfOpen_21 rfl ?_
    first | (refine ⟨rfl, s, ?_, ⟨by omega, by omega⟩, hS, am_fr.refl _ _⟩; unfold fc_slight fc_len; rw [if_neg (by omega)]) | (refine ⟨rfl, _, ?_, ⟨Nat.le_refl _, Nat.le_refl _⟩, hS1, hf1⟩; unfold fc_slight fc_len; rw [if_pos (by omega)]; rfl)
theorem nd_rix (hn : ns ≤ 5) (hS : cl_P e nw ns room idle A s S) {i : Nat} (hi : i < ns) (x z : Int32) : am_M g y_Nd_ruleIndex "(II)I" 3 64 [.ref (A (50 + i)), .int x, .int z] S (fun v S' => v = some (.int (cl_ix (fc_rix s.1 i x z))) ∧ S' = S) := by
  have hL : cl_isL ns (20 + i) := by unfold cl_isL; omega
  have hl := (cl_list hS hL).2.1
  have hb := (cl_list hS hL).1
  have h60 : (s.1 (20 + i)).length ≤ 60 := by rw [← hl]; exact hb.choose_spec.choose_spec.choose_spec.choose_spec.2.2.1
  have key : ∀ (m k : Nat) (o4 : Option Value), k + m = (s.1 (20 + i)).length → (∀ j r, j < k → (s.1 (20 + i))[j]? = some r → (r.getD 0 0 == x && r.getD 1 0 == z) = false) → am_W g y_Nd_ruleIndex 3 64 (fun v S' => v = some (.int (cl_ix (fc_rix s.1 i x z))) ∧ S' = S) 2 [some (.ref (A (50 + i))), some (.int x), some (.int z), some (.int (nI k)), o4] [] S := by
    intro m
    induction m with
    | zero =>
      intro k o4 hk hj
      refine am_iload_n d_Nd_ruleIndex_2 rfl ?_
      refine am_aload_n d_Nd_ruleIndex_3 rfl (by first | exact am_rvR _ | exact am_rvN | assumption) ?_
      refine am_get d_Nd_ruleIndex_4 f_Nd_32 (cl_node hS hi) (by rfl) ?_
      refine am_cV (b := A (20 + i)) d_Nd_ruleIndex_7 v_Nd_41 (vs := []) (st := [.int (nI k)]) rfl rfl (by decide) (Nat.le_of_ble_eq_true rfl) hb.choose_spec.choose_spec.choose_spec.choose_spec.1 (cl_size hS hL) ?_
      rintro v S1 ⟨rfl, rfl⟩
      refine am_icmp_geN (tgt := 52) d_Nd_ruleIndex_10 (by decide) (by omega) (by omega) (fun _ => ?_) (fun q => absurd q (by omega))
      refine am_iconst (v := (-1)) d_Nd_ruleIndex_52 (by decide) ?_
      refine am_iret d_Nd_ruleIndex_53 rfl rfl ?_
      refine ⟨?_, rfl⟩
      unfold fc_rix
      rw [fc_ix_none (fun j r hr => hj j r (by have := (List.getElem?_eq_some_iff.mp hr).1; omega) hr)]
      rfl
    | succ m ih =>
      intro k o4 hk hj
      obtain ⟨a, row, ha, hr, hel⟩ := cl_at (cl_list hS hL).2 (k := k) (by omega)
      obtain ⟨ho, hw⟩ := (cl_eldir hn (c := 20 + i) (by unfold cl_dir; omega)).mp hel
      have hcls : cl_cls (20 + i) = am_cRl := by unfold cl_cls; rw [if_neg (by omega), if_neg (by omega)]
      have hwd : cl_wid (20 + i) = 6 := by unfold cl_wid; rw [if_neg (by omega), if_neg (by omega)]
      rw [hcls] at ho
      rw [hwd] at hw
      refine am_iload_n d_Nd_ruleIndex_2 rfl ?_
      refine am_aload_n d_Nd_ruleIndex_3 rfl (by first | exact am_rvR _ | exact am_rvN | assumption) ?_
      refine am_get d_Nd_ruleIndex_4 f_Nd_32 (cl_node hS hi) (by rfl) ?_
      refine am_cV (b := A (20 + i)) d_Nd_ruleIndex_7 v_Nd_41 (vs := []) (st := [.int (nI k)]) rfl rfl (by decide) (Nat.le_of_ble_eq_true rfl) hb.choose_spec.choose_spec.choose_spec.choose_spec.1 (cl_size hS hL) ?_
      rintro v S1 ⟨rfl, rfl⟩
      refine am_icmp_geN (tgt := 52) d_Nd_ruleIndex_10 (by decide) (by omega) (by omega) (fun q => absurd q (by omega)) (fun _ => ?_)
      refine am_aload_n d_Nd_ruleIndex_13 rfl (by first | exact am_rvR _ | exact am_rvN | assumption) ?_
      refine am_get d_Nd_ruleIndex_14 f_Nd_32 (cl_node hS hi) (by rfl) ?_
      refine am_iload_n d_Nd_ruleIndex_17 rfl ?_
      refine am_cV (b := A (20 + i)) d_Nd_ruleIndex_18 v_Nd_111 (vs := [.int (nI k)]) (st := []) rfl rfl (by decide) (Nat.le_of_ble_eq_true rfl) hb.choose_spec.choose_spec.choose_spec.choose_spec.1 (cl_getM hS hL ha) ?_
      rintro v S1 ⟨rfl, rfl⟩
      refine am_cast d_Nd_ruleIndex_21 k_Nd_134 (q := am_qRl) rfl (Or.inl rfl) ho ?_
      refine am_astore (L1 := [_, _, _, _, _]) d_Nd_ruleIndex_24 (by decide) (by first | exact am_rvR _ | exact am_rvN | assumption) rfl ?_
      refine am_aload d_Nd_ruleIndex_26 rfl (by first | exact am_rvR _ | exact am_rvN | assumption) ?_
      refine am_get d_Nd_ruleIndex_28 f_Nd_145 ho (by exact cl_fld (by omega)) ?_
      refine am_iload_n d_Nd_ruleIndex_31 rfl ?_
      first | refine am_icmp_neN (tgt := 46) d_Nd_ruleIndex_32 (by decide) (by omega) (by omega) (fun q1 => ?_) (fun q1 => ?_) | refine am_icmp_ne (tgt := 46) d_Nd_ruleIndex_32 (by decide) (fun q1 => ?_) (fun q1 => ?_)
      · first | refine am_iincN (b := 1) (L1 := [_, _, _, _, _]) d_Nd_ruleIndex_46 rfl (by decide) (by decide) rfl ?_ | refine am_iinc (L1 := [_, _, _, _, _]) d_Nd_ruleIndex_46 rfl rfl (by decide) rfl ?_
        refine am_goto (tgt := 2) d_Nd_ruleIndex_49 (by decide) ?_
        refine ih (k + 1) _ (by omega) (fun j r hj2 hr2 => ?_)
        by_cases ej : j = k
        · subst ej
          cases hr.symm.trans hr2
          simp only [Bool.and_eq_false_iff, beq_eq_false_iff_ne]
          first | exact Or.inl q1 | exact Or.inr q2 | exact Or.inl (fun z => q1 z) | (right; assumption) | (left; assumption)
        · exact hj j r (by omega) hr2
      · refine am_aload d_Nd_ruleIndex_35 rfl (by first | exact am_rvR _ | exact am_rvN | assumption) ?_
        refine am_get d_Nd_ruleIndex_37 f_Nd_146 ho (by exact cl_fld (by omega)) ?_
        refine am_iload_n d_Nd_ruleIndex_40 rfl ?_
        first | refine am_icmp_neN (tgt := 46) d_Nd_ruleIndex_41 (by decide) (by omega) (by omega) (fun q2 => ?_) (fun q2 => ?_) | refine am_icmp_ne (tgt := 46) d_Nd_ruleIndex_41 (by decide) (fun q2 => ?_) (fun q2 => ?_)
        · first | refine am_iincN (b := 1) (L1 := [_, _, _, _, _]) d_Nd_ruleIndex_46 rfl (by decide) (by decide) rfl ?_ | refine am_iinc (L1 := [_, _, _, _, _]) d_Nd_ruleIndex_46 rfl rfl (by decide) rfl ?_
          refine am_goto (tgt := 2) d_Nd_ruleIndex_49 (by decide) ?_
          refine ih (k + 1) _ (by omega) (fun j r hj2 hr2 => ?_)
          by_cases ej : j = k
          · subst ej
            cases hr.symm.trans hr2
            simp only [Bool.and_eq_false_iff, beq_eq_false_iff_ne]
            first | exact Or.inl q1 | exact Or.inr q2 | exact Or.inl (fun z => q1 z) | (right; assumption) | (left; assumption)
          · exact hj j r (by omega) hr2
        · refine am_iload_n d_Nd_ruleIndex_44 rfl ?_
          refine am_iret d_Nd_ruleIndex_45 rfl rfl ?_
          refine ⟨?_, rfl⟩
          unfold fc_rix
          rw [fc_ix_some hr (by simp only [Bool.and_eq_true, beq_iff_eq]; exact ⟨by assumption, by assumption⟩) hj]
          rfl
  refine am_Mof (L0 := [some (.ref (A (50 + i))), some (.int x), some (.int z), none, none]) pl_Nd_ruleIndex (am_k1 rfl (am_k1 rfl (am_k1 rfl am_k0))) (Nat.le_of_ble_eq_true rfl) rfl ?_
  refine am_iconst (v := nI 0) d_Nd_ruleIndex_0 (by decide) ?_
  refine am_istore_n (L1 := [_, _, _, _, _]) d_Nd_ruleIndex_1 (by decide) rfl ?_
  exact key _ 0 _ (Nat.zero_add _) (fun j r h => absurd h (Nat.not_lt_zero _))
theorem gd_matches {a b tb : Nat} {x0 x1 x2 x3 f t n : Int32} (ha : S.1 a = some (tb, .inr (am_cGd, [.int x0, .int x1, .int x2, .int x3]))) (hb : S.1 b = some (0, .inr (am_cDg, [.int f, .int t, .int n]))) (p : Int32) : am_M g y_Gd_matches "(LFlowFabric$Datagram;I)Z" 1 21 [.ref a, .ref b, .int p] S (fun v S' => v = some (.int (am_b (fc_mch x1 p f t))) ∧ S' = S) := by
  refine am_Mof (L0 := [some (.ref a), some (.ref b), some (.int p)]) pl_Gd_matches (am_k1 rfl (am_k1 rfl (am_k1 rfl am_k0))) (Nat.le_of_ble_eq_true rfl) rfl ?_
  refine am_aload_n d_Gd_matches_0 rfl (by first | exact am_rvR _ | exact am_rvN | assumption) ?_
  refine am_get d_Gd_matches_1 f_Gd_15 (by first | assumption | exact am_up_at _ _ _ _) (by rfl) ?_
  refine am_bipush (v := (7)) d_Gd_matches_4 (by decide) ?_
  refine am_iand d_Gd_matches_6 ?_
  refine am_iload_n d_Gd_matches_7 rfl ?_
  refine am_cS d_Gd_matches_8 s_Gd_24 (vs := [.int (x1 &&& 7), .int p]) (st := []) rfl rfl (by decide) (Nat.le_of_ble_eq_true rfl) (gd_fits _ _) ?_
  rintro v S1 ⟨rfl, rfl⟩
  first | refine am_if_eqB (tgt := 57) d_Gd_matches_11 (by decide) (fun q1 => ?_) (fun q1 => ?_) | refine am_if_eqN (tgt := 57) d_Gd_matches_11 (by decide) (by omega) (fun q1 => ?_) (fun q1 => ?_) | refine am_if_eq (tgt := 57) d_Gd_matches_11 (by decide) (fun q1 => ?_) (fun q1 => ?_)
  · refine am_iconst (v := (0)) d_Gd_matches_57 (by decide) ?_
    refine am_iret d_Gd_matches_58 rfl (by first | rfl | exact am_b_nar _) ?_
    exact ⟨by simp_all [fc_mch, am_b], rfl⟩
  · refine am_aload_n d_Gd_matches_14 rfl (by first | exact am_rvR _ | exact am_rvN | assumption) ?_
    refine am_get d_Gd_matches_15 f_Gd_15 (by first | assumption | exact am_up_at _ _ _ _) (by rfl) ?_
    refine am_iconst (v := (3)) d_Gd_matches_18 (by decide) ?_
    refine am_ishr d_Gd_matches_19 ?_
    rw [show ((3 : Int32) &&& 31) = 3 from by decide]
    refine am_bipush (v := (7)) d_Gd_matches_20 (by decide) ?_
    refine am_iand d_Gd_matches_22 ?_
    refine am_aload_n d_Gd_matches_23 rfl (by first | exact am_rvR _ | exact am_rvN | assumption) ?_
    refine am_get d_Gd_matches_24 f_Gd_28 (by first | assumption | exact am_up_at _ _ _ _) (by rfl) ?_
    refine am_cS d_Gd_matches_27 s_Gd_24 (vs := [.int (x1 >>> 3 &&& 7), .int f]) (st := []) rfl rfl (by decide) (Nat.le_of_ble_eq_true rfl) (gd_fits _ _) ?_
    rintro v S1 ⟨rfl, rfl⟩
    first | refine am_if_eqB (tgt := 57) d_Gd_matches_30 (by decide) (fun q2 => ?_) (fun q2 => ?_) | refine am_if_eqN (tgt := 57) d_Gd_matches_30 (by decide) (by omega) (fun q2 => ?_) (fun q2 => ?_) | refine am_if_eq (tgt := 57) d_Gd_matches_30 (by decide) (fun q2 => ?_) (fun q2 => ?_)
    · refine am_iconst (v := (0)) d_Gd_matches_57 (by decide) ?_
      refine am_iret d_Gd_matches_58 rfl (by first | rfl | exact am_b_nar _) ?_
      exact ⟨by simp_all [fc_mch, am_b], rfl⟩
    · refine am_aload_n d_Gd_matches_33 rfl (by first | exact am_rvR _ | exact am_rvN | assumption) ?_
      refine am_get d_Gd_matches_34 f_Gd_15 (by first | assumption | exact am_up_at _ _ _ _) (by rfl) ?_
      refine am_bipush (v := (6)) d_Gd_matches_37 (by decide) ?_
      refine am_ishr d_Gd_matches_39 ?_
      rw [show ((6 : Int32) &&& 31) = 6 from by decide]
      refine am_bipush (v := (7)) d_Gd_matches_40 (by decide) ?_
      refine am_iand d_Gd_matches_42 ?_
      refine am_aload_n d_Gd_matches_43 rfl (by first | exact am_rvR _ | exact am_rvN | assumption) ?_
      refine am_get d_Gd_matches_44 f_Gd_33 (by first | assumption | exact am_up_at _ _ _ _) (by rfl) ?_
      refine am_cS d_Gd_matches_47 s_Gd_24 (vs := [.int (x1 >>> 6 &&& 7), .int t]) (st := []) rfl rfl (by decide) (Nat.le_of_ble_eq_true rfl) (gd_fits _ _) ?_
      rintro v S1 ⟨rfl, rfl⟩
      first | refine am_if_eqB (tgt := 57) d_Gd_matches_50 (by decide) (fun q3 => ?_) (fun q3 => ?_) | refine am_if_eqN (tgt := 57) d_Gd_matches_50 (by decide) (by omega) (fun q3 => ?_) (fun q3 => ?_) | refine am_if_eq (tgt := 57) d_Gd_matches_50 (by decide) (fun q3 => ?_) (fun q3 => ?_)
      · refine am_iconst (v := (0)) d_Gd_matches_57 (by decide) ?_
        refine am_iret d_Gd_matches_58 rfl (by first | rfl | exact am_b_nar _) ?_
        exact ⟨by simp_all [fc_mch, am_b], rfl⟩
      · refine am_iconst (v := (1)) d_Gd_matches_53 (by decide) ?_
        refine am_goto (tgt := 58) d_Gd_matches_54 (by decide) ?_
        refine am_iret d_Gd_matches_58 rfl (by first | rfl | exact am_b_nar _) ?_
        exact ⟨by simp_all [fc_mch, am_b], rfl⟩
end CND
