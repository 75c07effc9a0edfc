/-! the class: ports and hosts -/
section CPT
variable {g : am_G} {e nw ns room idle : Nat} {A : Nat → Nat} {s : cl_S} {S : am_S}
theorem ho_take {a b : Nat} {x0 x1 x2 x3 x4 x5 f t n : Int32} (ha : S.1 a = some (13, .inr (am_cHo, [.int x0, .int x1, .int x2, .int x3, .int x4, .int x5]))) (hb : S.1 b = some (0, .inr (am_cDg, [.int f, .int t, .int n]))) : am_M g y_Ho_take "(LFlowFabric$Datagram;)V" 0 0 [.ref a, .ref b] S (fun v S' => v = none ∧ S' = am_up S a 13 (.inr (am_cHo, [.int x0, .int x1, .int x2, .int (x3 + 1), .int n, .int f]))) := by
  refine am_Mof (L0 := [some (.ref a), some (.ref b)]) pl_Ho_take (am_k1 rfl (am_k1 rfl am_k0)) (Nat.le_of_ble_eq_true rfl) rfl ?_
  refine am_aload_n d_Ho_take_0 rfl (by first | exact am_rvR _ | exact am_rvN | assumption) ?_
  refine am_dup d_Ho_take_1 rfl ?_
  refine am_get d_Ho_take_2 f_Ho_21 (by first | assumption | exact am_up_at _ _ _ _) (by rfl) ?_
  refine am_iconst (v := (1)) d_Ho_take_5 (by decide) ?_
  first | refine am_iaddN d_Ho_take_6 ?_ | refine am_iadd d_Ho_take_6 ?_
  refine am_put _ d_Ho_take_7 f_Ho_21 (p_Ho_21 _) ha (by decide) rfl rfl ?_
  have hb1 := am_up_tag (t' := 13) (x' := .inr (am_cHo, [.int x0, .int x1, .int x2, .int (x3 + 1), .int x4, .int x5])) hb ha (by decide)
  refine am_aload_n d_Ho_take_10 rfl (by first | exact am_rvR _ | exact am_rvN | assumption) ?_
  refine am_aload_n d_Ho_take_11 rfl (by first | exact am_rvR _ | exact am_rvN | assumption) ?_
  refine am_get d_Ho_take_12 f_Ho_30 (by first | assumption | exact am_up_at _ _ _ _) (by rfl) ?_
  refine am_put _ d_Ho_take_15 f_Ho_24 (p_Ho_24 _) (am_up_at _ _ _ _) (by decide) rfl rfl ?_
  rw [am_up_up]
  have hb2 := am_up_tag (t' := 13) (x' := .inr (am_cHo, [.int x0, .int x1, .int x2, .int (x3 + 1), .int n, .int x5])) hb ha (by decide)
  refine am_aload_n d_Ho_take_18 rfl (by first | exact am_rvR _ | exact am_rvN | assumption) ?_
  refine am_aload_n d_Ho_take_19 rfl (by first | exact am_rvR _ | exact am_rvN | assumption) ?_
  refine am_get d_Ho_take_20 f_Ho_33 hb2 (by rfl) ?_
  refine am_put _ d_Ho_take_23 f_Ho_27 (p_Ho_27 _) (am_up_at _ _ _ _) (by decide) rfl rfl ?_
  refine am_vret d_Ho_take_26 rfl ?_
  exact ⟨rfl, by rw [am_up_up]; rfl⟩
theorem pt_isFree (hS : cl_P e nw ns room idle A s S) {q : Nat} (hq : q < 4 * ns) {h o u : Int32} (hr : s.1 (100 + q) = [[h, o, u]]) : am_M g y_Pt_isFree "()Z" 0 0 [.ref (A (100 + q))] S (fun v S' => v = some (.int (am_b (fc_free s.1 q))) ∧ S' = S) := by
  have hp : S.1 (A (100 + q)) = some (10 * (100 + q) + 1, .inr (am_cPt, [.ref (A (200 + q)), cl_hv s h, .int o, .int u])) := by
    have h1 := cl_port hS hq
    unfold cl_pt fc_get at h1
    rw [hr] at h1
    exact h1
  have ef : fc_free s.1 q = (h == -1 && o == -1) := by unfold fc_free fc_get; rw [hr]; rfl
  rw [ef]
  refine am_Mof (L0 := [some (.ref (A (100 + q)))]) pl_Pt_isFree (am_k1 rfl am_k0) (Nat.le_of_ble_eq_true rfl) rfl ?_
  by_cases hh : h = -1
  · have hv : cl_hv s h = .null := if_pos hh
    rw [hv] at hp
    refine am_aload_n d_Pt_isFree_0 rfl (by first | exact am_rvR _ | exact am_rvN | assumption) ?_
    refine am_get d_Pt_isFree_1 f_Pt_18 (by first | assumption | exact am_up_at _ _ _ _) (by rfl) ?_
    refine am_ifnonnullN d_Pt_isFree_4 ?_
    refine am_aload_n d_Pt_isFree_7 rfl (by first | exact am_rvR _ | exact am_rvN | assumption) ?_
    refine am_get d_Pt_isFree_8 f_Pt_22 (by first | assumption | exact am_up_at _ _ _ _) (by rfl) ?_
    refine am_iconst (v := (-1)) d_Pt_isFree_11 (by decide) ?_
    first | refine am_icmp_neN (tgt := 19) d_Pt_isFree_12 (by decide) (by omega) (by omega) (fun q1 => ?_) (fun q1 => ?_) | refine am_icmp_ne (tgt := 19) d_Pt_isFree_12 (by decide) (fun q1 => ?_) (fun q1 => ?_)
    · refine am_iconst (v := nI 0) d_Pt_isFree_19 (by decide) ?_
      refine am_iret d_Pt_isFree_20 rfl (by first | rfl | exact am_b_nar _) ?_
      first | exact ⟨am_bt (by simp_all), rfl⟩ | exact ⟨am_bf (by simp_all), rfl⟩
    · refine am_iconst (v := nI 1) d_Pt_isFree_15 (by decide) ?_
      refine am_goto (tgt := 20) d_Pt_isFree_16 (by decide) ?_
      refine am_iret d_Pt_isFree_20 rfl (by first | rfl | exact am_b_nar _) ?_
      first | exact ⟨am_bt (by simp_all), rfl⟩ | exact ⟨am_bf (by simp_all), rfl⟩
  · have hv : cl_hv s h = .ref ((s.2.1 1).getD h.toNatClampNeg 0) := if_neg hh
    rw [hv] at hp
    refine am_aload_n d_Pt_isFree_0 rfl (by first | exact am_rvR _ | exact am_rvN | assumption) ?_
    refine am_get d_Pt_isFree_1 f_Pt_18 (by first | assumption | exact am_up_at _ _ _ _) (by rfl) ?_
    refine am_ifnonnull (tgt := 19) d_Pt_isFree_4 (by decide) ?_
    refine am_iconst (v := nI 0) d_Pt_isFree_19 (by decide) ?_
    refine am_iret d_Pt_isFree_20 rfl (by first | rfl | exact am_b_nar _) ?_
    exact ⟨am_bf (by simp [hh]), rfl⟩
theorem pt_join (hn : ns ≤ 5) (hS : cl_P e nw ns room idle A s S) {q : Nat} (hq : q < 4 * ns) {h o u : Int32} (hr : s.1 (100 + q) = [[h, o, u]]) (z : Nat) : am_M g y_Pt_join "(I)V" 0 0 [.ref (A (100 + q)), .int (nI z)] S (fun v S' => v = none ∧ cl_Q e nw ns room idle A s S (fc_join s.1 q z) 0 0 S') := by
  have hp : S.1 (A (100 + q)) = some (10 * (100 + q) + 1, .inr (am_cPt, [.ref (A (200 + q)), cl_hv s h, .int o, .int u])) := by
    have h1 := cl_port hS hq
    unfold cl_pt fc_get at h1
    rw [hr] at h1
    exact h1
  obtain ⟨hS1, hf1⟩ := cl_putP hn hS hq hr 1 (Or.inl rfl) (nI z)
  have hr1 : (cl_st s (fc_put s.1 (100 + q) 0 1 (nI z))).1 (100 + q) = [[h, nI z, u]] := by
    show fc_put s.1 (100 + q) 0 1 (nI z) (100 + q) = _
    unfold fc_put
    rw [fc_up_same, hr]
    rfl
  obtain ⟨hS2, hf2⟩ := cl_putP hn hS1 hq hr1 2 (Or.inr rfl) 1
  refine am_Mof (L0 := [some (.ref (A (100 + q))), some (.int (nI z))]) pl_Pt_join (am_k1 rfl (am_k1 rfl am_k0)) (Nat.le_of_ble_eq_true rfl) rfl ?_
  refine am_aload_n d_Pt_join_0 rfl (by first | exact am_rvR _ | exact am_rvN | assumption) ?_
  refine am_iload_n d_Pt_join_1 rfl ?_
  refine am_put _ d_Pt_join_2 f_Pt_22 (p_Pt_22 _) hp (by omega) rfl rfl ?_
  refine am_aload_n d_Pt_join_5 rfl (by first | exact am_rvR _ | exact am_rvN | assumption) ?_
  refine am_iconst (v := (1)) d_Pt_join_6 (by decide) ?_
  refine am_put _ d_Pt_join_7 f_Pt_26 (p_Pt_26 _) (am_up_at _ _ _ _) (by omega) rfl rfl ?_
  refine am_vret d_Pt_join_10 rfl ?_
  refine ⟨rfl, _, ?_, ⟨?_, ?_⟩, hS2, hf1.trans hf2⟩
  · rfl
  · exact Nat.le_refl _
  · exact Nat.le_refl _
theorem pt_sendOut (hn : ns ≤ 5) (he : am_gE g e) (hS : cl_P e nw ns room idle A s S) {q : Nat} (hq : q < 4 * ns) {h o u : Int32} (hr : s.1 (100 + q) = [[h, o, u]]) (hh : h = -1 ∨ ∃ k, k < (s.1 1).length ∧ h = nI k) (hH : fc_iH ns s.1) (hlen : (s.1 (200 + q)).length < 60) {f : Nat} {row : List Int32} (hfr : cl_fr f row S) : am_M g y_Pt_sendOut "(LFlowFabric$Frame;)V" 7 152 [.ref (A (100 + q)), .ref f] S (fun v S' => v = none ∧ cl_Q e nw ns room idle A s S (fc_out s.1 q row) 1 90 S') := by
  have hp : S.1 (A (100 + q)) = some (10 * (100 + q) + 1, .inr (am_cPt, [.ref (A (200 + q)), cl_hv s h, .int o, .int u])) := by
    have h1 := cl_port hS hq
    unfold cl_pt fc_get at h1
    rw [hr] at h1
    exact h1
  have e0 : fc_get s.1 (100 + q) 0 0 = h := by unfold fc_get; rw [hr]; rfl
  have e2 : fc_get s.1 (100 + q) 0 2 = u := by unfold fc_get; rw [hr]; rfl
  have hL : cl_isL ns (200 + q) := by unfold cl_isL; omega
  have hid : cl_Q e nw ns room idle A s S s.1 1 90 S := ⟨s, rfl, ⟨by omega, by omega⟩, hS, am_fr.refl _ _⟩
  refine am_Mof (L0 := [some (.ref (A (100 + q))), some (.ref f)]) pl_Pt_sendOut (am_k1 rfl (am_k1 rfl am_k0)) (Nat.le_of_ble_eq_true rfl) rfl ?_
  rcases hh with hh | ⟨k, hk, hh⟩
  · have hv : cl_hv s h = .null := if_pos hh
    rw [hv] at hp
    have eo : fc_out s.1 q row = if u != 0 && decide (fc_len s.1 (200 + q) < 6) then fc_add s.1 (200 + q) row else s.1 := by
      unfold fc_out
      rw [e0, e2, hh]
      rfl
    refine am_aload_n d_Pt_sendOut_0 rfl (by first | exact am_rvR _ | exact am_rvN | assumption) ?_
    refine am_get d_Pt_sendOut_1 f_Pt_18 (by first | assumption | exact am_up_at _ _ _ _) (by rfl) ?_
    refine am_ifnullN (tgt := 45) d_Pt_sendOut_4 (by decide) ?_
    refine am_aload_n d_Pt_sendOut_45 rfl (by first | exact am_rvR _ | exact am_rvN | assumption) ?_
    refine am_get d_Pt_sendOut_46 f_Pt_26 (by first | assumption | exact am_up_at _ _ _ _) (by rfl) ?_
    refine am_if_eq (tgt := 73) d_Pt_sendOut_49 (by decide) (fun q1 => ?_) (fun q1 => ?_)
    · refine am_vret d_Pt_sendOut_73 rfl ?_
      refine ⟨rfl, ?_⟩
      rw [eo, if_neg (by simp [q1])]
      exact hid
    · refine am_aload_n d_Pt_sendOut_52 rfl (by first | exact am_rvR _ | exact am_rvN | assumption) ?_
      refine am_get d_Pt_sendOut_53 f_Pt_12 (by first | assumption | exact am_up_at _ _ _ _) (by rfl) ?_
      refine am_cV (b := A (200 + q)) d_Pt_sendOut_56 v_Pt_50 (vs := []) (st := []) rfl rfl (by decide) (Nat.le_of_ble_eq_true rfl) (cl_list hS hL).1.choose_spec.choose_spec.choose_spec.choose_spec.1 (cl_size hS hL) ?_
      rintro v S1 ⟨rfl, rfl⟩
      refine am_bipush (v := nI 6) d_Pt_sendOut_59 (by decide) ?_
      refine am_icmp_geN (tgt := 73) d_Pt_sendOut_61 (by decide) (by omega) (by omega) (fun q2 => ?_) (fun q2 => ?_)
      · refine am_vret d_Pt_sendOut_73 rfl ?_
        refine ⟨rfl, ?_⟩
        rw [eo, if_neg (by rw [Bool.and_eq_true]; rintro ⟨_, z⟩; rw [decide_eq_true_eq] at z; unfold fc_len at z; omega)]
        exact hid
      · refine am_aload_n d_Pt_sendOut_64 rfl (by first | exact am_rvR _ | exact am_rvN | assumption) ?_
        refine am_get d_Pt_sendOut_65 f_Pt_12 (by first | assumption | exact am_up_at _ _ _ _) (by rfl) ?_
        refine am_aload_n d_Pt_sendOut_68 rfl (by first | exact am_rvR _ | exact am_rvN | assumption) ?_
        refine am_cV (b := A (200 + q)) d_Pt_sendOut_69 v_Pt_54 (vs := [.ref f]) (st := []) rfl rfl (by decide) (Nat.le_of_ble_eq_true rfl) (cl_list hS hL).1.choose_spec.choose_spec.choose_spec.choose_spec.1 (cl_addM (row := row) hn he hS hL hlen (by unfold cl_el; rw [if_neg (by omega), if_neg (by omega), if_neg (by omega), if_neg (by omega), if_neg (by omega)]; exact hfr) (fun z => by omega)) ?_
        rintro v S1 ⟨rfl, hS1, hf1⟩
        refine am_pop d_Pt_sendOut_72 rfl ?_
        refine am_vret d_Pt_sendOut_73 rfl ?_
        refine ⟨rfl, _, ?_, ⟨Nat.le_refl _, Nat.le_refl _⟩, hS1, hf1⟩
        rw [eo, if_pos (by rw [Bool.and_eq_true, decide_eq_true_eq]; exact ⟨by simpa using q1, by unfold fc_len; omega⟩)]
        rfl
  · have hne : h ≠ -1 := by
      rw [hh]
      intro z
      have := congrArg Int32.toInt z
      rw [nI_toInt (by have := hH.2.1; omega), am_m1] at this
      omega
    obtain ⟨a, rk, ha, hrk, hel⟩ := cl_at (cl_hosts hS).2.2 hk
    obtain ⟨i, p, x3, x4, x5, hi, hp4, hrow⟩ := hH.2.2 k rk hrk
    have hv : cl_hv s h = .ref a := by
      unfold cl_hv
      rw [if_neg hne, hh, nI_clamp (by have := hH.2.1; omega), List.getD_eq_getElem?_getD, ha]
      rfl
    rw [hv] at hp
    subst hrow
    have hel' : S.1 a = some (13, .inr (am_cHo, [.int (nI k), .int (nI i), .int (nI p), .int x3, .int x4, .int x5])) := hel.1
    have eo : fc_out s.1 q row = if row.getD 0 0 != -1 && row.getD 1 0 == h then fc_take s.1 k row else s.1 := by
      unfold fc_out
      rw [e0, if_pos (by simpa using hne), hh, nI_clamp (by have := hH.2.1; omega)]
    obtain ⟨hr3, ⟨hm, hf0⟩ | ⟨hm, b, hf0, hb0⟩⟩ := hfr
    · refine am_aload_n d_Pt_sendOut_0 rfl (by first | exact am_rvR _ | exact am_rvN | assumption) ?_
      refine am_get d_Pt_sendOut_1 f_Pt_18 (by first | assumption | exact am_up_at _ _ _ _) (by rfl) ?_
      refine am_ifnull d_Pt_sendOut_4 ?_
      refine am_aload_n d_Pt_sendOut_7 rfl (by first | exact am_rvR _ | exact am_rvN | assumption) ?_
      refine am_get d_Pt_sendOut_8 f_Pt_30 hf0 (by rfl) ?_
      refine am_ifnullN (tgt := 73) d_Pt_sendOut_11 (by decide) ?_
      refine am_vret d_Pt_sendOut_73 rfl ?_
      refine ⟨rfl, ?_⟩
      rw [eo, if_neg (by rw [hm]; simp)]
      exact hid
    · obtain ⟨y0, y1, y2, rfl⟩ : ∃ y0 y1 y2, row = [y0, y1, y2] := by
        match row, hr3 with
        | [y0, y1, y2], _ => exact ⟨y0, y1, y2, rfl⟩
      have hb1 : S.1 b = some (0, .inr (am_cDg, [.int y0, .int y1, .int y2])) := hb0
      refine am_aload_n d_Pt_sendOut_0 rfl (by first | exact am_rvR _ | exact am_rvN | assumption) ?_
      refine am_get d_Pt_sendOut_1 f_Pt_18 (by first | assumption | exact am_up_at _ _ _ _) (by rfl) ?_
      refine am_ifnull d_Pt_sendOut_4 ?_
      refine am_aload_n d_Pt_sendOut_7 rfl (by first | exact am_rvR _ | exact am_rvN | assumption) ?_
      refine am_get d_Pt_sendOut_8 f_Pt_30 hf0 (by rfl) ?_
      refine am_ifnull d_Pt_sendOut_11 ?_
      refine am_aload_n d_Pt_sendOut_14 rfl (by first | exact am_rvR _ | exact am_rvN | assumption) ?_
      refine am_get d_Pt_sendOut_15 f_Pt_30 hf0 (by rfl) ?_
      refine am_get d_Pt_sendOut_18 f_Pt_36 hb1 (by rfl) ?_
      refine am_aload_n d_Pt_sendOut_21 rfl (by first | exact am_rvR _ | exact am_rvN | assumption) ?_
      refine am_get d_Pt_sendOut_22 f_Pt_18 hp (by rfl) ?_
      refine am_get d_Pt_sendOut_25 f_Pt_41 hel' (by rfl) ?_
      refine am_icmp_ne (tgt := 73) d_Pt_sendOut_28 (by decide) (fun q1 => ?_) (fun q1 => ?_)
      · refine am_vret d_Pt_sendOut_73 rfl ?_
        refine ⟨rfl, ?_⟩
        rw [eo, if_neg (by simp [hh]; intro _; exact q1)]
        exact hid
      · refine am_aload_n d_Pt_sendOut_31 rfl (by first | exact am_rvR _ | exact am_rvN | assumption) ?_
        refine am_get d_Pt_sendOut_32 f_Pt_18 hp (by rfl) ?_
        refine am_aload_n d_Pt_sendOut_35 rfl (by first | exact am_rvR _ | exact am_rvN | assumption) ?_
        refine am_get d_Pt_sendOut_36 f_Pt_30 hf0 (by rfl) ?_
        refine am_cV (b := a) d_Pt_sendOut_39 v_Pt_46 (vs := [.ref b]) (st := []) rfl rfl (by decide) (Nat.le_of_ble_eq_true rfl) hel' (ho_take hel' hb1) ?_
        rintro v S1 ⟨rfl, rfl⟩
        refine am_goto (tgt := 73) d_Pt_sendOut_42 (by decide) ?_
        refine am_vret d_Pt_sendOut_73 rfl ?_
        obtain ⟨hS1, hf1⟩ := cl_setel hn hS (c := 1) (row' := [nI k, nI i, nI p, x3 + 1, y2, y0]) (Or.inl rfl) ha hrk rfl
        refine ⟨rfl, _, ?_, ⟨by show s.2.2.1 ≤ _; omega, by show s.2.2.2 ≤ _; omega⟩, hS1, hf1⟩
        rw [eo, if_pos (by simp [hh, q1]; exact hm)]
        show fc_up s.1 1 _ = _
        unfold fc_take fc_put fc_get
        simp only [fc_up_same, List.getD_eq_getElem?_getD, List.getElem?_set_self (List.getElem?_eq_some_iff.mp hrk).1, hrk, Option.getD_some, List.length_set, List.set_set]
        unfold fc_up
        funext c
        by_cases ec : c = 1 <;> simp [ec]
end CPT
