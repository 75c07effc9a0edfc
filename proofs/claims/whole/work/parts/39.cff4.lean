/-! the class: waiting, rule, taken, turn -/
section CFD
variable {g : am_G} {e nw ns room idle : Nat} {A : Nat → Nat} {s : cl_S} {S : am_S}
theorem ff_waiting (hn : ns ≤ 5) (hS : cl_P e nw ns room idle A s S) (x k : Int32) : am_M g y_FF_waiting "(II)I" 1 21 [.ref (A 0), .int x, .int k] S (fun v S' => v = some (.int (fc_waiting ns s.1 x k)) ∧ S' = S) := by
  refine am_Mof (L0 := [some (.ref (A 0)), some (.int x), some (.int k)]) pl_FF_waiting (am_k1 rfl (am_k1 rfl (am_k1 rfl am_k0))) (Nat.le_of_ble_eq_true rfl) rfl ?_
  refine am_aload_n d_FF_waiting_0 rfl (by first | exact am_rvR _ | exact am_rvN | assumption) ?_
  refine am_iload_n d_FF_waiting_1 rfl ?_
  refine am_cV (b := A 0) d_FF_waiting_2 v_FF_103 (vs := [.int x]) (st := []) rfl rfl (by decide) (Nat.le_of_ble_eq_true rfl) (cl_fab hS) (cq_isSwitch hS hn x) ?_
  rintro v S2 ⟨rfl, rfl⟩
  first | refine am_if_neB (tgt := 10) d_FF_waiting_5 (by decide) (fun q1 => ?_) (fun q1 => ?_) | refine am_if_neN (tgt := 10) d_FF_waiting_5 (by decide) (by omega) (fun q1 => ?_) (fun q1 => ?_) | refine am_if_ne (tgt := 10) d_FF_waiting_5 (by decide) (fun q1 => ?_) (fun q1 => ?_)
  · obtain ⟨i, hi, ex⟩ := fc_sw_nat hn q1
    subst ex
    have ec := nI_clamp (n := i) (by omega)
    refine am_iload_n d_FF_waiting_10 rfl ?_
    first | refine am_if_ltN (tgt := 37) d_FF_waiting_11 (by decide) (by omega) (fun q2 => ?_) (fun q2 => ?_) | refine am_if_lt (tgt := 37) d_FF_waiting_11 (by decide) (fun q2 => ?_) (fun q2 => ?_)
    · have h4 : (nI 4).toInt = (4 : Int32).toInt := by decide
      have hnp : (decide (0 ≤ k) && decide (k < 4)) = false := by
        rw [Bool.and_eq_false_iff, decide_eq_false_iff_not, decide_eq_false_iff_not]
        first | exact Or.inl (fun z => by rw [Int32.lt_iff_toInt_lt] at q2; rw [Int32.le_iff_toInt_le] at z; omega) | exact Or.inr (fun z => by rw [Int32.le_iff_toInt_le] at q3; rw [Int32.lt_iff_toInt_lt] at z; omega)
      have ew : fc_waiting ns s.1 (nI i) k = if k = 4 then nI (s.1 (30 + i)).length else if k = 5 then nI (s.1 (40 + i)).length else -1 := by
        unfold fc_waiting fc_len
        rw [if_pos q1, if_neg (by rw [hnp]; decide), ec]
      rw [ew]
      refine am_iload_n d_FF_waiting_37 rfl ?_
      have hL3 : cl_isL ns (30 + i) := by unfold cl_isL; omega
      have hL4 : cl_isL ns (40 + i) := by unfold cl_isL; omega
      by_cases k4 : k = 4
      · subst k4
        refine am_lookup (off := 26) (tgt := 64) d_FF_waiting_38 (by decide) (by decide) (by decide) ?_
        refine am_aload_n d_FF_waiting_64 rfl (by first | exact am_rvR _ | exact am_rvN | assumption) ?_
        refine am_get d_FF_waiting_65 f_FF_18 (cl_fab hS) (by rfl) ?_
        refine am_iload_n d_FF_waiting_68 rfl ?_
        refine am_aald d_FF_waiting_69 am_kN_ok rfl (cl_nodes hS) rfl (cl_nodes_at hi) (by simp; omega) ?_
        refine am_get d_FF_waiting_70 f_FF_165 (cl_node hS hi) (by rfl) ?_
        refine am_cV (b := A (30 + i)) d_FF_waiting_73 v_FF_116 (vs := []) (st := []) rfl rfl (by decide) (Nat.le_of_ble_eq_true rfl) (cl_list hS hL3).1.choose_spec.choose_spec.choose_spec.choose_spec.1 (cl_size hS hL3) ?_
        rintro v S2 ⟨rfl, rfl⟩
        refine am_iret d_FF_waiting_76 rfl (by first | rfl | exact am_b_nar _) ?_
        exact ⟨by rw [if_pos rfl], rfl⟩
      by_cases k5 : k = 5
      · subst k5
        refine am_lookup (off := 39) (tgt := 77) d_FF_waiting_38 (by decide) (by decide) (by decide) ?_
        refine am_aload_n d_FF_waiting_77 rfl (by first | exact am_rvR _ | exact am_rvN | assumption) ?_
        refine am_get d_FF_waiting_78 f_FF_18 (cl_fab hS) (by rfl) ?_
        refine am_iload_n d_FF_waiting_81 rfl ?_
        refine am_aald d_FF_waiting_82 am_kN_ok rfl (cl_nodes hS) rfl (cl_nodes_at hi) (by simp; omega) ?_
        refine am_get d_FF_waiting_83 f_FF_177 (cl_node hS hi) (by rfl) ?_
        refine am_cV (b := A (40 + i)) d_FF_waiting_86 v_FF_116 (vs := []) (st := []) rfl rfl (by decide) (Nat.le_of_ble_eq_true rfl) (cl_list hS hL4).1.choose_spec.choose_spec.choose_spec.choose_spec.1 (cl_size hS hL4) ?_
        rintro v S2 ⟨rfl, rfl⟩
        refine am_iret d_FF_waiting_89 rfl (by first | rfl | exact am_b_nar _) ?_
        exact ⟨by rw [if_neg (by decide), if_pos rfl], rfl⟩
      refine am_lookup (off := 52) (tgt := 90) d_FF_waiting_38 (by decide) (by rw [show #[((4 : Int), (26 : Int)), (5, 39)].toList = [(4, 26), (5, 39)] from rfl, lv_osw k4 (by decide), lv_osw k5 (by decide)]; rfl) (by decide) ?_
      refine am_iconst (v := (-1)) d_FF_waiting_90 (by decide) ?_
      refine am_iret d_FF_waiting_91 rfl (by first | rfl | exact am_b_nar _) ?_
      exact ⟨by rw [if_neg k4, if_neg k5], rfl⟩
    · refine am_iload_n d_FF_waiting_14 rfl ?_
      refine am_iconst (v := nI 4) d_FF_waiting_15 (by decide) ?_
      first | refine am_icmp_geN (tgt := 37) d_FF_waiting_16 (by decide) (by omega) (by omega) (fun q3 => ?_) (fun q3 => ?_) | refine am_icmp_ge (tgt := 37) d_FF_waiting_16 (by decide) (fun q3 => ?_) (fun q3 => ?_)
      · have h4 : (nI 4).toInt = (4 : Int32).toInt := by decide
        have hnp : (decide (0 ≤ k) && decide (k < 4)) = false := by
          rw [Bool.and_eq_false_iff, decide_eq_false_iff_not, decide_eq_false_iff_not]
          first | exact Or.inl (fun z => by rw [Int32.lt_iff_toInt_lt] at q2; rw [Int32.le_iff_toInt_le] at z; omega) | exact Or.inr (fun z => by rw [Int32.le_iff_toInt_le] at q3; rw [Int32.lt_iff_toInt_lt] at z; omega)
        have ew : fc_waiting ns s.1 (nI i) k = if k = 4 then nI (s.1 (30 + i)).length else if k = 5 then nI (s.1 (40 + i)).length else -1 := by
          unfold fc_waiting fc_len
          rw [if_pos q1, if_neg (by rw [hnp]; decide), ec]
        rw [ew]
        refine am_iload_n d_FF_waiting_37 rfl ?_
        have hL3 : cl_isL ns (30 + i) := by unfold cl_isL; omega
        have hL4 : cl_isL ns (40 + i) := by unfold cl_isL; omega
        by_cases k4 : k = 4
        · subst k4
          refine am_lookup (off := 26) (tgt := 64) d_FF_waiting_38 (by decide) (by decide) (by decide) ?_
          refine am_aload_n d_FF_waiting_64 rfl (by first | exact am_rvR _ | exact am_rvN | assumption) ?_
          refine am_get d_FF_waiting_65 f_FF_18 (cl_fab hS) (by rfl) ?_
          refine am_iload_n d_FF_waiting_68 rfl ?_
          refine am_aald d_FF_waiting_69 am_kN_ok rfl (cl_nodes hS) rfl (cl_nodes_at hi) (by simp; omega) ?_
          refine am_get d_FF_waiting_70 f_FF_165 (cl_node hS hi) (by rfl) ?_
          refine am_cV (b := A (30 + i)) d_FF_waiting_73 v_FF_116 (vs := []) (st := []) rfl rfl (by decide) (Nat.le_of_ble_eq_true rfl) (cl_list hS hL3).1.choose_spec.choose_spec.choose_spec.choose_spec.1 (cl_size hS hL3) ?_
          rintro v S2 ⟨rfl, rfl⟩
          refine am_iret d_FF_waiting_76 rfl (by first | rfl | exact am_b_nar _) ?_
          exact ⟨by rw [if_pos rfl], rfl⟩
        by_cases k5 : k = 5
        · subst k5
          refine am_lookup (off := 39) (tgt := 77) d_FF_waiting_38 (by decide) (by decide) (by decide) ?_
          refine am_aload_n d_FF_waiting_77 rfl (by first | exact am_rvR _ | exact am_rvN | assumption) ?_
          refine am_get d_FF_waiting_78 f_FF_18 (cl_fab hS) (by rfl) ?_
          refine am_iload_n d_FF_waiting_81 rfl ?_
          refine am_aald d_FF_waiting_82 am_kN_ok rfl (cl_nodes hS) rfl (cl_nodes_at hi) (by simp; omega) ?_
          refine am_get d_FF_waiting_83 f_FF_177 (cl_node hS hi) (by rfl) ?_
          refine am_cV (b := A (40 + i)) d_FF_waiting_86 v_FF_116 (vs := []) (st := []) rfl rfl (by decide) (Nat.le_of_ble_eq_true rfl) (cl_list hS hL4).1.choose_spec.choose_spec.choose_spec.choose_spec.1 (cl_size hS hL4) ?_
          rintro v S2 ⟨rfl, rfl⟩
          refine am_iret d_FF_waiting_89 rfl (by first | rfl | exact am_b_nar _) ?_
          exact ⟨by rw [if_neg (by decide), if_pos rfl], rfl⟩
        refine am_lookup (off := 52) (tgt := 90) d_FF_waiting_38 (by decide) (by rw [show #[((4 : Int), (26 : Int)), (5, 39)].toList = [(4, 26), (5, 39)] from rfl, lv_osw k4 (by decide), lv_osw k5 (by decide)]; rfl) (by decide) ?_
        refine am_iconst (v := (-1)) d_FF_waiting_90 (by decide) ?_
        refine am_iret d_FF_waiting_91 rfl (by first | rfl | exact am_b_nar _) ?_
        exact ⟨by rw [if_neg k4, if_neg k5], rfl⟩
      · have hpt : fc_sw 4 k = true := by
          unfold fc_sw
          rw [Bool.and_eq_true, decide_eq_true_eq, decide_eq_true_eq]
          exact ⟨Int32.not_lt.mp q2, Int32.not_le.mp q3⟩
        obtain ⟨p', hp, ep⟩ := fc_sw_nat (by omega) hpt
        subst ep
        have e1 := fc_e_nat (show i < 5 by omega) hp
        have hL : cl_isL ns (200 + (4 * i + p')) := by unfold cl_isL; omega
        refine am_aload_n d_FF_waiting_19 rfl (by first | exact am_rvR _ | exact am_rvN | assumption) ?_
        refine am_get d_FF_waiting_20 f_FF_18 (cl_fab hS) (by rfl) ?_
        refine am_iload_n d_FF_waiting_23 rfl ?_
        refine am_aald d_FF_waiting_24 am_kN_ok rfl (cl_nodes hS) rfl (cl_nodes_at hi) (by simp; omega) ?_
        refine am_get d_FF_waiting_25 f_FF_51 (cl_node hS hi) (by rfl) ?_
        refine am_iload_n d_FF_waiting_28 rfl ?_
        refine am_aald d_FF_waiting_29 am_kP_ok rfl (cl_ports hS hi) rfl (cl_ports_at hp) (by show 4 < 2 ^ 31; decide) ?_
        refine am_get d_FF_waiting_30 f_FF_153 (cl_port hS (by omega)) (by rfl) ?_
        refine am_cV (b := A (200 + (4 * i + p'))) d_FF_waiting_33 v_FF_116 (vs := []) (st := []) rfl rfl (by decide) (Nat.le_of_ble_eq_true rfl) (cl_list hS hL).1.choose_spec.choose_spec.choose_spec.choose_spec.1 (cl_size hS hL) ?_
        rintro v S2 ⟨rfl, rfl⟩
        refine am_iret d_FF_waiting_36 rfl (by first | rfl | exact am_b_nar _) ?_
        refine ⟨?_, rfl⟩
        unfold fc_waiting fc_len
        rw [if_pos q1, if_pos (show (decide (0 ≤ nI p') && decide (nI p' < 4)) = true from hpt), e1]
  · refine am_iconst (v := (-1)) d_FF_waiting_8 (by decide) ?_
    refine am_iret d_FF_waiting_9 rfl (by first | rfl | exact am_b_nar _) ?_
    exact ⟨by unfold fc_waiting; rw [if_neg (by rw [q1]; decide)], rfl⟩
theorem am_out3 {k : Int32} (k0 : k ≠ 0) (k1 : k ≠ 1) (k2 : k ≠ 2) : k.toInt < 0 ∨ 2 < k.toInt := by
  by_cases h : k.toInt < 0
  · exact Or.inl h
  · refine Or.inr (Classical.byContradiction fun h2 => ?_)
    have : k.toInt = 0 ∨ k.toInt = 1 ∨ k.toInt = 2 := by omega
    rcases this with h3 | h3 | h3
    · exact k0 (Int32.toInt_inj.mp (by rw [h3, am_i0]))
    · exact k1 (Int32.toInt_inj.mp (by rw [h3, am_i1]))
    · exact k2 (Int32.toInt_inj.mp (by rw [h3, am_i2]))
theorem ff_rule (hn : ns ≤ 5) (hS : cl_P e nw ns room idle A s S) (IR : fc_iR ns room s.1) (hr8 : room ≤ 8) (x f t k : Int32) : am_M g y_FF_rule "(IIII)I" 4 88 [.ref (A 0), .int x, .int f, .int t, .int k] S (fun v S' => v = some (.int (fc_rule ns s.1 x f t k)) ∧ S' = S) := by
  refine am_Mof (L0 := [some (.ref (A 0)), some (.int x), some (.int f), some (.int t), some (.int k), none, none]) pl_FF_rule (am_k1 rfl (am_k1 rfl (am_k1 rfl (am_k1 rfl (am_k1 rfl am_k0))))) (Nat.le_of_ble_eq_true rfl) rfl ?_
  refine am_aload_n d_FF_rule_0 rfl (by first | exact am_rvR _ | exact am_rvN | assumption) ?_
  refine am_iload_n d_FF_rule_1 rfl ?_
  refine am_cV (b := A 0) d_FF_rule_2 v_FF_103 (vs := [.int x]) (st := []) rfl rfl (by decide) (Nat.le_of_ble_eq_true rfl) (cl_fab hS) (cq_isSwitch hS hn x) ?_
  rintro v S2 ⟨rfl, rfl⟩
  first | refine am_if_neB (tgt := 10) d_FF_rule_5 (by decide) (fun q1 => ?_) (fun q1 => ?_) | refine am_if_neN (tgt := 10) d_FF_rule_5 (by decide) (by omega) (fun q1 => ?_) (fun q1 => ?_) | refine am_if_ne (tgt := 10) d_FF_rule_5 (by decide) (fun q1 => ?_) (fun q1 => ?_)
  · obtain ⟨i, hi, ex⟩ := fc_sw_nat hn q1
    subst ex
    have ec := nI_clamp (n := i) (by omega)
    have hL : cl_isL ns (20 + i) := by unfold cl_isL; omega
    have h8 := (IR i hi).1
    refine am_aload_n d_FF_rule_10 rfl (by first | exact am_rvR _ | exact am_rvN | assumption) ?_
    refine am_get d_FF_rule_11 f_FF_18 (cl_fab hS) (by rfl) ?_
    refine am_iload_n d_FF_rule_14 rfl ?_
    refine am_aald d_FF_rule_15 am_kN_ok rfl (cl_nodes hS) rfl (cl_nodes_at hi) (by simp; omega) ?_
    refine am_iload_n d_FF_rule_16 rfl ?_
    refine am_iload_n d_FF_rule_17 rfl ?_
    refine am_cV (b := A (50 + i)) d_FF_rule_18 v_FF_191 (vs := [.int f, .int t]) (st := []) rfl rfl (by decide) (Nat.le_of_ble_eq_true rfl) (cl_node hS hi) (nd_rix hn hS hi f t) ?_
    rintro v S2 ⟨rfl, rfl⟩
    cases hx : fc_rix s.1 i f t with
    | none =>
      refine am_istore (L1 := [_, _, _, _, _, _, _]) d_FF_rule_21 (by decide) rfl ?_
      refine am_iload d_FF_rule_23 rfl ?_
      refine am_iconst (v := (-1)) d_FF_rule_25 (by decide) ?_
      refine am_icmp_ne (tgt := 31) d_FF_rule_26 (by decide) (fun q => absurd rfl q) (fun _ => ?_)
      refine am_iconst (v := (-1)) d_FF_rule_29 (by decide) ?_
      refine am_iret d_FF_rule_30 rfl (by first | rfl | exact am_b_nar _) ?_
      exact ⟨by unfold fc_rule; rw [if_pos q1, ec, hx], rfl⟩
    | some j =>
      have hk := fc_rix_some hx
      obtain ⟨a, f', t', pp, mm, ll, uu, ha, hr, ho, -⟩ := cl_rl hn hS hi IR hk
      have er : fc_rule ns s.1 (nI i) f t k = if k = 0 then nI pp else if k = 1 then uu else if k = 2 then nI j else -1 := by
        unfold fc_rule
        rw [if_pos q1, ec, hx]
        simp only [fc_get_row hr]
        rfl
      rw [er]
      refine am_istore (L1 := [_, _, _, _, _, _, _]) d_FF_rule_21 (by decide) rfl ?_
      refine am_iload d_FF_rule_23 rfl ?_
      refine am_iconst (v := (-1)) d_FF_rule_25 (by decide) ?_
      refine am_icmp_ne (tgt := 31) d_FF_rule_26 (by decide) (fun _ => ?_) (fun q => absurd q (cl_ix_ne (by omega)))
      refine am_aload_n d_FF_rule_31 rfl (by first | exact am_rvR _ | exact am_rvN | assumption) ?_
      refine am_get d_FF_rule_32 f_FF_18 (cl_fab hS) (by rfl) ?_
      refine am_iload_n d_FF_rule_35 rfl ?_
      refine am_aald d_FF_rule_36 am_kN_ok rfl (cl_nodes hS) rfl (cl_nodes_at hi) (by simp; omega) ?_
      refine am_get d_FF_rule_37 f_FF_194 (cl_node hS hi) (by rfl) ?_
      refine am_iload d_FF_rule_40 rfl ?_
      refine am_cV (b := A (20 + i)) d_FF_rule_42 v_FF_197 (vs := [.int (nI j)]) (st := []) rfl rfl (by decide) (Nat.le_of_ble_eq_true rfl) (cl_list hS hL).1.choose_spec.choose_spec.choose_spec.choose_spec.1 (cl_getM hS hL ha) ?_
      rintro v S2 ⟨rfl, rfl⟩
      refine am_cast d_FF_rule_45 k_FF_200 (q := am_qRl) rfl (Or.inl rfl) ho ?_
      refine am_astore (L1 := [_, _, _, _, _, _, _]) d_FF_rule_48 (by decide) (by first | exact am_rvR _ | exact am_rvN | assumption) rfl ?_
      refine am_iload d_FF_rule_50 rfl ?_
      by_cases k0 : k = 0
      · subst k0
        refine am_tableIn (off := 28) (tgt := 80) d_FF_rule_52 (by decide) (by decide) (by decide) (by decide) ?_
        refine am_aload d_FF_rule_80 rfl (by first | exact am_rvR _ | exact am_rvN | assumption) ?_
        refine am_get d_FF_rule_82 f_FF_202 ho (by rfl) ?_
        refine am_iret d_FF_rule_85 rfl (by first | rfl | exact am_b_nar _) ?_
        exact ⟨by rw [if_pos rfl], rfl⟩
      by_cases k1 : k = 1
      · subst k1
        refine am_tableIn (off := 34) (tgt := 86) d_FF_rule_52 (by decide) (by decide) (by decide) (by decide) ?_
        refine am_aload d_FF_rule_86 rfl (by first | exact am_rvR _ | exact am_rvN | assumption) ?_
        refine am_get d_FF_rule_88 f_FF_203 ho (by rfl) ?_
        refine am_iret d_FF_rule_91 rfl (by first | rfl | exact am_b_nar _) ?_
        exact ⟨by rw [if_neg (by decide), if_pos rfl], rfl⟩
      by_cases k2 : k = 2
      · subst k2
        refine am_tableIn (off := 40) (tgt := 92) d_FF_rule_52 (by decide) (by decide) (by decide) (by decide) ?_
        refine am_iload d_FF_rule_92 rfl ?_
        refine am_iret d_FF_rule_94 rfl (by first | rfl | exact am_b_nar _) ?_
        exact ⟨by rw [if_neg (by decide), if_neg (by decide), if_pos rfl]; rfl, rfl⟩
      refine am_tableOut (tgt := 95) d_FF_rule_52 (am_out3 k0 k1 k2) (by decide) ?_
      refine am_iconst (v := (-1)) d_FF_rule_95 (by decide) ?_
      refine am_iret d_FF_rule_96 rfl (by first | rfl | exact am_b_nar _) ?_
      exact ⟨by rw [if_neg k0, if_neg k1, if_neg k2], rfl⟩
  · refine am_iconst (v := (-1)) d_FF_rule_8 (by decide) ?_
    refine am_iret d_FF_rule_9 rfl (by first | rfl | exact am_b_nar _) ?_
    exact ⟨by unfold fc_rule; rw [if_neg (by rw [q1]; decide)], rfl⟩
theorem ff_taken (hn : ns ≤ 5) (hS : cl_P e nw ns room idle A s S) (IH : fc_iH ns s.1) (x k : Int32) : am_M g y_FF_taken "(II)I" 1 21 [.ref (A 0), .int x, .int k] S (fun v S' => v = some (.int (fc_taken s.1 x k)) ∧ S' = S) := by
  refine am_Mof (L0 := [some (.ref (A 0)), some (.int x), some (.int k)]) pl_FF_taken (am_k1 rfl (am_k1 rfl (am_k1 rfl am_k0))) (Nat.le_of_ble_eq_true rfl) rfl ?_
  refine am_aload_n d_FF_taken_0 rfl (by first | exact am_rvR _ | exact am_rvN | assumption) ?_
  refine am_iload_n d_FF_taken_1 rfl ?_
  refine am_cV (b := A 0) d_FF_taken_2 v_FF_137 (vs := [.int x]) (st := []) rfl rfl (by decide) (Nat.le_of_ble_eq_true rfl) (cl_fab hS) (cq_isHost hS IH x) ?_
  rintro v S2 ⟨rfl, rfl⟩
  first | refine am_if_neB (tgt := 10) d_FF_taken_5 (by decide) (fun q1 => ?_) (fun q1 => ?_) | refine am_if_neN (tgt := 10) d_FF_taken_5 (by decide) (by omega) (fun q1 => ?_) (fun q1 => ?_) | refine am_if_ne (tgt := 10) d_FF_taken_5 (by decide) (fun q1 => ?_) (fun q1 => ?_)
  · obtain ⟨h, hh, ex⟩ := fc_hs_nat IH.2.1 q1
    have h6 := IH.2.1
    obtain ⟨a, i, p, x3, x4, x5, ha, hr, ho, hi, hp, hat, hlen⟩ := cl_ho hS IH hh
    have er : fc_taken s.1 x k = if k = 0 then x3 else if k = 1 then x4 else if k = 2 then x5 else -1 := by
      unfold fc_taken
      rw [if_pos q1, ex, nI_clamp (by omega)]
      simp only [fc_get_row hr]
      rfl
    rw [er]
    refine am_iload_n d_FF_taken_10 rfl ?_
    by_cases k0 : k = 0
    · subst k0
      refine am_tableIn (off := 25) (tgt := 36) d_FF_taken_11 (by decide) (by decide) (by decide) (by decide) ?_
      refine am_aload_n d_FF_taken_36 rfl (by first | exact am_rvR _ | exact am_rvN | assumption) ?_
      refine am_get d_FF_taken_37 f_FF_28 (cl_fab hS) (by rfl) ?_
      refine am_iload_n d_FF_taken_40 rfl ?_
      refine am_aald (j := h) d_FF_taken_41 am_kH_ok rfl (cl_hosts hS).1 ex hat (by rw [hlen]; decide) ?_
      refine am_get d_FF_taken_42 f_FF_206 ho (by rfl) ?_
      refine am_iret d_FF_taken_45 rfl (by first | rfl | exact am_b_nar _) ?_
      exact ⟨by rw [if_pos rfl], rfl⟩
    by_cases k1 : k = 1
    · subst k1
      refine am_tableIn (off := 35) (tgt := 46) d_FF_taken_11 (by decide) (by decide) (by decide) (by decide) ?_
      refine am_aload_n d_FF_taken_46 rfl (by first | exact am_rvR _ | exact am_rvN | assumption) ?_
      refine am_get d_FF_taken_47 f_FF_28 (cl_fab hS) (by rfl) ?_
      refine am_iload_n d_FF_taken_50 rfl ?_
      refine am_aald (j := h) d_FF_taken_51 am_kH_ok rfl (cl_hosts hS).1 ex hat (by rw [hlen]; decide) ?_
      refine am_get d_FF_taken_52 f_FF_209 ho (by rfl) ?_
      refine am_iret d_FF_taken_55 rfl (by first | rfl | exact am_b_nar _) ?_
      exact ⟨by rw [if_neg (by decide), if_pos rfl], rfl⟩
    by_cases k2 : k = 2
    · subst k2
      refine am_tableIn (off := 45) (tgt := 56) d_FF_taken_11 (by decide) (by decide) (by decide) (by decide) ?_
      refine am_aload_n d_FF_taken_56 rfl (by first | exact am_rvR _ | exact am_rvN | assumption) ?_
      refine am_get d_FF_taken_57 f_FF_28 (cl_fab hS) (by rfl) ?_
      refine am_iload_n d_FF_taken_60 rfl ?_
      refine am_aald (j := h) d_FF_taken_61 am_kH_ok rfl (cl_hosts hS).1 ex hat (by rw [hlen]; decide) ?_
      refine am_get d_FF_taken_62 f_FF_212 ho (by rfl) ?_
      refine am_iret d_FF_taken_65 rfl (by first | rfl | exact am_b_nar _) ?_
      exact ⟨by rw [if_neg (by decide), if_neg (by decide), if_pos rfl], rfl⟩
    refine am_tableOut (tgt := 66) d_FF_taken_11 (am_out3 k0 k1 k2) (by decide) ?_
    refine am_iconst (v := (-1)) d_FF_taken_66 (by decide) ?_
    refine am_iret d_FF_taken_67 rfl (by first | rfl | exact am_b_nar _) ?_
    exact ⟨by rw [if_neg k0, if_neg k1, if_neg k2], rfl⟩
  · refine am_iconst (v := (-1)) d_FF_taken_8 (by decide) ?_
    refine am_iret d_FF_taken_9 rfl (by first | rfl | exact am_b_nar _) ?_
    exact ⟨by unfold fc_taken; rw [if_neg (by rw [q1]; decide)], rfl⟩
end CFD
