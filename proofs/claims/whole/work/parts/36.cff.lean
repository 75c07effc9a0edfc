/-! the class: calls -/
section CFA
variable {g : am_G} {e nw ns room idle : Nat} {A : Nat → Nat} {s : cl_S} {S : am_S}
theorem ff_link (hn : ns ≤ 5) (hS : cl_P e nw ns room idle A s S) (IP : fc_iP ns s.1) (x p z q : Int32) : am_M g y_FF_link "(IIII)Z" 2 43 [.ref (A 0), .int x, .int p, .int z, .int q] S (fun v S' => v = some (.int (am_b (fc_link ns s.1 x p z q).1)) ∧ cl_Q e nw ns room idle A s S (fc_link ns s.1 x p z q).2 0 0 S') := by
  refine am_Mof (L0 := [some (.ref (A 0)), some (.int x), some (.int p), some (.int z), some (.int q), none, none]) pl_FF_link (am_k1 rfl (am_k1 rfl (am_k1 rfl (am_k1 rfl (am_k1 rfl am_k0))))) (Nat.le_of_ble_eq_true rfl) rfl ?_
  refine am_aload_n d_FF_link_0 rfl (by first | exact am_rvR _ | exact am_rvN | assumption) ?_
  refine am_iload_n d_FF_link_1 rfl ?_
  refine am_iload_n d_FF_link_2 rfl ?_
  refine am_cV (b := A 0) d_FF_link_3 v_FF_47 (vs := [.int x, .int p]) (st := []) rfl rfl (by decide) (Nat.le_of_ble_eq_true rfl) (cl_fab hS) (cq_isPort hS hn x p) ?_
  rintro v S2 ⟨rfl, rfl⟩
  first | refine am_if_eqB (tgt := 24) d_FF_link_6 (by decide) (fun q1 => ?_) (fun q1 => ?_) | refine am_if_eqN (tgt := 24) d_FF_link_6 (by decide) (by omega) (fun q1 => ?_) (fun q1 => ?_) | refine am_if_eq (tgt := 24) d_FF_link_6 (by decide) (fun q1 => ?_) (fun q1 => ?_)
  · refine am_iconst (v := nI 0) d_FF_link_24 (by decide) ?_
    refine am_iret d_FF_link_25 rfl (by first | rfl | exact am_b_nar _) ?_
    have hc : (fc_pt ns x p && (fc_pt ns z q && (x != z && (fc_free s.1 (fc_e x p) && fc_free s.1 (fc_e z q))))) = false := by simp_all
    exact ⟨by unfold fc_link; rw [if_neg (by rw [hc]; decide)]; rfl, by unfold fc_link; rw [if_neg (by rw [hc]; decide)]; exact cl_Q.id hS⟩
  · refine am_aload_n d_FF_link_9 rfl (by first | exact am_rvR _ | exact am_rvN | assumption) ?_
    refine am_iload_n d_FF_link_10 rfl ?_
    refine am_iload d_FF_link_11 rfl ?_
    refine am_cV (b := A 0) d_FF_link_13 v_FF_47 (vs := [.int z, .int q]) (st := []) rfl rfl (by decide) (Nat.le_of_ble_eq_true rfl) (cl_fab hS) (cq_isPort hS hn z q) ?_
    rintro v S2 ⟨rfl, rfl⟩
    first | refine am_if_eqB (tgt := 24) d_FF_link_16 (by decide) (fun q2 => ?_) (fun q2 => ?_) | refine am_if_eqN (tgt := 24) d_FF_link_16 (by decide) (by omega) (fun q2 => ?_) (fun q2 => ?_) | refine am_if_eq (tgt := 24) d_FF_link_16 (by decide) (fun q2 => ?_) (fun q2 => ?_)
    · refine am_iconst (v := nI 0) d_FF_link_24 (by decide) ?_
      refine am_iret d_FF_link_25 rfl (by first | rfl | exact am_b_nar _) ?_
      have hc : (fc_pt ns x p && (fc_pt ns z q && (x != z && (fc_free s.1 (fc_e x p) && fc_free s.1 (fc_e z q))))) = false := by simp_all
      exact ⟨by unfold fc_link; rw [if_neg (by rw [hc]; decide)]; rfl, by unfold fc_link; rw [if_neg (by rw [hc]; decide)]; exact cl_Q.id hS⟩
    · refine am_iload_n d_FF_link_19 rfl ?_
      refine am_iload_n d_FF_link_20 rfl ?_
      first | refine am_icmp_neN (tgt := 26) d_FF_link_21 (by decide) (by omega) (by omega) (fun q3 => ?_) (fun q3 => ?_) | refine am_icmp_ne (tgt := 26) d_FF_link_21 (by decide) (fun q3 => ?_) (fun q3 => ?_)
      · obtain ⟨i, p', hi, hp, ex, ep⟩ := fc_pt_nat hn q1
        obtain ⟨j, q', hj, hq, ez, eq⟩ := fc_pt_nat hn q2
        have e1 := fc_e_nat (show i < 5 by omega) hp
        have e2 := fc_e_nat (show j < 5 by omega) hq
        subst ex ep ez eq
        have hij : i ≠ j := fun z => q3 (by rw [z])
        obtain ⟨h1, o1, u1, hr1, -⟩ := cl_prow IP (q := 4 * i + p') (by omega)
        obtain ⟨h2, o2, u2, hr2, -⟩ := cl_prow IP (q := 4 * j + q') (by omega)
        refine am_aload_n d_FF_link_26 rfl (by first | exact am_rvR _ | exact am_rvN | assumption) ?_
        refine am_get d_FF_link_27 f_FF_18 (cl_fab hS) (by rfl) ?_
        refine am_iload_n d_FF_link_30 rfl ?_
        refine am_aald d_FF_link_31 am_kN_ok rfl (cl_nodes hS) rfl (cl_nodes_at hi) (by simp; omega) ?_
        refine am_get d_FF_link_32 f_FF_51 (cl_node hS hi) (by rfl) ?_
        refine am_iload_n d_FF_link_35 rfl ?_
        refine am_aald d_FF_link_36 am_kP_ok rfl (cl_ports hS hi) rfl (cl_ports_at hp) (by show 4 < 2 ^ 31; decide) ?_
        refine am_astore (L1 := [_, _, _, _, _, _, _]) d_FF_link_37 (by decide) (by first | exact am_rvR _ | exact am_rvN | assumption) rfl ?_
        refine am_aload_n d_FF_link_39 rfl (by first | exact am_rvR _ | exact am_rvN | assumption) ?_
        refine am_get d_FF_link_40 f_FF_18 (cl_fab hS) (by rfl) ?_
        refine am_iload_n d_FF_link_43 rfl ?_
        refine am_aald d_FF_link_44 am_kN_ok rfl (cl_nodes hS) rfl (cl_nodes_at hj) (by simp; omega) ?_
        refine am_get d_FF_link_45 f_FF_51 (cl_node hS hj) (by rfl) ?_
        refine am_iload d_FF_link_48 rfl ?_
        refine am_aald d_FF_link_50 am_kP_ok rfl (cl_ports hS hj) rfl (cl_ports_at hq) (by show 4 < 2 ^ 31; decide) ?_
        refine am_astore (L1 := [_, _, _, _, _, _, _]) d_FF_link_51 (by decide) (by first | exact am_rvR _ | exact am_rvN | assumption) rfl ?_
        refine am_aload d_FF_link_53 rfl (by first | exact am_rvR _ | exact am_rvN | assumption) ?_
        refine am_cV (b := A (100 + (4 * i + p'))) d_FF_link_55 v_FF_55 (vs := []) (st := []) rfl rfl (by decide) (Nat.le_of_ble_eq_true rfl) (cl_port hS (by omega)) (pt_isFree hS (by omega) hr1) ?_
        rintro v S2 ⟨rfl, rfl⟩
        first | refine am_if_eqB (tgt := 69) d_FF_link_58 (by decide) (fun q4 => ?_) (fun q4 => ?_) | refine am_if_eqN (tgt := 69) d_FF_link_58 (by decide) (by omega) (fun q4 => ?_) (fun q4 => ?_) | refine am_if_eq (tgt := 69) d_FF_link_58 (by decide) (fun q4 => ?_) (fun q4 => ?_)
        · refine am_iconst (v := nI 0) d_FF_link_69 (by decide) ?_
          refine am_iret d_FF_link_70 rfl (by first | rfl | exact am_b_nar _) ?_
          have hc : (fc_pt ns (nI i) (nI p') && (fc_pt ns (nI j) (nI q') && (nI i != nI j && (fc_free s.1 (fc_e (nI i) (nI p')) && fc_free s.1 (fc_e (nI j) (nI q')))))) = false := by simp_all
          exact ⟨by unfold fc_link; rw [if_neg (by rw [hc]; decide)]; rfl, by unfold fc_link; rw [if_neg (by rw [hc]; decide)]; exact cl_Q.id hS⟩
        · refine am_aload d_FF_link_61 rfl (by first | exact am_rvR _ | exact am_rvN | assumption) ?_
          refine am_cV (b := A (100 + (4 * j + q'))) d_FF_link_63 v_FF_55 (vs := []) (st := []) rfl rfl (by decide) (Nat.le_of_ble_eq_true rfl) (cl_port hS (by omega)) (pt_isFree hS (by omega) hr2) ?_
          rintro v S2 ⟨rfl, rfl⟩
          first | refine am_if_neB (tgt := 71) d_FF_link_66 (by decide) (fun q5 => ?_) (fun q5 => ?_) | refine am_if_neN (tgt := 71) d_FF_link_66 (by decide) (by omega) (fun q5 => ?_) (fun q5 => ?_) | refine am_if_ne (tgt := 71) d_FF_link_66 (by decide) (fun q5 => ?_) (fun q5 => ?_)
          · refine am_aload d_FF_link_71 rfl (by first | exact am_rvR _ | exact am_rvN | assumption) ?_
            refine am_iload_n d_FF_link_73 rfl ?_
            refine am_iload d_FF_link_74 rfl ?_
            refine am_cS d_FF_link_76 s_FF_71 (vs := [.int (nI j), (.int (nI q'))]) (st := [(.ref (A (100 + (4 * i + p'))))]) rfl rfl (by decide) (Nat.le_of_ble_eq_true rfl) (ff_endOf) ?_
            rintro v S3 ⟨rfl, rfl⟩
            refine am_cV (b := A (100 + (4 * i + p'))) d_FF_link_79 v_FF_75 (vs := [(.int (nI (j * 4 + q')))]) (st := []) rfl rfl (by decide) (Nat.le_of_ble_eq_true rfl) (cl_port hS (by omega)) (pt_join hn hS (by omega) hr1 _) ?_
            rintro v S4 ⟨rfl, s4, e4, ⟨b1, b2⟩, hS4, hf4⟩
            have hr2' : s4.1 (100 + (4 * j + q')) = [[h2, o2, u2]] := by rw [e4]; unfold fc_join; rw [fc_put_ne _ _ _ (by omega), fc_put_ne _ _ _ (by omega)]; exact hr2
            refine am_aload d_FF_link_82 rfl (by first | exact am_rvR _ | exact am_rvN | assumption) ?_
            refine am_iload_n d_FF_link_84 rfl ?_
            refine am_iload_n d_FF_link_85 rfl ?_
            refine am_cS d_FF_link_86 s_FF_71 (vs := [.int (nI i), (.int (nI p'))]) (st := [(.ref (A (100 + (4 * j + q'))))]) rfl rfl (by decide) (Nat.le_of_ble_eq_true rfl) (ff_endOf) ?_
            rintro v S5 ⟨rfl, rfl⟩
            refine am_cV (b := A (100 + (4 * j + q'))) d_FF_link_89 v_FF_75 (vs := [(.int (nI (i * 4 + p')))]) (st := []) rfl rfl (by decide) (Nat.le_of_ble_eq_true rfl) (cl_port hS4 (by omega)) (pt_join hn hS4 (by omega) hr2' _) ?_
            rintro v S6 ⟨rfl, hq6⟩
            refine am_iconst (v := nI 1) d_FF_link_92 (by decide) ?_
            refine am_iret d_FF_link_93 rfl (by first | rfl | exact am_b_nar _) ?_
            have hc : (fc_pt ns (nI i) (nI p') && (fc_pt ns (nI j) (nI q') && (nI i != nI j && (fc_free s.1 (fc_e (nI i) (nI p')) && fc_free s.1 (fc_e (nI j) (nI q')))))) = true := by simp_all
            have el : fc_link ns s.1 (nI i) (nI p') (nI j) (nI q') = (true, fc_join (fc_join s.1 (4 * i + p') (4 * j + q')) (4 * j + q') (4 * i + p')) := by
              unfold fc_link
              rw [if_pos hc, e1, e2]
            rw [el]
            refine ⟨rfl, ?_⟩
            rw [e4, show j * 4 + q' = 4 * j + q' by omega, show i * 4 + p' = 4 * i + p' by omega] at hq6
            exact hq6.from hf4 (by omega) (by omega)
          · refine am_iconst (v := nI 0) d_FF_link_69 (by decide) ?_
            refine am_iret d_FF_link_70 rfl (by first | rfl | exact am_b_nar _) ?_
            have hc : (fc_pt ns (nI i) (nI p') && (fc_pt ns (nI j) (nI q') && (nI i != nI j && (fc_free s.1 (fc_e (nI i) (nI p')) && fc_free s.1 (fc_e (nI j) (nI q')))))) = false := by simp_all
            exact ⟨by unfold fc_link; rw [if_neg (by rw [hc]; decide)]; rfl, by unfold fc_link; rw [if_neg (by rw [hc]; decide)]; exact cl_Q.id hS⟩
      · refine am_iconst (v := nI 0) d_FF_link_24 (by decide) ?_
        refine am_iret d_FF_link_25 rfl (by first | rfl | exact am_b_nar _) ?_
        have hc : (fc_pt ns x p && (fc_pt ns z q && (x != z && (fc_free s.1 (fc_e x p) && fc_free s.1 (fc_e z q))))) = false := by simp_all
        exact ⟨by unfold fc_link; rw [if_neg (by rw [hc]; decide)]; rfl, by unfold fc_link; rw [if_neg (by rw [hc]; decide)]; exact cl_Q.id hS⟩
theorem ff_hits (hn : ns ≤ 5) (hS : cl_P e nw ns room idle A s S) (I : fc_iG ns s.1) (x k : Int32) : am_M g y_FF_hits "(II)I" 3 64 [.ref (A 0), .int x, .int k] S (fun v S' => v = some (.int (fc_hits ns s.1 x k)) ∧ S' = S) := by
  refine am_Mof (L0 := [some (.ref (A 0)), some (.int x), some (.int k)]) pl_FF_hits (am_k1 rfl (am_k1 rfl (am_k1 rfl am_k0))) (Nat.le_of_ble_eq_true rfl) rfl ?_
  refine am_aload_n d_FF_hits_0 rfl (by first | exact am_rvR _ | exact am_rvN | assumption) ?_
  refine am_iload_n d_FF_hits_1 rfl ?_
  refine am_iload_n d_FF_hits_2 rfl ?_
  refine am_cV (b := A 0) d_FF_hits_3 v_FF_127 (vs := [.int x, .int k]) (st := []) rfl rfl (by decide) (Nat.le_of_ble_eq_true rfl) (cl_fab hS) (cq_isGuard hS hn x k) ?_
  rintro v S2 ⟨rfl, rfl⟩
  first | refine am_if_neB (tgt := 11) d_FF_hits_6 (by decide) (fun q1 => ?_) (fun q1 => ?_) | refine am_if_neN (tgt := 11) d_FF_hits_6 (by decide) (by omega) (fun q1 => ?_) (fun q1 => ?_) | refine am_if_ne (tgt := 11) d_FF_hits_6 (by decide) (fun q1 => ?_) (fun q1 => ?_)
  · have hgd := q1
    unfold fc_gd at hgd
    rw [Bool.and_eq_true] at hgd
    obtain ⟨i, hi, ex⟩ := fc_sw_nat hn hgd.1
    subst ex
    have ec := nI_clamp (n := i) (by omega)
    have hL : cl_isL ns (10 + i) := by unfold cl_isL; omega
    have h4 := (I i hi).1
    have hk2 : ∃ kk, kk < (s.1 (10 + i)).length ∧ k = nI kk := by
      have h2 := hgd.2
      rw [ec] at h2
      exact fc_sw_nat (n := (s.1 (10 + i)).length) (by omega) h2
    obtain ⟨kk, hkk, ek0⟩ := hk2
    subst ek0
    have ek := nI_clamp (n := kk) (by omega)
    obtain ⟨a, pk, mk, vk, h0, ha, hr, ho, -⟩ := cl_gd hn hS hi I hkk
    refine am_aload_n d_FF_hits_11 rfl (by first | exact am_rvR _ | exact am_rvN | assumption) ?_
    refine am_get d_FF_hits_12 f_FF_18 (cl_fab hS) (by rfl) ?_
    refine am_iload_n d_FF_hits_15 rfl ?_
    refine am_aald d_FF_hits_16 am_kN_ok rfl (cl_nodes hS) rfl (cl_nodes_at hi) (by simp; omega) ?_
    refine am_get d_FF_hits_17 f_FF_112 (cl_node hS hi) (by rfl) ?_
    refine am_iload_n d_FF_hits_20 rfl ?_
    refine am_cV (b := A (10 + i)) d_FF_hits_21 v_FF_197 (vs := [.int (nI kk)]) (st := []) rfl rfl (by decide) (Nat.le_of_ble_eq_true rfl) (cl_list hS hL).1.choose_spec.choose_spec.choose_spec.choose_spec.1 (cl_getM hS hL ha) ?_
    rintro v S2 ⟨rfl, rfl⟩
    refine am_cast d_FF_hits_24 k_FF_108 (q := am_qGd) rfl (Or.inl rfl) ho ?_
    refine am_get d_FF_hits_27 f_FF_134 ho (by rfl) ?_
    refine am_iret d_FF_hits_30 rfl rfl ?_
    exact ⟨by unfold fc_hits; rw [if_pos q1, ec, ek, fc_get_row hr]; rfl, rfl⟩
  · refine am_iconst (v := (-1)) d_FF_hits_9 (by decide) ?_
    refine am_iret d_FF_hits_10 rfl rfl ?_
    exact ⟨by unfold fc_hits; rw [if_neg (by rw [q1]; decide)], rfl⟩
theorem ff_unguard (hn : ns ≤ 5) (hS : cl_P e nw ns room idle A s S) (I : fc_iG ns s.1) (x k : Int32) : am_M g y_FF_unguard "(II)I" 3 66 [.ref (A 0), .int x, .int k] S (fun v S' => v = some (.int (fc_unguard ns s.1 x k).1) ∧ cl_Q e nw ns room idle A s S (fc_unguard ns s.1 x k).2 0 0 S') := by
  refine am_Mof (L0 := [some (.ref (A 0)), some (.int x), some (.int k)]) pl_FF_unguard (am_k1 rfl (am_k1 rfl (am_k1 rfl am_k0))) (Nat.le_of_ble_eq_true rfl) rfl ?_
  refine am_aload_n d_FF_unguard_0 rfl (by first | exact am_rvR _ | exact am_rvN | assumption) ?_
  refine am_iload_n d_FF_unguard_1 rfl ?_
  refine am_iload_n d_FF_unguard_2 rfl ?_
  refine am_cV (b := A 0) d_FF_unguard_3 v_FF_127 (vs := [.int x, .int k]) (st := []) rfl rfl (by decide) (Nat.le_of_ble_eq_true rfl) (cl_fab hS) (cq_isGuard hS hn x k) ?_
  rintro v S2 ⟨rfl, rfl⟩
  first | refine am_if_neB (tgt := 11) d_FF_unguard_6 (by decide) (fun q1 => ?_) (fun q1 => ?_) | refine am_if_neN (tgt := 11) d_FF_unguard_6 (by decide) (by omega) (fun q1 => ?_) (fun q1 => ?_) | refine am_if_ne (tgt := 11) d_FF_unguard_6 (by decide) (fun q1 => ?_) (fun q1 => ?_)
  · have hgd := q1
    unfold fc_gd at hgd
    rw [Bool.and_eq_true] at hgd
    obtain ⟨i, hi, ex⟩ := fc_sw_nat hn hgd.1
    subst ex
    have ec := nI_clamp (n := i) (by omega)
    have hL : cl_isL ns (10 + i) := by unfold cl_isL; omega
    have h4 := (I i hi).1
    have hk2 : ∃ kk, kk < (s.1 (10 + i)).length ∧ k = nI kk := by
      have h2 := hgd.2
      rw [ec] at h2
      exact fc_sw_nat (n := (s.1 (10 + i)).length) (by omega) h2
    obtain ⟨kk, hkk, ek0⟩ := hk2
    subst ek0
    have ek := nI_clamp (n := kk) (by omega)
    obtain ⟨a, pk, mk, vk, h0, ha, hr, ho, -⟩ := cl_gd hn hS hi I hkk
    refine am_aload_n d_FF_unguard_11 rfl (by first | exact am_rvR _ | exact am_rvN | assumption) ?_
    refine am_get d_FF_unguard_12 f_FF_18 (cl_fab hS) (by rfl) ?_
    refine am_iload_n d_FF_unguard_15 rfl ?_
    refine am_aald d_FF_unguard_16 am_kN_ok rfl (cl_nodes hS) rfl (cl_nodes_at hi) (by simp; omega) ?_
    refine am_get d_FF_unguard_17 f_FF_112 (cl_node hS hi) (by rfl) ?_
    refine am_iload_n d_FF_unguard_20 rfl ?_
    refine am_cV (b := A (10 + i)) d_FF_unguard_21 v_FF_130 (vs := [.int (nI kk)]) (st := []) rfl rfl (by decide) (Nat.le_of_ble_eq_true rfl) (cl_list hS hL).1.choose_spec.choose_spec.choose_spec.choose_spec.1 (cl_removeF hn hS hL ha) ?_
    rintro v S3 ⟨rfl, hS3, hf3, hf3b⟩
    have ho := hf3b.keep ho (fun z => by unfold am_lX at z; omega)
    refine am_cast d_FF_unguard_24 k_FF_108 (q := am_qGd) rfl (Or.inl rfl) ho ?_
    refine am_get d_FF_unguard_27 f_FF_134 ho (by rfl) ?_
    refine am_iret d_FF_unguard_30 rfl rfl ?_
    refine ⟨?_, _, ?_, ⟨by show s.2.2.1 + 0 ≤ _; omega, by show s.2.2.2 + 0 ≤ _; omega⟩, hS3, hf3⟩
    · unfold fc_unguard
      rw [if_pos q1, ec, ek, fc_get_row hr]
      rfl
    · unfold fc_unguard
      rw [if_pos q1, ec, ek]
      rfl
  · refine am_iconst (v := (-1)) d_FF_unguard_9 (by decide) ?_
    refine am_iret d_FF_unguard_10 rfl rfl ?_
    exact ⟨by unfold fc_unguard; rw [if_neg (by rw [q1]; decide)], by unfold fc_unguard; rw [if_neg (by rw [q1]; decide)]; exact cl_Q.id hS⟩
theorem gd_isMatch (m : Int32) : am_M g y_Gd_isMatch "(I)Z" 0 0 [.int m] S (fun v S' => v = some (.int (am_b (fc_mt m))) ∧ S' = S) := by
  refine am_Mof (L0 := [some (.int m)]) pl_Gd_isMatch (am_k1 rfl am_k0) (Nat.le_of_ble_eq_true rfl) rfl ?_
  refine am_iload_n d_Gd_isMatch_0 rfl ?_
  first | refine am_if_ltN (tgt := 46) d_Gd_isMatch_1 (by decide) (by omega) (fun q1 => ?_) (fun q1 => ?_) | refine am_if_lt (tgt := 46) d_Gd_isMatch_1 (by decide) (fun q1 => ?_) (fun q1 => ?_)
  · refine am_iconst (v := nI 0) d_Gd_isMatch_46 (by decide) ?_
    refine am_iret d_Gd_isMatch_47 rfl (by first | rfl | exact am_b_nar _) ?_
    exact ⟨by first | (refine am_bt ?_; (simp only [fc_mt, Bool.and_eq_true, decide_eq_true_eq, Int32.lt_iff_toInt_lt, Int32.le_iff_toInt_le, am_n0, am_i0, am_n1, am_i1, am_n2, am_i2, am_n3, am_i3, am_n4, am_i4, am_n5, am_i5, am_n6, am_i6, am_n7, am_i7, am_n8, am_i8, am_n9, am_i9, am_n10, am_i10, am_n11, am_i11, am_m1, am_n511, am_i511] at *; omega)) | (refine am_bf ?_; (simp only [fc_mt, Bool.and_eq_false_iff, decide_eq_false_iff_not, Int32.lt_iff_toInt_lt, Int32.le_iff_toInt_le, am_n0, am_i0, am_n1, am_i1, am_n2, am_i2, am_n3, am_i3, am_n4, am_i4, am_n5, am_i5, am_n6, am_i6, am_n7, am_i7, am_n8, am_i8, am_n9, am_i9, am_n10, am_i10, am_n11, am_i11, am_m1, am_n511, am_i511] at *; omega)), rfl⟩
  · refine am_iload_n d_Gd_isMatch_4 rfl ?_
    refine am_sipush (v := nI 511) d_Gd_isMatch_5 (by decide) ?_
    first | refine am_icmp_gtN (tgt := 46) d_Gd_isMatch_8 (by decide) (by omega) (by omega) (fun q2 => ?_) (fun q2 => ?_) | refine am_icmp_gt (tgt := 46) d_Gd_isMatch_8 (by decide) (fun q2 => ?_) (fun q2 => ?_)
    · refine am_iconst (v := nI 0) d_Gd_isMatch_46 (by decide) ?_
      refine am_iret d_Gd_isMatch_47 rfl (by first | rfl | exact am_b_nar _) ?_
      exact ⟨by first | (refine am_bt ?_; (simp only [fc_mt, Bool.and_eq_true, decide_eq_true_eq, Int32.lt_iff_toInt_lt, Int32.le_iff_toInt_le, am_n0, am_i0, am_n1, am_i1, am_n2, am_i2, am_n3, am_i3, am_n4, am_i4, am_n5, am_i5, am_n6, am_i6, am_n7, am_i7, am_n8, am_i8, am_n9, am_i9, am_n10, am_i10, am_n11, am_i11, am_m1, am_n511, am_i511] at *; omega)) | (refine am_bf ?_; (simp only [fc_mt, Bool.and_eq_false_iff, decide_eq_false_iff_not, Int32.lt_iff_toInt_lt, Int32.le_iff_toInt_le, am_n0, am_i0, am_n1, am_i1, am_n2, am_i2, am_n3, am_i3, am_n4, am_i4, am_n5, am_i5, am_n6, am_i6, am_n7, am_i7, am_n8, am_i8, am_n9, am_i9, am_n10, am_i10, am_n11, am_i11, am_m1, am_n511, am_i511] at *; omega)), rfl⟩
    · refine am_iload_n d_Gd_isMatch_11 rfl ?_
      refine am_bipush (v := 7) d_Gd_isMatch_12 (by decide) ?_
      refine am_iand d_Gd_isMatch_14 ?_
      refine am_iconst (v := nI 4) d_Gd_isMatch_15 (by decide) ?_
      first | refine am_icmp_gtN (tgt := 46) d_Gd_isMatch_16 (by decide) (by omega) (by omega) (fun q3 => ?_) (fun q3 => ?_) | refine am_icmp_gt (tgt := 46) d_Gd_isMatch_16 (by decide) (fun q3 => ?_) (fun q3 => ?_)
      · refine am_iconst (v := nI 0) d_Gd_isMatch_46 (by decide) ?_
        refine am_iret d_Gd_isMatch_47 rfl (by first | rfl | exact am_b_nar _) ?_
        exact ⟨by first | (refine am_bt ?_; (simp only [fc_mt, Bool.and_eq_true, decide_eq_true_eq, Int32.lt_iff_toInt_lt, Int32.le_iff_toInt_le, am_n0, am_i0, am_n1, am_i1, am_n2, am_i2, am_n3, am_i3, am_n4, am_i4, am_n5, am_i5, am_n6, am_i6, am_n7, am_i7, am_n8, am_i8, am_n9, am_i9, am_n10, am_i10, am_n11, am_i11, am_m1, am_n511, am_i511] at *; omega)) | (refine am_bf ?_; (simp only [fc_mt, Bool.and_eq_false_iff, decide_eq_false_iff_not, Int32.lt_iff_toInt_lt, Int32.le_iff_toInt_le, am_n0, am_i0, am_n1, am_i1, am_n2, am_i2, am_n3, am_i3, am_n4, am_i4, am_n5, am_i5, am_n6, am_i6, am_n7, am_i7, am_n8, am_i8, am_n9, am_i9, am_n10, am_i10, am_n11, am_i11, am_m1, am_n511, am_i511] at *; omega)), rfl⟩
      · refine am_iload_n d_Gd_isMatch_19 rfl ?_
        refine am_iconst (v := 3) d_Gd_isMatch_20 (by decide) ?_
        refine am_ishr d_Gd_isMatch_21 ?_
        rw [show ((3 : Int32) &&& 31) = 3 from by decide]
        refine am_bipush (v := 7) d_Gd_isMatch_22 (by decide) ?_
        refine am_iand d_Gd_isMatch_24 ?_
        refine am_bipush (v := nI 6) d_Gd_isMatch_25 (by decide) ?_
        first | refine am_icmp_gtN (tgt := 46) d_Gd_isMatch_27 (by decide) (by omega) (by omega) (fun q4 => ?_) (fun q4 => ?_) | refine am_icmp_gt (tgt := 46) d_Gd_isMatch_27 (by decide) (fun q4 => ?_) (fun q4 => ?_)
        · refine am_iconst (v := nI 0) d_Gd_isMatch_46 (by decide) ?_
          refine am_iret d_Gd_isMatch_47 rfl (by first | rfl | exact am_b_nar _) ?_
          exact ⟨by first | (refine am_bt ?_; (simp only [fc_mt, Bool.and_eq_true, decide_eq_true_eq, Int32.lt_iff_toInt_lt, Int32.le_iff_toInt_le, am_n0, am_i0, am_n1, am_i1, am_n2, am_i2, am_n3, am_i3, am_n4, am_i4, am_n5, am_i5, am_n6, am_i6, am_n7, am_i7, am_n8, am_i8, am_n9, am_i9, am_n10, am_i10, am_n11, am_i11, am_m1, am_n511, am_i511] at *; omega)) | (refine am_bf ?_; (simp only [fc_mt, Bool.and_eq_false_iff, decide_eq_false_iff_not, Int32.lt_iff_toInt_lt, Int32.le_iff_toInt_le, am_n0, am_i0, am_n1, am_i1, am_n2, am_i2, am_n3, am_i3, am_n4, am_i4, am_n5, am_i5, am_n6, am_i6, am_n7, am_i7, am_n8, am_i8, am_n9, am_i9, am_n10, am_i10, am_n11, am_i11, am_m1, am_n511, am_i511] at *; omega)), rfl⟩
        · refine am_iload_n d_Gd_isMatch_30 rfl ?_
          refine am_bipush (v := 6) d_Gd_isMatch_31 (by decide) ?_
          refine am_ishr d_Gd_isMatch_33 ?_
          rw [show ((6 : Int32) &&& 31) = 6 from by decide]
          refine am_bipush (v := 7) d_Gd_isMatch_34 (by decide) ?_
          refine am_iand d_Gd_isMatch_36 ?_
          refine am_bipush (v := nI 6) d_Gd_isMatch_37 (by decide) ?_
          first | refine am_icmp_gtN (tgt := 46) d_Gd_isMatch_39 (by decide) (by omega) (by omega) (fun q5 => ?_) (fun q5 => ?_) | refine am_icmp_gt (tgt := 46) d_Gd_isMatch_39 (by decide) (fun q5 => ?_) (fun q5 => ?_)
          · refine am_iconst (v := nI 0) d_Gd_isMatch_46 (by decide) ?_
            refine am_iret d_Gd_isMatch_47 rfl (by first | rfl | exact am_b_nar _) ?_
            exact ⟨by first | (refine am_bt ?_; (simp only [fc_mt, Bool.and_eq_true, decide_eq_true_eq, Int32.lt_iff_toInt_lt, Int32.le_iff_toInt_le, am_n0, am_i0, am_n1, am_i1, am_n2, am_i2, am_n3, am_i3, am_n4, am_i4, am_n5, am_i5, am_n6, am_i6, am_n7, am_i7, am_n8, am_i8, am_n9, am_i9, am_n10, am_i10, am_n11, am_i11, am_m1, am_n511, am_i511] at *; omega)) | (refine am_bf ?_; (simp only [fc_mt, Bool.and_eq_false_iff, decide_eq_false_iff_not, Int32.lt_iff_toInt_lt, Int32.le_iff_toInt_le, am_n0, am_i0, am_n1, am_i1, am_n2, am_i2, am_n3, am_i3, am_n4, am_i4, am_n5, am_i5, am_n6, am_i6, am_n7, am_i7, am_n8, am_i8, am_n9, am_i9, am_n10, am_i10, am_n11, am_i11, am_m1, am_n511, am_i511] at *; omega)), rfl⟩
          · refine am_iconst (v := nI 1) d_Gd_isMatch_42 (by decide) ?_
            refine am_goto (tgt := 47) d_Gd_isMatch_43 (by decide) ?_
            refine am_iret d_Gd_isMatch_47 rfl (by first | rfl | exact am_b_nar _) ?_
            exact ⟨by first | (refine am_bt ?_; (simp only [fc_mt, Bool.and_eq_true, decide_eq_true_eq, Int32.lt_iff_toInt_lt, Int32.le_iff_toInt_le, am_n0, am_i0, am_n1, am_i1, am_n2, am_i2, am_n3, am_i3, am_n4, am_i4, am_n5, am_i5, am_n6, am_i6, am_n7, am_i7, am_n8, am_i8, am_n9, am_i9, am_n10, am_i10, am_n11, am_i11, am_m1, am_n511, am_i511] at *; omega)) | (refine am_bf ?_; (simp only [fc_mt, Bool.and_eq_false_iff, decide_eq_false_iff_not, Int32.lt_iff_toInt_lt, Int32.le_iff_toInt_le, am_n0, am_i0, am_n1, am_i1, am_n2, am_i2, am_n3, am_i3, am_n4, am_i4, am_n5, am_i5, am_n6, am_i6, am_n7, am_i7, am_n8, am_i8, am_n9, am_i9, am_n10, am_i10, am_n11, am_i11, am_m1, am_n511, am_i511] at *; omega)), rfl⟩
end CFA
