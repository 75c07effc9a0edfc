/-! the class: reports are handled -/
section CTO
variable {g : am_G} {e nw ns room idle : Nat} {A : Nat → Nat} {s : cl_S} {S : am_S}
theorem fc_h0 {s : fc_S} {i : Nat} (p f t n : Int32) : fc_hears ns s i [0, p, f, t, n] = fc_miss ns s i p f t n := if_pos rfl
theorem fc_h1 {s : fc_S} {i : Nat} (p f t n : Int32) : fc_hears ns s i [1, p, f, t, n] = fc_seen s (4 * i + p.toNatClampNeg) f.toNatClampNeg := (if_neg (by show ¬ (1 : Int32) = 0; decide)).trans (if_pos rfl)
theorem fc_h2 {s : fc_S} {i : Nat} (p f t n : Int32) : fc_hears ns s i [2, p, f, t, n] = fc_done ns s p := (if_neg (by show ¬ (2 : Int32) = 0; decide)).trans ((if_neg (by show ¬ (2 : Int32) = 1; decide)).trans (if_pos rfl))
theorem fc_h3 {s : fc_S} {i : Nat} (p f t n : Int32) : fc_hears ns s i [3, p, f, t, n] = fc_noroom s f t := (if_neg (by show ¬ (3 : Int32) = 0; decide)).trans ((if_neg (by show ¬ (3 : Int32) = 1; decide)).trans ((if_neg (by show ¬ (3 : Int32) = 2; decide)).trans (if_pos rfl)))
theorem fc_h4 {s : fc_S} {i : Nat} (p f t n : Int32) : fc_hears ns s i [4, p, f, t, n] = fc_wentOff s i f t := (if_neg (by show ¬ (4 : Int32) = 0; decide)).trans ((if_neg (by show ¬ (4 : Int32) = 1; decide)).trans ((if_neg (by show ¬ (4 : Int32) = 2; decide)).trans ((if_neg (by show ¬ (4 : Int32) = 3; decide)).trans (if_pos rfl))))
theorem fc_h5 {s : fc_S} {i : Nat} (p f t n : Int32) : fc_hears ns s i [5, p, f, t, n] = fc_down s (4 * i + p.toNatClampNeg) := (if_neg (by show ¬ (5 : Int32) = 0; decide)).trans ((if_neg (by show ¬ (5 : Int32) = 1; decide)).trans ((if_neg (by show ¬ (5 : Int32) = 2; decide)).trans ((if_neg (by show ¬ (5 : Int32) = 3; decide)).trans ((if_neg (by show ¬ (5 : Int32) = 4; decide)).trans (if_pos rfl)))))
theorem ct_handle (hn : ns ≤ 5) (he : am_gE g e) (hW : am_gW g nw) (hS : cl_P e nw ns room idle A s S) (I : fc_iK ns s.1) (Io : fc_iO ns s.1) {i ma : Nat} {row : List Int32} (hi : i < ns) (hok : fc_qOk ns row) (hob : S.1 ma = some (0, .inr (am_cMs, row.map Value.int))) (hlen : ∀ u, u < ns → (s.1 (30 + u)).length + 2 < 60) (hlen2 : ∀ u, u < ns → (fc_hears ns s.1 i row (30 + u)).length ≤ 59) : am_M g y_Ct_handle "(ILFlowFabric$Message;)V" 10 222 [.ref (A 2), .int (nI i), .ref ma] S (fun v S' => v = none ∧ cl_Q e nw ns room idle A s S (fc_hears ns s.1 i row) 72 5460 S') := by
  rcases hok with ⟨p, f, t, n, hp, hf, ht, rfl⟩ | ⟨p, o, hp, ho, rfl⟩ | ⟨x, rfl⟩ | ⟨f, t, hf, ht, rfl⟩ | ⟨f, t, hf, ht, rfl⟩ | ⟨p, hp, rfl⟩
  · rw [fc_h0] at hlen2 ⊢
    replace hob : S.1 ma = some (0, .inr (am_cMs, [.int 0, .int (nI p), .int (nI f), .int (nI t), .int n])) := hob
    refine am_Mof (L0 := [some (.ref (A 2)), some (.int (nI i)), some (.ref ma)]) pl_Ct_handle (am_k1 rfl (am_k1 rfl (am_k1 rfl am_k0))) (Nat.le_of_ble_eq_true rfl) rfl ?_
    refine am_aload_n d_Ct_handle_0 rfl (by first | exact am_rvR _ | exact am_rvN | assumption) ?_
    refine am_get d_Ct_handle_1 f_Ct_46 hob (by rfl) ?_
    refine am_tableIn (off := 40) (tgt := 44) d_Ct_handle_4 (by decide) (by decide) (by decide) (by decide) ?_
    refine am_aload_n d_Ct_handle_44 rfl (by first | exact am_rvR _ | exact am_rvN | assumption) ?_
    refine am_iload_n d_Ct_handle_45 rfl ?_
    refine am_aload_n d_Ct_handle_46 rfl (by first | exact am_rvR _ | exact am_rvN | assumption) ?_
    refine am_get d_Ct_handle_47 f_Ct_51 hob (by rfl) ?_
    refine am_aload_n d_Ct_handle_50 rfl (by first | exact am_rvR _ | exact am_rvN | assumption) ?_
    refine am_cV (b := ma) d_Ct_handle_51 v_Ct_54 (vs := []) (st := [.int (nI p), .int (nI i), .ref (A 2)]) rfl rfl (by decide) (Nat.le_of_ble_eq_true rfl) hob (mk_toDg hS.1.1 hob) ?_
    rintro v S1 ⟨rfl, rfl⟩
    obtain ⟨s1, e1, b11, b12, hS1⟩ : ∃ s1 : cl_S, s1.1 = s.1 ∧ s1.2.2.1 = s.2.2.1 + 1 ∧ s1.2.2.2 = s.2.2.2 + 3 ∧ cl_P e nw ns room idle A s1 (am_mk S 0 3 (.inr (am_cDg, [.int (nI f), .int (nI t), .int n]))) := ⟨cl_bg s 1 3, rfl, rfl, rfl, hS.more (am_fr.mk _ _ _ _ hS.1.1) (am_co.mk _ _ _ _)⟩
    have hf1 : am_fr cl_X S (am_mk S 0 3 (.inr (am_cDg, [.int (nI f), .int (nI t), .int n]))) := am_fr.mk _ _ _ _ hS.1.1
    have hd1 := am_mk_at S 0 3 (.inr (am_cDg, [.int (nI f), .int (nI t), .int n]))
    rw [← e1] at I Io hlen hlen2 ⊢
    refine am_cV (b := A 2) d_Ct_handle_54 v_Ct_58 (vs := [.int (nI i), .int (nI p), .ref S.2.1]) (st := []) rfl rfl (by decide) (Nat.le_of_ble_eq_true rfl) (cl_ctl hS1) (ct_miss hn he hW hS1 I Io hi hp hf ht hd1 hlen hlen2) ?_
    rintro v S3 ⟨rfl, hq3⟩
    refine am_goto (tgt := 136) d_Ct_handle_57 (by decide) ?_
    refine am_vret d_Ct_handle_136 rfl ?_
    exact ⟨rfl, hq3.from hf1 (by omega) (by omega)⟩
  · rw [fc_h1, nI_clamp (n := p) (by omega), nI_clamp (n := o) (by omega)] at hlen2 ⊢
    replace hob : S.1 ma = some (0, .inr (am_cMs, [.int 1, .int (nI p), .int (nI o), .int (-1), .int 0])) := hob
    refine am_Mof (L0 := [some (.ref (A 2)), some (.int (nI i)), some (.ref ma)]) pl_Ct_handle (am_k1 rfl (am_k1 rfl (am_k1 rfl am_k0))) (Nat.le_of_ble_eq_true rfl) rfl ?_
    refine am_aload_n d_Ct_handle_0 rfl (by first | exact am_rvR _ | exact am_rvN | assumption) ?_
    refine am_get d_Ct_handle_1 f_Ct_46 hob (by rfl) ?_
    refine am_tableIn (off := 56) (tgt := 60) d_Ct_handle_4 (by decide) (by decide) (by decide) (by decide) ?_
    refine am_aload_n d_Ct_handle_60 rfl (by first | exact am_rvR _ | exact am_rvN | assumption) ?_
    refine am_iload_n d_Ct_handle_61 rfl ?_
    refine am_aload_n d_Ct_handle_62 rfl (by first | exact am_rvR _ | exact am_rvN | assumption) ?_
    refine am_get d_Ct_handle_63 f_Ct_51 hob (by rfl) ?_
    refine am_cS d_Ct_handle_66 s_Ct_62 (vs := [.int (nI i), .int (nI p)]) (st := [.ref (A 2)]) rfl rfl (by decide) (Nat.le_of_ble_eq_true rfl) (ff_endOf) ?_
    rintro v S9 ⟨rfl, hS9⟩
    rw [hS9]
    rw [show i * 4 + p = 4 * i + p by omega]
    refine am_aload_n d_Ct_handle_69 rfl (by first | exact am_rvR _ | exact am_rvN | assumption) ?_
    refine am_get d_Ct_handle_70 f_Ct_66 hob (by rfl) ?_
    refine am_cV (b := A 2) d_Ct_handle_73 v_Ct_69 (vs := [.int (nI (4 * i + p)), .int (nI o)]) (st := []) rfl rfl (by decide) (Nat.le_of_ble_eq_true rfl) (cl_ctl hS) (ct_seen hn he hS I Io (by omega) ho hlen2) ?_
    rintro v S3 ⟨rfl, hq3⟩
    refine am_goto (tgt := 136) d_Ct_handle_76 (by decide) ?_
    refine am_vret d_Ct_handle_136 rfl ?_
    exact ⟨rfl, hq3.wide (by omega) (by omega)⟩
  · rw [fc_h2] at hlen2 ⊢
    replace hob : S.1 ma = some (0, .inr (am_cMs, [.int 2, .int x, .int (-1), .int (-1), .int 0])) := hob
    refine am_Mof (L0 := [some (.ref (A 2)), some (.int (nI i)), some (.ref ma)]) pl_Ct_handle (am_k1 rfl (am_k1 rfl (am_k1 rfl am_k0))) (Nat.le_of_ble_eq_true rfl) rfl ?_
    refine am_aload_n d_Ct_handle_0 rfl (by first | exact am_rvR _ | exact am_rvN | assumption) ?_
    refine am_get d_Ct_handle_1 f_Ct_46 hob (by rfl) ?_
    refine am_tableIn (off := 75) (tgt := 79) d_Ct_handle_4 (by decide) (by decide) (by decide) (by decide) ?_
    refine am_aload_n d_Ct_handle_79 rfl (by first | exact am_rvR _ | exact am_rvN | assumption) ?_
    refine am_aload_n d_Ct_handle_80 rfl (by first | exact am_rvR _ | exact am_rvN | assumption) ?_
    refine am_get d_Ct_handle_81 f_Ct_51 hob (by rfl) ?_
    refine am_cV (b := A 2) d_Ct_handle_84 v_Ct_73 (vs := [.int x]) (st := []) rfl rfl (by decide) (Nat.le_of_ble_eq_true rfl) (cl_ctl hS) (ct_done hn he hW hS I Io x hlen) ?_
    rintro v S3 ⟨rfl, hq3⟩
    refine am_goto (tgt := 136) d_Ct_handle_87 (by decide) ?_
    refine am_vret d_Ct_handle_136 rfl ?_
    exact ⟨rfl, hq3.wide (by omega) (by omega)⟩
  · rw [fc_h3] at hlen2 ⊢
    replace hob : S.1 ma = some (0, .inr (am_cMs, [.int 3, .int (-1), .int (nI f), .int (nI t), .int 0])) := hob
    refine am_Mof (L0 := [some (.ref (A 2)), some (.int (nI i)), some (.ref ma)]) pl_Ct_handle (am_k1 rfl (am_k1 rfl (am_k1 rfl am_k0))) (Nat.le_of_ble_eq_true rfl) rfl ?_
    refine am_aload_n d_Ct_handle_0 rfl (by first | exact am_rvR _ | exact am_rvN | assumption) ?_
    refine am_get d_Ct_handle_1 f_Ct_46 hob (by rfl) ?_
    refine am_tableIn (off := 86) (tgt := 90) d_Ct_handle_4 (by decide) (by decide) (by decide) (by decide) ?_
    refine am_aload_n d_Ct_handle_90 rfl (by first | exact am_rvR _ | exact am_rvN | assumption) ?_
    refine am_aload_n d_Ct_handle_91 rfl (by first | exact am_rvR _ | exact am_rvN | assumption) ?_
    refine am_get d_Ct_handle_92 f_Ct_66 hob (by rfl) ?_
    refine am_aload_n d_Ct_handle_95 rfl (by first | exact am_rvR _ | exact am_rvN | assumption) ?_
    refine am_get d_Ct_handle_96 f_Ct_77 hob (by rfl) ?_
    refine am_cV (b := A 2) d_Ct_handle_99 v_Ct_80 (vs := [.int (nI f), .int (nI t)]) (st := []) rfl rfl (by decide) (Nat.le_of_ble_eq_true rfl) (cl_ctl hS) (ct_noroom hn he hS I Io _ _ hlen2) ?_
    rintro v S3 ⟨rfl, hq3⟩
    refine am_goto (tgt := 136) d_Ct_handle_102 (by decide) ?_
    refine am_vret d_Ct_handle_136 rfl ?_
    exact ⟨rfl, hq3.wide (by omega) (by omega)⟩
  · rw [fc_h4] at hlen2 ⊢
    replace hob : S.1 ma = some (0, .inr (am_cMs, [.int 4, .int (-1), .int (nI f), .int (nI t), .int 0])) := hob
    refine am_Mof (L0 := [some (.ref (A 2)), some (.int (nI i)), some (.ref ma)]) pl_Ct_handle (am_k1 rfl (am_k1 rfl (am_k1 rfl am_k0))) (Nat.le_of_ble_eq_true rfl) rfl ?_
    refine am_aload_n d_Ct_handle_0 rfl (by first | exact am_rvR _ | exact am_rvN | assumption) ?_
    refine am_get d_Ct_handle_1 f_Ct_46 hob (by rfl) ?_
    refine am_tableIn (off := 101) (tgt := 105) d_Ct_handle_4 (by decide) (by decide) (by decide) (by decide) ?_
    refine am_aload_n d_Ct_handle_105 rfl (by first | exact am_rvR _ | exact am_rvN | assumption) ?_
    refine am_iload_n d_Ct_handle_106 rfl ?_
    refine am_aload_n d_Ct_handle_107 rfl (by first | exact am_rvR _ | exact am_rvN | assumption) ?_
    refine am_get d_Ct_handle_108 f_Ct_66 hob (by rfl) ?_
    refine am_aload_n d_Ct_handle_111 rfl (by first | exact am_rvR _ | exact am_rvN | assumption) ?_
    refine am_get d_Ct_handle_112 f_Ct_77 hob (by rfl) ?_
    refine am_cV (b := A 2) d_Ct_handle_115 v_Ct_83 (vs := [.int (nI i), .int (nI f), .int (nI t)]) (st := []) rfl rfl (by decide) (Nat.le_of_ble_eq_true rfl) (cl_ctl hS) (ct_gone hn he hS I Io hi _ _ hlen2) ?_
    rintro v S3 ⟨rfl, hq3⟩
    refine am_goto (tgt := 136) d_Ct_handle_118 (by decide) ?_
    refine am_vret d_Ct_handle_136 rfl ?_
    exact ⟨rfl, hq3.wide (by omega) (by omega)⟩
  · rw [fc_h5, nI_clamp (n := p) (by omega)] at hlen2 ⊢
    replace hob : S.1 ma = some (0, .inr (am_cMs, [.int 5, .int (nI p), .int (-1), .int (-1), .int 0])) := hob
    refine am_Mof (L0 := [some (.ref (A 2)), some (.int (nI i)), some (.ref ma)]) pl_Ct_handle (am_k1 rfl (am_k1 rfl (am_k1 rfl am_k0))) (Nat.le_of_ble_eq_true rfl) rfl ?_
    refine am_aload_n d_Ct_handle_0 rfl (by first | exact am_rvR _ | exact am_rvN | assumption) ?_
    refine am_get d_Ct_handle_1 f_Ct_46 hob (by rfl) ?_
    refine am_tableIn (off := 117) (tgt := 121) d_Ct_handle_4 (by decide) (by decide) (by decide) (by decide) ?_
    refine am_aload_n d_Ct_handle_121 rfl (by first | exact am_rvR _ | exact am_rvN | assumption) ?_
    refine am_iload_n d_Ct_handle_122 rfl ?_
    refine am_aload_n d_Ct_handle_123 rfl (by first | exact am_rvR _ | exact am_rvN | assumption) ?_
    refine am_get d_Ct_handle_124 f_Ct_51 hob (by rfl) ?_
    refine am_cS d_Ct_handle_127 s_Ct_62 (vs := [.int (nI i), .int (nI p)]) (st := [.ref (A 2)]) rfl rfl (by decide) (Nat.le_of_ble_eq_true rfl) (ff_endOf) ?_
    rintro v S9 ⟨rfl, hS9⟩
    rw [hS9]
    rw [show i * 4 + p = 4 * i + p by omega]
    refine am_cV (b := A 2) d_Ct_handle_130 v_Ct_87 (vs := [.int (nI (4 * i + p))]) (st := []) rfl rfl (by decide) (Nat.le_of_ble_eq_true rfl) (cl_ctl hS) (ct_down hn he hS I Io (by omega) hlen2) ?_
    rintro v S3 ⟨rfl, hq3⟩
    refine am_goto (tgt := 136) d_Ct_handle_133 (by decide) ?_
    refine am_vret d_Ct_handle_136 rfl ?_
    exact ⟨rfl, hq3.wide (by omega) (by omega)⟩
theorem ff_report (hn : ns ≤ 5) (hS : cl_P e nw ns room idle A s S) (he : am_gE g e) (hW : am_gW g nw) (I : fc_iD ns room s.1) (x : Int32) (hlen : ∀ u, u < ns → (s.1 (30 + u)).length + 2 < 60) (hlen2 : ∀ u, u < ns → ((fc_report ns s.1 x).2 (30 + u)).length ≤ 59) : am_M g y_FF_report "(I)I" 11 244 [.ref (A 0), .int x] S (fun v S' => v = some (.int (fc_report ns s.1 x).1) ∧ cl_Q e nw ns room idle A s S (fc_report ns s.1 x).2 72 5460 S') := by
  have hid : cl_Q e nw ns room idle A s S s.1 72 5460 S := (cl_Q.id hS).wide (by omega) (by omega)
  have IL := I.2.2.2.2.2.2.1
  refine am_Mof (L0 := [some (.ref (A 0)), some (.int x), none]) pl_FF_report (am_k1 rfl (am_k1 rfl am_k0)) (Nat.le_of_ble_eq_true rfl) rfl ?_
  refine am_aload_n d_FF_report_0 rfl (by first | exact am_rvR _ | exact am_rvN | assumption) ?_
  refine am_iload_n d_FF_report_1 rfl ?_
  refine am_cV (b := A 0) d_FF_report_2 v_FF_103 (vs := [.int x]) (st := []) rfl rfl (by decide) (Nat.le_of_ble_eq_true rfl) (cl_fab hS) (cq_isSwitch hS hn x) ?_
  rintro v S9 ⟨rfl, hS9⟩
  rw [hS9]
  first | refine am_if_eqB (tgt := 23) d_FF_report_5 (by decide) (fun q1 => ?_) (fun q1 => ?_) | refine am_if_eqN (tgt := 23) d_FF_report_5 (by decide) (by omega) (fun q1 => ?_) (fun q1 => ?_) | refine am_if_eq (tgt := 23) d_FF_report_5 (by decide) (fun q1 => ?_) (fun q1 => ?_)
  · refine am_iconst (v := (-1)) d_FF_report_23 (by decide) ?_
    refine am_iret d_FF_report_24 rfl (by first | rfl | exact am_b_nar _) ?_
    have hc : ¬ (fc_sw ns x && !(s.1 (40 + x.toNatClampNeg)).isEmpty) = true := by simp [q1]
    exact ⟨by unfold fc_report; rw [if_neg hc], by unfold fc_report; rw [if_neg hc]; exact hid⟩
  · obtain ⟨i, hi, ex⟩ := fc_sw_nat hn q1
    subst ex
    have ec := nI_clamp (n := i) (by omega)
    have hL : cl_isL ns (40 + i) := by unfold cl_isL; omega
    refine am_aload_n d_FF_report_8 rfl (by first | exact am_rvR _ | exact am_rvN | assumption) ?_
    refine am_get d_FF_report_9 f_FF_18 (cl_fab hS) (by rfl) ?_
    refine am_iload_n d_FF_report_12 rfl ?_
    refine am_aald d_FF_report_13 am_kN_ok rfl (cl_nodes hS) rfl (cl_nodes_at hi) (by simp; omega) ?_
    refine am_get d_FF_report_14 f_FF_177 (cl_node hS hi) (by rfl) ?_
    refine am_cV (b := A (40 + i)) d_FF_report_17 v_FF_156 (vs := []) (st := []) rfl rfl (by decide) (Nat.le_of_ble_eq_true rfl) (cl_list hS hL).1.choose_spec.choose_spec.choose_spec.choose_spec.1 (cl_isEmpty hS hL) ?_
    rintro v S9 ⟨rfl, hS9⟩
    rw [hS9]
    first | refine am_if_eqB (tgt := 25) d_FF_report_20 (by decide) (fun q2 => ?_) (fun q2 => ?_) | refine am_if_eqN (tgt := 25) d_FF_report_20 (by decide) (by omega) (fun q2 => ?_) (fun q2 => ?_) | refine am_if_eq (tgt := 25) d_FF_report_20 (by decide) (fun q2 => ?_) (fun q2 => ?_)
    · have hne : 0 < (s.1 (40 + i)).length := by
        cases hz : s.1 (40 + i) with
        | nil => rw [hz] at q2; simp at q2
        | cons a l => simp
      obtain ⟨ma, row, hma, hrow, hel⟩ := cl_at (cl_list hS hL).2 hne
      have hob : S.1 ma = some (0, .inr (am_cMs, row.map Value.int)) ∧ row.length = 5 := by
        unfold cl_el at hel
        rw [if_neg (by omega), if_neg (by omega), if_neg (by omega), if_neg (by omega), if_pos (by omega)] at hel
        exact hel
      have hok : fc_qOk ns row := (IL i hi).2.2 row (List.mem_of_getElem? hrow)
      have hg0 : (s.1 (40 + i)).getD 0 [] = row := by rw [List.getD_eq_getElem?_getD, hrow]; rfl
      have hc : (fc_sw ns (nI i) && !(s.1 (40 + (nI i).toNatClampNeg)).isEmpty) = true := by rw [q1, ec, q2]; rfl
      have eo : fc_report ns s.1 (nI i) = (row.getD 0 0, fc_hears ns (fc_del s.1 (40 + i) 0) i row) := by
        unfold fc_report
        rw [if_pos hc, ec, fc_get_row hrow, hg0]
      rw [eo] at hlen2 ⊢
      refine am_aload_n d_FF_report_25 rfl (by first | exact am_rvR _ | exact am_rvN | assumption) ?_
      refine am_get d_FF_report_26 f_FF_18 (cl_fab hS) (by rfl) ?_
      refine am_iload_n d_FF_report_29 rfl ?_
      refine am_aald d_FF_report_30 am_kN_ok rfl (cl_nodes hS) rfl (cl_nodes_at hi) (by simp; omega) ?_
      refine am_get d_FF_report_31 f_FF_177 (cl_node hS hi) (by rfl) ?_
      refine am_iconst (v := nI 0) d_FF_report_34 (by decide) ?_
      refine am_cV (b := A (40 + i)) d_FF_report_35 v_FF_130 (vs := [.int (nI 0)]) (st := []) rfl rfl (by decide) (Nat.le_of_ble_eq_true rfl) (cl_list hS hL).1.choose_spec.choose_spec.choose_spec.choose_spec.1 (cl_remove hn hS hL hma) ?_
      rintro v S3 ⟨rfl, hS3, hf3⟩
      have hob3 := cl_X0 hf3 hob.1
      have I3 : fc_iD ns room (fc_del s.1 (40 + i) 0) := I.delL 0 (by omega)
      have hfab3 := cl_fab hS3
      have hl3 : ∀ u, u < ns → (fc_del s.1 (40 + i) 0 (30 + u)).length + 2 < 60 := fun u hu => by
        have z := hlen u hu
        unfold fc_del
        rw [fc_up_ne _ (by omega)]
        exact z
      refine am_cast d_FF_report_38 k_FF_168 (q := am_qMs) rfl (Or.inl rfl) hob3 ?_
      refine am_astore_n (L1 := [_, _, _]) d_FF_report_41 (by decide) (by first | exact am_rvR _ | exact am_rvN | assumption) rfl ?_
      refine am_aload_n d_FF_report_42 rfl (by first | exact am_rvR _ | exact am_rvN | assumption) ?_
      refine am_get d_FF_report_43 f_FF_37 hfab3 (by rfl) ?_
      refine am_iload_n d_FF_report_46 rfl ?_
      refine am_aload_n d_FF_report_47 rfl (by first | exact am_rvR _ | exact am_rvN | assumption) ?_
      refine am_cV (b := A 2) d_FF_report_48 v_FF_180 (vs := [.int (nI i), .ref ma]) (st := []) rfl rfl (by decide) (Nat.le_of_ble_eq_true rfl) (cl_ctl hS3) (ct_handle hn he hW hS3 I3.2.2.2.2.2.2.2.2 I3.2.2.2.2.2.2.2.1 hi hok hob3 hl3 hlen2) ?_
      rintro v S6 ⟨rfl, hq6⟩
      have hob6 := cl_X0 hq6.choose_spec.2.2.2 hob3
      refine am_aload_n d_FF_report_51 rfl (by first | exact am_rvR _ | exact am_rvN | assumption) ?_
      refine am_get d_FF_report_52 f_FF_174 hob6 (by exact cl_fld (by omega)) ?_
      refine am_iret d_FF_report_55 rfl (by first | rfl | exact am_b_nar _) ?_
      exact ⟨rfl, hq6.from hf3 (by show s.2.2.1 + 0 + 72 ≤ _; omega) (by show s.2.2.2 + 0 + 5460 ≤ _; omega)⟩
    · refine am_iconst (v := (-1)) d_FF_report_23 (by decide) ?_
      refine am_iret d_FF_report_24 rfl (by first | rfl | exact am_b_nar _) ?_
      have hc : ¬ (fc_sw ns (nI i) && !(s.1 (40 + (nI i).toNatClampNeg)).isEmpty) = true := by rw [ec, q2]; simp
      exact ⟨by unfold fc_report; rw [if_neg hc], by unfold fc_report; rw [if_neg hc]; exact hid⟩
end CTO
