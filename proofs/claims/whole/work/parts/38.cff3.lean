/-! the class: carry, obey, what is asked -/
section CFC
variable {g : am_G} {e nw ns room idle : Nat} {A : Nat → Nat} {s : cl_S} {S : am_S}
theorem fc_iD.delL {s : fc_S} (I : fc_iD ns room s) {c : Nat} (k : Nat) (hc : (30 ≤ c ∧ c < 30 + ns) ∨ (40 ≤ c ∧ c < 40 + ns)) : fc_iD ns room (fc_del s c k) := by
  obtain ⟨I0, IH, IP, IW, IG, IR, IL, Io, IK⟩ := I
  have h5 := I0.2.1
  have hs : fc_eqP s (fc_del s c k) := fun q hq => fc_up_ne _ (by omega)
  refine ⟨I0, IH.same hs, IP.same hs, IW.same hs, IG.same (fun i hi => fc_up_ne _ (by omega)), IR.same (fun i hi => fc_up_ne _ (by omega)), fun i hi => ?_, Io.same (fun q h1 h2 => fc_up_ne _ (by omega)), IK.same (fc_up_ne _ (by omega))⟩
  have hle : ∀ q, (fc_del s c k q).length ≤ (s q).length := fun q => by
    unfold fc_del
    rw [fc_up_at]
    split
    · next h => subst h; rw [List.length_eraseIdx]; split <;> omega
    · exact Nat.le_refl _
  have hm : ∀ q row, row ∈ fc_del s c k q → row ∈ s q := fun q row hr => by
    unfold fc_del at hr
    rw [fc_up_at] at hr
    split at hr
    · next h => subst h; exact List.mem_of_mem_eraseIdx hr
    · exact hr
  have h := IL i hi
  exact ⟨⟨Nat.le_trans (hle _) h.1.1, fun row hr => h.1.2 row (hm _ row hr)⟩, Nat.le_trans (hle _) h.2.1, fun row hr => h.2.2 row (hm _ row hr)⟩
theorem fc_iD.delW {s : fc_S} (I : fc_iD ns room s) {q : Nat} (k : Nat) (hq : q < 4 * ns) : fc_iD ns room (fc_del s (200 + q) k) := by
  obtain ⟨I0, IH, IP, IW, IG, IR, IL, Io, IK⟩ := I
  have h5 := I0.2.1
  refine ⟨I0, ?_, fun e he => ?_, fun e he => ?_, IG.same (fun i hi => fc_up_ne _ (by omega)), IR.same (fun i hi => fc_up_ne _ (by omega)), IL.same (fun i hi => ⟨fc_up_ne _ (by omega), fc_up_ne _ (by omega)⟩), Io.same (fun q h1 h2 => fc_up_ne _ (by omega)), IK.same (fc_up_ne _ (by omega))⟩
  · unfold fc_iH
    rw [show fc_del s (200 + q) k 0 = s 0 from fc_up_ne _ (by omega), show fc_del s (200 + q) k 1 = s 1 from fc_up_ne _ (by omega)]
    exact IH
  · rw [show fc_del s (200 + q) k (100 + e) = s (100 + e) from fc_up_ne _ (by omega), show fc_del s (200 + q) k 1 = s 1 from fc_up_ne _ (by omega)]
    exact IP e he
  · by_cases ee : e = q
    · subst ee
      unfold fc_del
      rw [fc_up_same]
      refine ⟨?_, fun row hr => (IW e he).2 row (List.mem_of_mem_eraseIdx hr)⟩
      have := (IW e he).1
      rw [List.length_eraseIdx]
      split <;> omega
    · rw [show fc_del s (200 + q) k (200 + e) = s (200 + e) from fc_up_ne _ (by omega)]
      exact IW e he
theorem ff_carry (hn : ns ≤ 5) (hS : cl_P e nw ns room idle A s S) (he : am_gE g e) (I : fc_iD ns room s.1) (x p : Int32) : am_M g y_FF_carry "(II)Z" 11 246 [.ref (A 0), .int x, .int p] S (fun v S' => v = some (.int (am_b (fc_carry ns s.1 x p).1)) ∧ cl_Q e nw ns room idle A s S (fc_carry ns s.1 x p).2 3 200 S') := by
  have hid : cl_Q e nw ns room idle A s S s.1 3 200 S := (cl_Q.id hS).wide (by omega) (by omega)
  have IP := I.2.2.1
  have IW := I.2.2.2.1
  refine am_Mof (L0 := [some (.ref (A 0)), some (.int x), some (.int p), none, none]) pl_FF_carry (am_k1 rfl (am_k1 rfl (am_k1 rfl am_k0))) (Nat.le_of_ble_eq_true rfl) rfl ?_
  refine am_aload_n d_FF_carry_0 rfl (by first | exact am_rvR _ | exact am_rvN | assumption) ?_
  refine am_iload_n d_FF_carry_1 rfl ?_
  refine am_iload_n d_FF_carry_2 rfl ?_
  refine am_cV (b := A 0) d_FF_carry_3 v_FF_79 (vs := [.int x, .int p]) (st := []) rfl rfl (by decide) (Nat.le_of_ble_eq_true rfl) (cl_fab hS) (cq_isEnd hS hn x p) ?_
  rintro v S2 ⟨rfl, rfl⟩
  first | refine am_if_eqB (tgt := 29) d_FF_carry_6 (by decide) (fun q1 => ?_) (fun q1 => ?_) | refine am_if_eqN (tgt := 29) d_FF_carry_6 (by decide) (by omega) (fun q1 => ?_) (fun q1 => ?_) | refine am_if_eq (tgt := 29) d_FF_carry_6 (by decide) (fun q1 => ?_) (fun q1 => ?_)
  · refine am_iconst (v := nI 0) d_FF_carry_29 (by decide) ?_
    refine am_iret d_FF_carry_30 rfl (by first | rfl | exact am_b_nar _) ?_
    have hc : ¬ (fc_en ns s.1 x p && !(s.1 (200 + fc_e x p)).isEmpty) = true := by simp [q1]
    exact ⟨by unfold fc_carry; rw [if_neg hc]; rfl, by unfold fc_carry; rw [if_neg hc]; exact hid⟩
  · have hpt := q1
    unfold fc_en at hpt
    rw [Bool.and_eq_true] at hpt
    obtain ⟨i, p', hi, hp, ex, ep⟩ := fc_pt_nat hn hpt.1
    subst ex ep
    have e1 := fc_e_nat (show i < 5 by omega) hp
    obtain ⟨h, o, u, hr, -, ho, -⟩ := IP (4 * i + p') (by omega)
    have hpo : S2.1 (A (100 + (4 * i + p'))) = some (10 * (100 + (4 * i + p')) + 1, .inr (am_cPt, [.ref (A (200 + (4 * i + p'))), cl_hv s h, .int o, .int u])) := by
      have h1 := cl_port hS (q := 4 * i + p') (by omega)
      unfold cl_pt fc_get at h1
      rw [hr] at h1
      exact h1
    have hL : cl_isL ns (200 + (4 * i + p')) := by unfold cl_isL; omega
    refine am_aload_n d_FF_carry_9 rfl (by first | exact am_rvR _ | exact am_rvN | assumption) ?_
    refine am_get d_FF_carry_10 f_FF_18 (cl_fab hS) (by rfl) ?_
    refine am_iload_n d_FF_carry_13 rfl ?_
    refine am_aald d_FF_carry_14 am_kN_ok rfl (cl_nodes hS) rfl (cl_nodes_at hi) (by simp; omega) ?_
    refine am_get d_FF_carry_15 f_FF_51 (cl_node hS hi) (by rfl) ?_
    refine am_iload_n d_FF_carry_18 rfl ?_
    refine am_aald d_FF_carry_19 am_kP_ok rfl (cl_ports hS hi) rfl (cl_ports_at hp) (by show 4 < 2 ^ 31; decide) ?_
    refine am_get d_FF_carry_20 f_FF_153 hpo (by rfl) ?_
    refine am_cV (b := A (200 + (4 * i + p'))) d_FF_carry_23 v_FF_156 (vs := []) (st := []) rfl rfl (by decide) (Nat.le_of_ble_eq_true rfl) (cl_list hS hL).1.choose_spec.choose_spec.choose_spec.choose_spec.1 (cl_isEmpty hS hL) ?_
    rintro v S2 ⟨rfl, rfl⟩
    first | refine am_if_eqB (tgt := 31) d_FF_carry_26 (by decide) (fun q2 => ?_) (fun q2 => ?_) | refine am_if_eqN (tgt := 31) d_FF_carry_26 (by decide) (by omega) (fun q2 => ?_) (fun q2 => ?_) | refine am_if_eq (tgt := 31) d_FF_carry_26 (by decide) (fun q2 => ?_) (fun q2 => ?_)
    · have hne : 0 < (s.1 (200 + (4 * i + p'))).length := by
        cases hz : s.1 (200 + (4 * i + p')) with
        | nil => rw [hz] at q2; simp at q2
        | cons a l => simp
      obtain ⟨fa, row, hfa, hrow, hel⟩ := cl_at (cl_list hS hL).2 hne
      have hfr : cl_fr fa row S2 := by
        unfold cl_el at hel
        rw [if_neg (by omega), if_neg (by omega), if_neg (by omega), if_neg (by omega), if_neg (by omega)] at hel
        exact hel
      have hob : ∃ fs, S2.1 fa = some (0, .inr (am_cFr, fs)) := by
        obtain ⟨-, ⟨-, h⟩ | ⟨-, b, h, -⟩⟩ := hfr
        · exact ⟨_, h⟩
        · exact ⟨_, h⟩
      obtain ⟨fs, hob⟩ := hob
      have hen : fc_get s.1 (100 + (4 * i + p')) 0 1 = o := by unfold fc_get; rw [hr]; rfl
      have hoo : ∃ m, m < 4 * ns ∧ o = nI m := by
        rcases ho with ho | ho
        · exfalso
          have h2 := hpt.2
          rw [e1, hen, ho] at h2
          simp at h2
        · exact ho
      obtain ⟨m, hm, eo⟩ := hoo
      subst eo
      have hm4 : m / 4 < ns := by omega
      refine am_aload_n d_FF_carry_31 rfl (by first | exact am_rvR _ | exact am_rvN | assumption) ?_
      refine am_get d_FF_carry_32 f_FF_18 (cl_fab hS) (by rfl) ?_
      refine am_iload_n d_FF_carry_35 rfl ?_
      refine am_aald d_FF_carry_36 am_kN_ok rfl (cl_nodes hS) rfl (cl_nodes_at hi) (by simp; omega) ?_
      refine am_get d_FF_carry_37 f_FF_51 (cl_node hS hi) (by rfl) ?_
      refine am_iload_n d_FF_carry_40 rfl ?_
      refine am_aald d_FF_carry_41 am_kP_ok rfl (cl_ports hS hi) rfl (cl_ports_at hp) (by show 4 < 2 ^ 31; decide) ?_
      refine am_get d_FF_carry_42 f_FF_153 hpo (by rfl) ?_
      refine am_iconst (v := nI 0) d_FF_carry_45 (by decide) ?_
      refine am_cV (b := A (200 + (4 * i + p'))) d_FF_carry_46 v_FF_130 (vs := [.int (nI 0)]) (st := []) rfl rfl (by decide) (Nat.le_of_ble_eq_true rfl) (cl_list hS hL).1.choose_spec.choose_spec.choose_spec.choose_spec.1 (cl_remove hn hS hL hfa) ?_
      rintro v S3 ⟨rfl, hS3, hf3⟩
      have hob3 := cl_X0 hf3 hob
      have hfr3 := hfr.fr hf3 (fun z => by unfold cl_X at z; omega)
      have hpo3 : S3.1 (A (100 + (4 * i + p'))) = some (10 * (100 + (4 * i + p')) + 1, .inr (am_cPt, [.ref (A (200 + (4 * i + p'))), cl_hv (cl_up s (200 + (4 * i + p')) ((s.1 (200 + (4 * i + p'))).eraseIdx 0) ((s.2.1 (200 + (4 * i + p'))).eraseIdx 0) 0 0) h, .int (nI m), .int u])) := by
        have h1 := cl_port hS3 (q := 4 * i + p') (by omega)
        unfold cl_pt fc_get at h1
        rw [show (cl_up s (200 + (4 * i + p')) ((s.1 (200 + (4 * i + p'))).eraseIdx 0) ((s.2.1 (200 + (4 * i + p'))).eraseIdx 0) 0 0).1 (100 + (4 * i + p')) = s.1 (100 + (4 * i + p')) from (cl_up_o (by omega)).1, hr] at h1
        exact h1
      have I3 : fc_iD ns room (fc_del s.1 (200 + (4 * i + p')) 0) := I.delW 0 (by omega)
      have hnow : fc_now (fc_del s.1 (200 + (4 * i + p')) 0) = fc_now s.1 := by unfold fc_now fc_get; rw [show fc_del s.1 (200 + (4 * i + p')) 0 0 = s.1 0 from fc_up_ne _ (by omega)]
      have hfab3 := cl_fab hS3
      rw [show fc_get (cl_up s (200 + (4 * i + p')) ((s.1 (200 + (4 * i + p'))).eraseIdx 0) ((s.2.1 (200 + (4 * i + p'))).eraseIdx 0) 0 0).1 0 0 0 = fc_now (fc_del s.1 (200 + (4 * i + p')) 0) from rfl] at hfab3
      refine am_cast d_FF_carry_49 k_FF_159 (q := am_qFr) rfl (Or.inl rfl) hob3 ?_
      refine am_astore_n (L1 := [_, _, _, _, _]) d_FF_carry_52 (by decide) (by first | exact am_rvR _ | exact am_rvN | assumption) rfl ?_
      refine am_aload_n d_FF_carry_53 rfl (by first | exact am_rvR _ | exact am_rvN | assumption) ?_
      refine am_get d_FF_carry_54 f_FF_18 hfab3 (by rfl) ?_
      refine am_iload_n d_FF_carry_57 rfl ?_
      refine am_aald d_FF_carry_58 am_kN_ok rfl (cl_nodes hS3) rfl (cl_nodes_at hi) (by simp; omega) ?_
      refine am_get d_FF_carry_59 f_FF_51 (cl_node hS3 hi) (by rfl) ?_
      refine am_iload_n d_FF_carry_62 rfl ?_
      refine am_aald d_FF_carry_63 am_kP_ok rfl (cl_ports hS3 hi) rfl (cl_ports_at hp) (by show 4 < 2 ^ 31; decide) ?_
      refine am_get d_FF_carry_64 f_FF_86 hpo3 (by rfl) ?_
      refine am_istore (L1 := [_, _, _, _, _]) d_FF_carry_67 (by decide) rfl ?_
      refine am_aload_n d_FF_carry_69 rfl (by first | exact am_rvR _ | exact am_rvN | assumption) ?_
      refine am_get d_FF_carry_70 f_FF_18 hfab3 (by rfl) ?_
      refine am_iload d_FF_carry_73 rfl ?_
      refine am_cS d_FF_carry_75 s_FF_89 (vs := [.int (nI m)]) (st := [.ref (A 8)]) rfl rfl (by decide) (Nat.le_of_ble_eq_true rfl) (ff_switchOf (by omega)) ?_
      rintro v S4 ⟨rfl, rfl⟩
      refine am_aald d_FF_carry_78 am_kN_ok rfl (cl_nodes hS3) rfl (cl_nodes_at hm4) (by simp; omega) ?_
      refine am_aload_n d_FF_carry_79 rfl (by first | exact am_rvR _ | exact am_rvN | assumption) ?_
      refine am_iload d_FF_carry_80 rfl ?_
      refine am_cS d_FF_carry_82 s_FF_100 (vs := [.int (nI m)]) (st := [.ref fa, .ref (A (50 + m / 4))]) rfl rfl (by decide) (Nat.le_of_ble_eq_true rfl) (ff_portOf (by omega)) ?_
      rintro v S5 ⟨rfl, rfl⟩
      refine am_aload_n d_FF_carry_85 rfl (by first | exact am_rvR _ | exact am_rvN | assumption) ?_
      refine am_get d_FF_carry_86 f_FF_44 hfab3 (by rfl) ?_
      refine am_cV (b := A (50 + m / 4)) d_FF_carry_89 v_FF_161 (vs := [.ref fa, .int (nI (m % 4)), (.int (fc_now (fc_del s.1 (200 + (4 * i + p')) 0)))]) (st := []) rfl rfl (by decide) (Nat.le_of_ble_eq_true rfl) (cl_node hS3 hm4) (nd_receive hn hS3 hm4 he I3 hfr3 (nI (m % 4))) ?_
      rintro v S6 ⟨rfl, hq6⟩
      refine am_iconst (v := nI 1) d_FF_carry_92 (by decide) ?_
      refine am_iret d_FF_carry_93 rfl (by first | rfl | exact am_b_nar _) ?_
      have hc : (fc_en ns s.1 (nI i) (nI p') && !(s.1 (200 + fc_e (nI i) (nI p'))).isEmpty) = true := by rw [q1, e1, q2]; rfl
      have hmate : fc_mate s.1 (4 * i + p') = m := by unfold fc_mate; rw [hen, nI_clamp (by omega)]
      have ec : fc_carry ns s.1 (nI i) (nI p') = (true, if row.getD 0 0 = -1 then fc_slight (fc_del s.1 (200 + (4 * i + p')) 0) (m / 4) [1, nI (m % 4), row.getD 1 0, -1, 0] else fc_in (fc_del s.1 (200 + (4 * i + p')) 0) (m / 4) (nI (m % 4)) (row.getD 0 0) (row.getD 1 0) (row.getD 2 0)) := by
        unfold fc_carry
        rw [if_pos hc, e1, hmate, fc_get_row hrow, fc_get_row hrow, fc_get_row hrow]
      rw [ec]
      exact ⟨rfl, hq6.from hf3 (by show s.2.2.1 + 0 + 3 ≤ _; omega) (by show s.2.2.2 + 0 + 200 ≤ _; omega)⟩
    · refine am_iconst (v := nI 0) d_FF_carry_29 (by decide) ?_
      refine am_iret d_FF_carry_30 rfl (by first | rfl | exact am_b_nar _) ?_
      have hc : ¬ (fc_en ns s.1 (nI i) (nI p') && !(s.1 (200 + fc_e (nI i) (nI p'))).isEmpty) = true := by rw [e1, q2]; simp
      exact ⟨by unfold fc_carry; rw [if_neg hc]; rfl, by unfold fc_carry; rw [if_neg hc]; exact hid⟩
theorem ff_obey (hn : ns ≤ 5) (hS : cl_P e nw ns room idle A s S) (he : am_gE g e) (I : fc_iD ns room s.1) (x : Int32) : am_M g y_FF_obey "(I)I" 10 220 [.ref (A 0), .int x] S (fun v S' => v = some (.int (fc_obey ns room s.1 x).1) ∧ cl_Q e nw ns room idle A s S (fc_obey ns room s.1 x).2 9 600 S') := by
  have hid : cl_Q e nw ns room idle A s S s.1 9 600 S := (cl_Q.id hS).wide (by omega) (by omega)
  have IL := I.2.2.2.2.2.2.1
  refine am_Mof (L0 := [some (.ref (A 0)), some (.int x), none]) pl_FF_obey (am_k1 rfl (am_k1 rfl am_k0)) (Nat.le_of_ble_eq_true rfl) rfl ?_
  refine am_aload_n d_FF_obey_0 rfl (by first | exact am_rvR _ | exact am_rvN | assumption) ?_
  refine am_iload_n d_FF_obey_1 rfl ?_
  refine am_cV (b := A 0) d_FF_obey_2 v_FF_103 (vs := [.int x]) (st := []) rfl rfl (by decide) (Nat.le_of_ble_eq_true rfl) (cl_fab hS) (cq_isSwitch hS hn x) ?_
  rintro v S2 ⟨rfl, rfl⟩
  first | refine am_if_eqB (tgt := 23) d_FF_obey_5 (by decide) (fun q1 => ?_) (fun q1 => ?_) | refine am_if_eqN (tgt := 23) d_FF_obey_5 (by decide) (by omega) (fun q1 => ?_) (fun q1 => ?_) | refine am_if_eq (tgt := 23) d_FF_obey_5 (by decide) (fun q1 => ?_) (fun q1 => ?_)
  · refine am_iconst (v := (-1)) d_FF_obey_23 (by decide) ?_
    refine am_iret d_FF_obey_24 rfl (by first | rfl | exact am_b_nar _) ?_
    have hc : ¬ (fc_sw ns x && !(s.1 (30 + x.toNatClampNeg)).isEmpty) = true := by simp [q1]
    exact ⟨by unfold fc_obey; rw [if_neg hc], by unfold fc_obey; rw [if_neg hc]; exact hid⟩
  · obtain ⟨i, hi, ex⟩ := fc_sw_nat hn q1
    subst ex
    have ec := nI_clamp (n := i) (by omega)
    have hL : cl_isL ns (30 + i) := by unfold cl_isL; omega
    refine am_aload_n d_FF_obey_8 rfl (by first | exact am_rvR _ | exact am_rvN | assumption) ?_
    refine am_get d_FF_obey_9 f_FF_18 (cl_fab hS) (by rfl) ?_
    refine am_iload_n d_FF_obey_12 rfl ?_
    refine am_aald d_FF_obey_13 am_kN_ok rfl (cl_nodes hS) rfl (cl_nodes_at hi) (by simp; omega) ?_
    refine am_get d_FF_obey_14 f_FF_165 (cl_node hS hi) (by rfl) ?_
    refine am_cV (b := A (30 + i)) d_FF_obey_17 v_FF_156 (vs := []) (st := []) rfl rfl (by decide) (Nat.le_of_ble_eq_true rfl) (cl_list hS hL).1.choose_spec.choose_spec.choose_spec.choose_spec.1 (cl_isEmpty hS hL) ?_
    rintro v S2 ⟨rfl, rfl⟩
    first | refine am_if_eqB (tgt := 25) d_FF_obey_20 (by decide) (fun q2 => ?_) (fun q2 => ?_) | refine am_if_eqN (tgt := 25) d_FF_obey_20 (by decide) (by omega) (fun q2 => ?_) (fun q2 => ?_) | refine am_if_eq (tgt := 25) d_FF_obey_20 (by decide) (fun q2 => ?_) (fun q2 => ?_)
    · have hne : 0 < (s.1 (30 + i)).length := by
        cases hz : s.1 (30 + i) with
        | nil => rw [hz] at q2; simp at q2
        | cons a l => simp
      obtain ⟨ma, row, hma, hrow, hel⟩ := cl_at (cl_list hS hL).2 hne
      have hob : S2.1 ma = some (0, .inr (am_cMs, row.map Value.int)) ∧ row.length = 5 := by
        unfold cl_el at hel
        rw [if_neg (by omega), if_neg (by omega), if_neg (by omega), if_neg (by omega), if_pos (by omega)] at hel
        exact hel
      have hok : fc_oOk row := ((IL i hi).1).2 row (List.mem_of_getElem? hrow)
      refine am_aload_n d_FF_obey_25 rfl (by first | exact am_rvR _ | exact am_rvN | assumption) ?_
      refine am_get d_FF_obey_26 f_FF_18 (cl_fab hS) (by rfl) ?_
      refine am_iload_n d_FF_obey_29 rfl ?_
      refine am_aald d_FF_obey_30 am_kN_ok rfl (cl_nodes hS) rfl (cl_nodes_at hi) (by simp; omega) ?_
      refine am_get d_FF_obey_31 f_FF_165 (cl_node hS hi) (by rfl) ?_
      refine am_iconst (v := nI 0) d_FF_obey_34 (by decide) ?_
      refine am_cV (b := A (30 + i)) d_FF_obey_35 v_FF_130 (vs := [.int (nI 0)]) (st := []) rfl rfl (by decide) (Nat.le_of_ble_eq_true rfl) (cl_list hS hL).1.choose_spec.choose_spec.choose_spec.choose_spec.1 (cl_remove hn hS hL hma) ?_
      rintro v S3 ⟨rfl, hS3, hf3⟩
      have hob3 := cl_X0 hf3 hob.1
      have I3 : fc_iD ns room (fc_del s.1 (30 + i) 0) := I.delL 0 (by omega)
      have hfab3 := cl_fab hS3
      rw [show fc_get (cl_up s (30 + i) ((s.1 (30 + i)).eraseIdx 0) ((s.2.1 (30 + i)).eraseIdx 0) 0 0).1 0 0 0 = fc_now (fc_del s.1 (30 + i) 0) from rfl] at hfab3
      refine am_cast d_FF_obey_38 k_FF_168 (q := am_qMs) rfl (Or.inl rfl) hob3 ?_
      refine am_astore_n (L1 := [_, _, _]) d_FF_obey_41 (by decide) (by first | exact am_rvR _ | exact am_rvN | assumption) rfl ?_
      refine am_aload_n d_FF_obey_42 rfl (by first | exact am_rvR _ | exact am_rvN | assumption) ?_
      refine am_get d_FF_obey_43 f_FF_18 hfab3 (by rfl) ?_
      refine am_iload_n d_FF_obey_46 rfl ?_
      refine am_aald d_FF_obey_47 am_kN_ok rfl (cl_nodes hS3) rfl (cl_nodes_at hi) (by simp; omega) ?_
      refine am_aload_n d_FF_obey_48 rfl (by first | exact am_rvR _ | exact am_rvN | assumption) ?_
      refine am_aload_n d_FF_obey_49 rfl (by first | exact am_rvR _ | exact am_rvN | assumption) ?_
      refine am_get d_FF_obey_50 f_FF_44 hfab3 (by rfl) ?_
      refine am_cV (b := A (50 + i)) d_FF_obey_53 v_FF_170 (vs := [.ref ma, .int (fc_now (fc_del s.1 (30 + i) 0))]) (st := []) rfl rfl (by decide) (Nat.le_of_ble_eq_true rfl) (cl_node hS3 hi) (nd_does hn hS3 hi he I3 hok hob3) ?_
      rintro v S6 ⟨rfl, s6, e6, ⟨b1, b2⟩, hS6, hf6⟩
      have hob6 := cl_X0 hf6 hob3
      refine am_aload_n d_FF_obey_56 rfl (by first | exact am_rvR _ | exact am_rvN | assumption) ?_
      refine am_get d_FF_obey_57 f_FF_174 hob6 (by exact cl_fld (by omega)) ?_
      refine am_iret d_FF_obey_60 rfl (by first | rfl | exact am_b_nar _) ?_
      have hc : (fc_sw ns (nI i) && !(s.1 (30 + (nI i).toNatClampNeg)).isEmpty) = true := by rw [q1, ec, q2]; rfl
      have eo : fc_obey ns room s.1 (nI i) = (row.getD 0 0, fc_does room (fc_del s.1 (30 + i) 0) i row) := by
        unfold fc_obey
        rw [if_pos hc, ec, fc_get_row hrow, List.getD_eq_getElem?_getD (l := s.1 (30 + i)), hrow]
        rfl
      rw [eo]
      have b1' : s6.2.2.1 ≤ s.2.2.1 + 0 + 9 := b1
      have b2' : s6.2.2.2 ≤ s.2.2.2 + 0 + 600 := b2
      exact ⟨rfl, s6, e6, ⟨by omega, by omega⟩, hS6, hf3.trans hf6⟩
    · refine am_iconst (v := (-1)) d_FF_obey_23 (by decide) ?_
      refine am_iret d_FF_obey_24 rfl (by first | rfl | exact am_b_nar _) ?_
      have hc : ¬ (fc_sw ns (nI i) && !(s.1 (30 + (nI i).toNatClampNeg)).isEmpty) = true := by rw [ec, q2]; simp
      exact ⟨by unfold fc_obey; rw [if_neg hc], by unfold fc_obey; rw [if_neg hc]; exact hid⟩
end CFC
