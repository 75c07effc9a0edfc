/-! the class: turn, tick, probe -/
section CFE
variable {g : am_G} {e nw ns room idle : Nat} {A : Nat → Nat} {s : cl_S} {S : am_S}
/-- an order or a report more -/
theorem fc_iD.addL {s : fc_S} (I : fc_iD ns room s) {c i : Nat} {row : List Int32} (hi : i < ns) (hc : (c = 30 + i ∧ fc_oOk row) ∨ (c = 40 + i ∧ fc_qOk ns row)) (hl : (s c).length < 59) : fc_iD ns room (fc_add s c row) := by
  obtain ⟨I0, IH, IP, IW, IG, IR, IL, Io, IK⟩ := I
  have h5 := I0.2.1
  have hs : fc_eqP s (fc_add s c row) := fun q hq => fc_up_ne _ (by omega)
  refine ⟨I0, IH.same hs, IP.same hs, IW.same hs, IG.same (fun j hj => fc_up_ne _ (by omega)), IR.same (fun j hj => fc_up_ne _ (by omega)), fun j hj => ?_, Io.same (fun q h1 h2 => fc_up_ne _ (by omega)), IK.same (fc_up_ne _ (by omega))⟩
  have h := IL j hj
  rcases hc with ⟨rfl, hok⟩ | ⟨rfl, hok⟩
  · refine ⟨?_, by rw [show fc_add s (30 + i) row (40 + j) = s (40 + j) from fc_up_ne _ (by omega)]; exact h.2⟩
    by_cases e : j = i
    · subst e
      unfold fc_add
      rw [fc_up_same]
      refine ⟨by simp; omega, fun r hr => ?_⟩
      rcases List.mem_append.mp hr with h1 | h1
      · exact h.1.2 r h1
      · rw [List.mem_singleton.mp h1]; exact hok
    · rw [show fc_add s (30 + i) row (30 + j) = s (30 + j) from fc_up_ne _ (by omega)]
      exact h.1
  · refine ⟨by rw [show fc_add s (40 + i) row (30 + j) = s (30 + j) from fc_up_ne _ (by omega)]; exact h.1, ?_⟩
    by_cases e : j = i
    · subst e
      unfold fc_add
      rw [fc_up_same]
      refine ⟨by simp; omega, fun r hr => ?_⟩
      rcases List.mem_append.mp hr with h1 | h1
      · exact h.2.2 r h1
      · rw [List.mem_singleton.mp h1]; exact hok
    · rw [show fc_add s (40 + i) row (40 + j) = s (40 + j) from fc_up_ne _ (by omega)]
      exact h.2
/-- a wire is emptied -/
theorem fc_iD.clr {s : fc_S} (I : fc_iD ns room s) {q : Nat} (hq : q < 4 * ns) : fc_iD ns room (fc_up s (200 + q) []) := by
  obtain ⟨I0, IH, IP, IW, IG, IR, IL, Io, IK⟩ := I
  have h5 := I0.2.1
  refine ⟨I0, ?_, fun e he => ?_, fun e he => ?_, IG.same (fun i hi => fc_up_ne _ (by omega)), IR.same (fun i hi => fc_up_ne _ (by omega)), IL.same (fun i hi => ⟨fc_up_ne _ (by omega), fc_up_ne _ (by omega)⟩), Io.same (fun q h1 h2 => fc_up_ne _ (by omega)), IK.same (fc_up_ne _ (by omega))⟩
  · unfold fc_iH
    rw [fc_up_ne _ (by omega), fc_up_ne _ (by omega)]
    exact IH
  · rw [fc_up_ne _ (by omega), fc_up_ne _ (by omega)]
    exact IP e he
  · by_cases ee : e = q
    · subst ee
      rw [fc_up_same]
      exact ⟨by simp, fun row hr => by cases hr⟩
    · rw [fc_up_ne _ (by omega)]
      exact IW e he
/-- a port goes up or down -/
theorem fc_iD.up {s : fc_S} (I : fc_iD ns room s) {q : Nat} (hq : q < 4 * ns) {u : Int32} (hu : u = 0 ∨ u = 1) : fc_iD ns room (fc_put s (100 + q) 0 2 u) := by
  obtain ⟨I0, IH, IP, IW, IG, IR, IL, Io, IK⟩ := I
  have h5 := I0.2.1
  refine ⟨I0, ?_, fun e he => ?_, fun e he => ?_, IG.same (fun i hi => fc_put_ne _ _ _ (by omega)), IR.same (fun i hi => fc_put_ne _ _ _ (by omega)), IL.same (fun i hi => ⟨fc_put_ne _ _ _ (by omega), fc_put_ne _ _ _ (by omega)⟩), Io.same (fun q h1 h2 => fc_put_ne _ _ _ (by omega)), IK.same (fc_put_ne _ _ _ (by omega))⟩
  · unfold fc_iH
    rw [fc_put_ne _ _ _ (by omega), fc_put_ne _ _ _ (by omega)]
    exact IH
  · rw [show fc_put s (100 + q) 0 2 u 1 = s 1 from fc_put_ne _ _ _ (by omega)]
    by_cases ee : e = q
    · subst ee
      obtain ⟨h, o, u0, h1, h2, h3, h4, -⟩ := IP e he
      refine ⟨h, o, u, ?_, h2, h3, h4, hu⟩
      unfold fc_put
      rw [fc_up_same, h1]
      rfl
    · rw [fc_put_ne _ _ _ (by omega)]
      exact IP e he
  · rw [fc_put_ne _ _ _ (by omega)]
    exact IW e he
theorem fc_iD.tp {s : fc_S} (I : fc_iD ns room s) {i p : Nat} (hi : i < ns) (hp : p < 4) {u : Int32} (hu : u = 0 ∨ u = 1) (hl : (s (40 + i)).length < 59) : fc_iD ns room (fc_tp s (4 * i + p) u) := by
  have h5 := I.1.2.1
  have I1 := I.up (q := 4 * i + p) (by omega) hu
  unfold fc_tp
  split
  · have I2 := I1.clr (q := 4 * i + p) (by omega)
    rw [show (4 * i + p) / 4 = i by omega, show (4 * i + p) % 4 = p by omega]
    refine I2.addL hi (Or.inr ⟨rfl, Or.inr (Or.inr (Or.inr (Or.inr (Or.inr ⟨p, hp, rfl⟩))))⟩) ?_
    rw [fc_up_ne _ (by omega), fc_put_len]
    exact hl
  · exact I1
theorem fc_tp_len {s : fc_S} {e j : Nat} {u : Int32} (he : e < 20) (hj : j < 5) : (fc_tp s e u (40 + j)).length ≤ (s (40 + j)).length + 1 := by
  unfold fc_tp
  split
  · unfold fc_add
    by_cases h : j = e / 4
    · subst h
      rw [fc_up_same, List.length_append, fc_up_ne _ (by omega), fc_put_len]
      simp
    · rw [fc_up_ne _ (by omega), fc_up_ne _ (by omega), fc_put_len]
      omega
  · rw [fc_put_len]
    omega
theorem ff_turn (hn : ns ≤ 5) (hS : cl_P e nw ns room idle A s S) (he : am_gE g e) (I : fc_iD ns room s.1) (x p u : Int32) (hu : u = 0 ∨ u = 1) : am_M g y_FF_turn "(IIZ)Z" 8 174 [.ref (A 0), .int x, .int p, .int u] S (fun v S' => v = some (.int (am_b (fc_turn ns s.1 x p u).1)) ∧ cl_Q e nw ns room idle A s S (fc_turn ns s.1 x p u).2 4 200 S') := by
  have hid : cl_Q e nw ns room idle A s S s.1 4 200 S := (cl_Q.id hS).wide (by omega) (by omega)
  have IP := I.2.2.1
  refine am_Mof (L0 := [some (.ref (A 0)), some (.int x), some (.int p), some (.int u), none, none, none]) pl_FF_turn (am_k1 rfl (am_k1 rfl (am_k1 rfl (am_k1 rfl am_k0)))) (Nat.le_of_ble_eq_true rfl) rfl ?_
  refine am_aload_n d_FF_turn_0 rfl (by first | exact am_rvR _ | exact am_rvN | assumption) ?_
  refine am_iload_n d_FF_turn_1 rfl ?_
  refine am_iload_n d_FF_turn_2 rfl ?_
  refine am_cV (b := A 0) d_FF_turn_3 v_FF_79 (vs := [.int x, .int p]) (st := []) rfl rfl (by decide) (Nat.le_of_ble_eq_true rfl) (cl_fab hS) (cq_isEnd hS hn x p) ?_
  rintro v S2 ⟨rfl, rfl⟩
  first | refine am_if_eqB (tgt := 27) d_FF_turn_6 (by decide) (fun q1 => ?_) (fun q1 => ?_) | refine am_if_eqN (tgt := 27) d_FF_turn_6 (by decide) (by omega) (fun q1 => ?_) (fun q1 => ?_) | refine am_if_eq (tgt := 27) d_FF_turn_6 (by decide) (fun q1 => ?_) (fun q1 => ?_)
  · refine am_iconst (v := nI 0) d_FF_turn_27 (by decide) ?_
    refine am_iret d_FF_turn_28 rfl (by first | rfl | exact am_b_nar _) ?_
    exact ⟨by unfold fc_turn; rw [if_neg (by rw [q1]; simp)]; rfl, by unfold fc_turn; rw [if_neg (by rw [q1]; simp)]; exact hid⟩
  · have hpt := q1
    unfold fc_en at hpt
    rw [Bool.and_eq_true] at hpt
    obtain ⟨i, p', hi, hp, ex, ep⟩ := fc_pt_nat hn hpt.1
    subst ex ep
    have e1 := fc_e_nat (show i < 5 by omega) hp
    obtain ⟨h, o, u0, hr, -, ho, -⟩ := IP (4 * i + p') (by omega)
    have hpo : S2.1 (A (100 + (4 * i + p'))) = some (10 * (100 + (4 * i + p')) + 1, .inr (am_cPt, [.ref (A (200 + (4 * i + p'))), cl_hv s h, .int o, .int u0])) := by
      have h1 := cl_port hS (q := 4 * i + p') (by omega)
      unfold cl_pt fc_get at h1
      rw [hr] at h1
      exact h1
    have hen : fc_get s.1 (100 + (4 * i + p')) 0 1 = o := by unfold fc_get; rw [hr]; rfl
    have heu : fc_get s.1 (100 + (4 * i + p')) 0 2 = u0 := by unfold fc_get; rw [hr]; rfl
    have hoo : ∃ m, m < 4 * ns ∧ o = nI m := by
      rcases ho with ho | ho
      · exfalso
        have h2 := hpt.2
        rw [e1, hen, ho] at h2
        simp at h2
      · exact ho
    obtain ⟨m, hm, eo⟩ := hoo
    subst eo
    have hm4 : m / 4 < ns := by omega
    have hmp : m % 4 < 4 := by omega
    have hmate : fc_mate s.1 (4 * i + p') = m := by unfold fc_mate; rw [hen, nI_clamp (by omega)]
    have ct : fc_turn ns s.1 (nI i) (nI p') u = if (u0 != u && (decide ((s.1 (40 + i)).length < 20) && decide ((s.1 (40 + m / 4)).length < 20))) = true then (true, fc_tp (fc_tp s.1 (4 * i + p') u) m u) else (false, s.1) := by
      unfold fc_turn fc_len
      rw [q1, e1, heu, hmate, show (4 * i + p') / 4 = i by omega, Bool.true_and]
    refine am_aload_n d_FF_turn_9 rfl (by first | exact am_rvR _ | exact am_rvN | assumption) ?_
    refine am_get d_FF_turn_10 f_FF_18 (cl_fab hS) (by rfl) ?_
    refine am_iload_n d_FF_turn_13 rfl ?_
    refine am_aald d_FF_turn_14 am_kN_ok rfl (cl_nodes hS) rfl (cl_nodes_at hi) (by simp; omega) ?_
    refine am_get d_FF_turn_15 f_FF_51 (cl_node hS hi) (by rfl) ?_
    refine am_iload_n d_FF_turn_18 rfl ?_
    refine am_aald d_FF_turn_19 am_kP_ok rfl (cl_ports hS hi) rfl (cl_ports_at hp) (by show 4 < 2 ^ 31; decide) ?_
    refine am_get d_FF_turn_20 f_FF_82 hpo (by rfl) ?_
    refine am_iload_n d_FF_turn_23 rfl ?_
    first | refine am_icmp_neN (tgt := 29) d_FF_turn_24 (by decide) (by omega) (by omega) (fun q2 => ?_) (fun q2 => ?_) | refine am_icmp_ne (tgt := 29) d_FF_turn_24 (by decide) (fun q2 => ?_) (fun q2 => ?_)
    · refine am_aload_n d_FF_turn_29 rfl (by first | exact am_rvR _ | exact am_rvN | assumption) ?_
      refine am_get d_FF_turn_30 f_FF_18 (cl_fab hS) (by rfl) ?_
      refine am_iload_n d_FF_turn_33 rfl ?_
      refine am_aald d_FF_turn_34 am_kN_ok rfl (cl_nodes hS) rfl (cl_nodes_at hi) (by simp; omega) ?_
      refine am_get d_FF_turn_35 f_FF_51 (cl_node hS hi) (by rfl) ?_
      refine am_iload_n d_FF_turn_38 rfl ?_
      refine am_aald d_FF_turn_39 am_kP_ok rfl (cl_ports hS hi) rfl (cl_ports_at hp) (by show 4 < 2 ^ 31; decide) ?_
      refine am_get d_FF_turn_40 f_FF_86 hpo (by rfl) ?_
      refine am_istore (L1 := [_, _, _, _, _, _, _]) d_FF_turn_43 (by decide) rfl ?_
      refine am_aload_n d_FF_turn_45 rfl (by first | exact am_rvR _ | exact am_rvN | assumption) ?_
      refine am_get d_FF_turn_46 f_FF_18 (cl_fab hS) (by rfl) ?_
      refine am_iload_n d_FF_turn_49 rfl ?_
      refine am_aald d_FF_turn_50 am_kN_ok rfl (cl_nodes hS) rfl (cl_nodes_at hi) (by simp; omega) ?_
      refine am_astore (L1 := [_, _, _, _, _, _, _]) d_FF_turn_51 (by decide) (by first | exact am_rvR _ | exact am_rvN | assumption) rfl ?_
      refine am_aload_n d_FF_turn_53 rfl (by first | exact am_rvR _ | exact am_rvN | assumption) ?_
      refine am_get d_FF_turn_54 f_FF_18 (cl_fab hS) (by rfl) ?_
      refine am_iload d_FF_turn_57 rfl ?_
      refine am_cS d_FF_turn_59 s_FF_89 (vs := [.int (nI m)]) (st := [.ref (A 8)]) rfl rfl (by decide) (Nat.le_of_ble_eq_true rfl) (ff_switchOf (by omega)) ?_
      rintro v S4 ⟨rfl, rfl⟩
      refine am_aald d_FF_turn_62 am_kN_ok rfl (cl_nodes hS) rfl (cl_nodes_at hm4) (by simp; omega) ?_
      refine am_astore (L1 := [_, _, _, _, _, _, _]) d_FF_turn_63 (by decide) (by first | exact am_rvR _ | exact am_rvN | assumption) rfl ?_
      refine am_aload d_FF_turn_65 rfl (by first | exact am_rvR _ | exact am_rvN | assumption) ?_
      refine am_cV (b := A (50 + i)) d_FF_turn_67 v_FF_93 (vs := []) (st := []) rfl rfl (by decide) (Nat.le_of_ble_eq_true rfl) (cl_node hS hi) (nd_holds hn hS hi) ?_
      rintro v S5 ⟨rfl, rfl⟩
      first | refine am_if_neB (tgt := 81) d_FF_turn_70 (by decide) (fun q3 => ?_) (fun q3 => ?_) | refine am_if_neN (tgt := 81) d_FF_turn_70 (by decide) (by omega) (fun q3 => ?_) (fun q3 => ?_) | refine am_if_ne (tgt := 81) d_FF_turn_70 (by decide) (fun q3 => ?_) (fun q3 => ?_)
      · refine am_iconst (v := nI 0) d_FF_turn_81 (by decide) ?_
        refine am_iret d_FF_turn_82 rfl (by first | rfl | exact am_b_nar _) ?_
        rw [ct, if_neg (by simp only [decide_eq_true_eq] at *; simp; omega)]
        exact ⟨rfl, hid⟩
      · refine am_aload d_FF_turn_73 rfl (by first | exact am_rvR _ | exact am_rvN | assumption) ?_
        refine am_cV (b := A (50 + m / 4)) d_FF_turn_75 v_FF_93 (vs := []) (st := []) rfl rfl (by decide) (Nat.le_of_ble_eq_true rfl) (cl_node hS hm4) (nd_holds hn hS hm4) ?_
        rintro v S6 ⟨rfl, rfl⟩
        first | refine am_if_eqB (tgt := 83) d_FF_turn_78 (by decide) (fun q4 => ?_) (fun q4 => ?_) | refine am_if_eqN (tgt := 83) d_FF_turn_78 (by decide) (by omega) (fun q4 => ?_) (fun q4 => ?_) | refine am_if_eq (tgt := 83) d_FF_turn_78 (by decide) (fun q4 => ?_) (fun q4 => ?_)
        · refine am_aload d_FF_turn_83 rfl (by first | exact am_rvR _ | exact am_rvN | assumption) ?_
          refine am_iload_n d_FF_turn_85 rfl ?_
          refine am_iload_n d_FF_turn_86 rfl ?_
          refine am_cV (b := A (50 + i)) d_FF_turn_87 v_FF_96 (vs := [(.int (nI p')), .int u]) (st := []) rfl rfl (by decide) (Nat.le_of_ble_eq_true rfl) (cl_node hS hi) (nd_turn hn hS hi he I hp hu) ?_
          rintro v S7 ⟨rfl, s7, e7, ⟨b1, b2⟩, hS7, hf7⟩
          rw [decide_eq_false_iff_not] at q3 q4
          have I7 : fc_iD ns room s7.1 := by rw [e7]; exact I.tp hi hp hu (by omega)
          refine am_aload d_FF_turn_90 rfl (by first | exact am_rvR _ | exact am_rvN | assumption) ?_
          refine am_iload d_FF_turn_92 rfl ?_
          refine am_cS d_FF_turn_94 s_FF_100 (vs := [.int (nI m)]) (st := [.ref (A (50 + m / 4))]) rfl rfl (by decide) (Nat.le_of_ble_eq_true rfl) (ff_portOf (by omega)) ?_
          rintro v S8 ⟨rfl, rfl⟩
          refine am_iload_n d_FF_turn_97 rfl ?_
          refine am_cV (b := A (50 + m / 4)) d_FF_turn_98 v_FF_96 (vs := [.int (nI (m % 4)), .int u]) (st := []) rfl rfl (by decide) (Nat.le_of_ble_eq_true rfl) (cl_node hS7 hm4) (nd_turn hn hS7 hm4 he I7 hmp hu) ?_
          rintro v S9 ⟨rfl, hq9⟩
          refine am_iconst (v := nI 1) d_FF_turn_101 (by decide) ?_
          refine am_iret d_FF_turn_102 rfl (by first | rfl | exact am_b_nar _) ?_
          rw [ct, if_pos (by rw [Bool.and_eq_true, Bool.and_eq_true, decide_eq_true_eq, decide_eq_true_eq]; exact ⟨by simpa using q2, by omega, by omega⟩)]
          rw [show 4 * (m / 4) + m % 4 = m by omega, e7] at hq9
          exact ⟨rfl, hq9.from hf7 (by omega) (by omega)⟩
        · refine am_iconst (v := nI 0) d_FF_turn_81 (by decide) ?_
          refine am_iret d_FF_turn_82 rfl (by first | rfl | exact am_b_nar _) ?_
          rw [ct, if_neg (by simp only [decide_eq_true_eq] at *; simp; omega)]
          exact ⟨rfl, hid⟩
    · refine am_iconst (v := nI 0) d_FF_turn_27 (by decide) ?_
      refine am_iret d_FF_turn_28 rfl (by first | rfl | exact am_b_nar _) ?_
      rw [ct, if_neg (by simp [q2])]
      exact ⟨rfl, hid⟩
end CFE
