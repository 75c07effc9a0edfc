/-! the class: frames, rules put and cut -/
section CNH
variable {g : am_G} {e nw ns room idle : Nat} {A : Nat → Nat} {s : cl_S} {S : am_S}
theorem nd_receive (hn : ns ≤ 5) (hS : cl_P e nw ns room idle A s S) {i : Nat} (hi : i < ns) (he : am_gE g e) (I : fc_iD ns room s.1) {f : Nat} {row : List Int32} (hfr : cl_fr f row S) (p : Int32) : am_M g y_Nd_receive "(LFlowFabric$Frame;II)V" 10 223 [.ref (A (50 + i)), .ref f, .int p, .int (fc_now s.1)] S (fun v S' => v = none ∧ cl_Q e nw ns room idle A s S (if row.getD 0 0 = -1 then fc_slight s.1 i [1, p, row.getD 1 0, -1, 0] else fc_in s.1 i p (row.getD 0 0) (row.getD 1 0) (row.getD 2 0)) 3 200 S') := by
  refine am_Mof (L0 := [some (.ref (A (50 + i))), some (.ref f), some (.int p), some (.int (fc_now s.1))]) pl_Nd_receive (am_k1 rfl (am_k1 rfl (am_k1 rfl (am_k1 rfl am_k0)))) (Nat.le_of_ble_eq_true rfl) rfl ?_
  obtain ⟨hr3, ⟨hm, hf0⟩ | ⟨hm, b, hf0, hb0⟩⟩ := hfr
  · refine am_aload_n d_Nd_receive_0 rfl (by first | exact am_rvR _ | exact am_rvN | assumption) ?_
    refine am_get d_Nd_receive_1 f_Nd_65 hf0 (by rfl) ?_
    refine am_ifnullN (tgt := 20) d_Nd_receive_4 (by decide) ?_
    refine am_aload_n d_Nd_receive_20 rfl (by first | exact am_rvR _ | exact am_rvN | assumption) ?_
    refine am_iload_n d_Nd_receive_21 rfl ?_
    refine am_aload_n d_Nd_receive_22 rfl (by first | exact am_rvR _ | exact am_rvN | assumption) ?_
    refine am_get d_Nd_receive_23 f_Nd_75 hf0 (by rfl) ?_
    refine am_cS d_Nd_receive_26 s_Nd_78 (vs := [.int p, .int (row.getD 1 0)]) (st := [.ref (A (50 + i))]) rfl rfl (by decide) (Nat.le_of_ble_eq_true rfl) (mk_msProbe p _) ?_
    rintro v S3 ⟨rfl, rfl⟩
    obtain ⟨hS3, hf3, hmm⟩ := cl_newM hS (c := 40 + i) (by omega) (by omega) 1 p (row.getD 1 0) (-1) 0
    refine am_cV (b := A (50 + i)) d_Nd_receive_29 v_Nd_81 (vs := [.ref _]) (st := []) rfl rfl (by decide) (Nat.le_of_ble_eq_true rfl) (cl_node hS3 hi) (nd_slight hn hS3 hi he hmm) ?_
    rintro v S4 ⟨rfl, hq3⟩
    refine am_vret d_Nd_receive_32 rfl ?_
    refine ⟨rfl, ?_⟩
    rw [if_pos hm]
    exact hq3.from hf3 (by show s.2.2.1 + 1 + 1 ≤ _; omega) (by show s.2.2.2 + 5 + 90 ≤ _; omega)
  · obtain ⟨y0, y1, y2, rfl⟩ : ∃ y0 y1 y2, row = [y0, y1, y2] := by
      match row, hr3 with
      | [y0, y1, y2], _ => exact ⟨y0, y1, y2, rfl⟩
    have hb1 : S.1 b = some (0, .inr (am_cDg, [.int y0, .int y1, .int y2])) := hb0
    refine am_aload_n d_Nd_receive_0 rfl (by first | exact am_rvR _ | exact am_rvN | assumption) ?_
    refine am_get d_Nd_receive_1 f_Nd_65 hf0 (by rfl) ?_
    refine am_ifnull d_Nd_receive_4 ?_
    refine am_aload_n d_Nd_receive_7 rfl (by first | exact am_rvR _ | exact am_rvN | assumption) ?_
    refine am_aload_n d_Nd_receive_8 rfl (by first | exact am_rvR _ | exact am_rvN | assumption) ?_
    refine am_get d_Nd_receive_9 f_Nd_65 hf0 (by rfl) ?_
    refine am_iload_n d_Nd_receive_12 rfl ?_
    refine am_iload_n d_Nd_receive_13 rfl ?_
    refine am_cV (b := A (50 + i)) d_Nd_receive_14 v_Nd_71 (vs := [.ref b, .int p, .int (fc_now s.1)]) (st := []) rfl rfl (by decide) (Nat.le_of_ble_eq_true rfl) (cl_node hS hi) (nd_in hn hS hi he I hb1 hm p) ?_
    rintro v S4 ⟨rfl, hq3⟩
    refine am_goto (tgt := 32) d_Nd_receive_17 (by decide) ?_
    refine am_vret d_Nd_receive_32 rfl ?_
    refine ⟨rfl, ?_⟩
    rw [if_neg hm]
    exact hq3
theorem nd_turn (hn : ns ≤ 5) (hS : cl_P e nw ns room idle A s S) {i : Nat} (hi : i < ns) (he : am_gE g e) (I : fc_iD ns room s.1) {p : Nat} (hp : p < 4) {u : Int32} (hu : u = 0 ∨ u = 1) : am_M g y_Nd_turnPort "(IZ)V" 7 152 [.ref (A (50 + i)), .int (nI p), .int u] S (fun v S' => v = none ∧ cl_Q e nw ns room idle A s S (fc_tp s.1 (4 * i + p) u) 2 100 S') := by
  obtain ⟨-, IH, IP, IW, IG, IR, IL, -⟩ := I
  have hnar : narrow .boolean (.int u) = .int u := by rcases hu with rfl | rfl <;> rfl
  have hfit : fits .boolean (.int u) = true := by rcases hu with rfl | rfl <;> rfl
  obtain ⟨h, o, u0, hr, -⟩ := cl_prow IP (q := 4 * i + p) (by omega)
  have hp0 : S.1 (A (100 + (4 * i + p))) = some (10 * (100 + (4 * i + p)) + 1, .inr (am_cPt, [.ref (A (200 + (4 * i + p))), cl_hv s h, .int o, .int u0])) := by
    have h1 := cl_port hS (q := 4 * i + p) (by omega)
    unfold cl_pt fc_get at h1
    rw [hr] at h1
    exact h1
  obtain ⟨hS1, hf1⟩ := cl_putP hn hS (q := 4 * i + p) (by omega) hr 2 (Or.inr rfl) u
  have hL2 : cl_isL ns (200 + (4 * i + p)) := by unfold cl_isL; omega
  have hL4 : cl_isL ns (40 + i) := by unfold cl_isL; omega
  have hlen := (IL i hi).2.1
  refine am_Mof (L0 := [some (.ref (A (50 + i))), some (.int (nI p)), some (.int u)]) pl_Nd_turnPort (am_k1 rfl (am_k1 rfl (am_k1 rfl am_k0))) (Nat.le_of_ble_eq_true rfl) rfl ?_
  refine am_aload_n d_Nd_turnPort_0 rfl (by first | exact am_rvR _ | exact am_rvN | assumption) ?_
  refine am_get d_Nd_turnPort_1 f_Nd_20 (cl_node hS hi) (by rfl) ?_
  refine am_iload_n d_Nd_turnPort_4 rfl ?_
  refine am_aald d_Nd_turnPort_5 am_kP_ok rfl (cl_ports hS hi) rfl (cl_ports_at hp) (by show 4 < 2 ^ 31; decide) ?_
  refine am_iload_n d_Nd_turnPort_6 rfl ?_
  refine am_put _ d_Nd_turnPort_7 f_Nd_45 (p_Nd_45 _) hp0 (by omega) hnar hfit ?_
  refine am_iload_n d_Nd_turnPort_10 rfl ?_
  refine am_if_ne (tgt := 39) d_Nd_turnPort_11 (by decide) (fun qz => ?_) (fun qz => ?_)
  · refine am_vret d_Nd_turnPort_39 rfl ?_
    refine ⟨rfl, _, ?_, ⟨by show s.2.2.1 ≤ _; omega, by show s.2.2.2 ≤ _; omega⟩, hS1, hf1⟩
    unfold fc_tp
    rw [if_neg qz]
    rfl
  · refine am_aload_n d_Nd_turnPort_14 rfl (by first | exact am_rvR _ | exact am_rvN | assumption) ?_
    refine am_get d_Nd_turnPort_15 f_Nd_20 (cl_node hS1 hi) (by rfl) ?_
    refine am_iload_n d_Nd_turnPort_18 rfl ?_
    refine am_aald d_Nd_turnPort_19 am_kP_ok rfl (cl_ports hS1 hi) rfl (cl_ports_at hp) (by show 4 < 2 ^ 31; decide) ?_
    refine am_get d_Nd_turnPort_20 f_Nd_49 (am_up_at _ _ _ _) (by rfl) ?_
    refine am_cV (b := A (200 + (4 * i + p))) d_Nd_turnPort_23 v_Nd_52 (vs := []) (st := []) rfl rfl (by decide) (Nat.le_of_ble_eq_true rfl) (cl_list hS1 hL2).1.choose_spec.choose_spec.choose_spec.choose_spec.1 (cl_clear hn hS1 hL2) ?_
    rintro v S2 ⟨rfl, hS2, hf2⟩
    refine am_aload_n d_Nd_turnPort_26 rfl (by first | exact am_rvR _ | exact am_rvN | assumption) ?_
    refine am_get d_Nd_turnPort_27 f_Nd_38 (cl_node hS2 hi) (by rfl) ?_
    refine am_iconst (v := (5)) d_Nd_turnPort_30 (by decide) ?_
    refine am_iload_n d_Nd_turnPort_31 rfl ?_
    refine am_cS d_Nd_turnPort_32 s_Nd_55 (vs := [.int 5, .int (nI p)]) (st := [.ref (A (40 + i))]) rfl rfl (by decide) (Nat.le_of_ble_eq_true rfl) (mk_ofValue 5 (nI p)) ?_
    rintro v S3 ⟨rfl, rfl⟩
    obtain ⟨hS3, hf3, hm⟩ := cl_newM hS2 (c := 40 + i) (by omega) (by omega) 5 (nI p) (-1) (-1) 0
    refine am_cV (b := A (40 + i)) d_Nd_turnPort_35 v_Nd_61 (vs := [.ref _]) (st := []) rfl rfl (by decide) (Nat.le_of_ble_eq_true rfl) (cl_list hS3 hL4).1.choose_spec.choose_spec.choose_spec.choose_spec.1 (cl_addM (row := [5, nI p, -1, -1, 0]) hn he hS3 hL4 (show ((fc_up (fc_put s.1 (100 + (4 * i + p)) 0 2 u) (200 + (4 * i + p)) []) (40 + i)).length < 60 by rw [fc_up_ne _ (by omega), fc_put_len]; omega) hm (fun z => by omega)) ?_
    rintro v S4 ⟨rfl, hS4, hf4⟩
    refine am_pop d_Nd_turnPort_38 rfl ?_
    refine am_vret d_Nd_turnPort_39 rfl ?_
    refine ⟨rfl, _, ?_, ⟨by show s.2.2.1 + 0 + 1 + 1 ≤ _; omega, by show s.2.2.2 + 0 + 5 + 90 ≤ _; omega⟩, hS4, ((hf1.trans hf2).trans hf3).trans hf4⟩
    unfold fc_tp
    rw [if_pos qz, show (4 * i + p) / 4 = i by omega, show (4 * i + p) % 4 = p by omega]
    rfl
theorem nd_cut (hn : ns ≤ 5) (hS : cl_P e nw ns room idle A s S) {i : Nat} (hi : i < ns) (I : fc_iR ns room s.1) (hr8 : room ≤ 8) (x z : Int32) : am_M g y_Nd_cutRule "(II)V" 4 88 [.ref (A (50 + i)), .int x, .int z] S (fun v S' => v = none ∧ cl_Q e nw ns room idle A s S (fc_cut s.1 i x z) 0 0 S') := by
  have hL : cl_isL ns (20 + i) := by unfold cl_isL; omega
  have h8 := (I i hi).1
  refine am_Mof (L0 := [some (.ref (A (50 + i))), some (.int x), some (.int z), none]) pl_Nd_cutRule (am_k1 rfl (am_k1 rfl (am_k1 rfl am_k0))) (Nat.le_of_ble_eq_true rfl) rfl ?_
  refine am_aload_n d_Nd_cutRule_0 rfl (by first | exact am_rvR _ | exact am_rvN | assumption) ?_
  refine am_iload_n d_Nd_cutRule_1 rfl ?_
  refine am_iload_n d_Nd_cutRule_2 rfl ?_
  refine am_cV (b := A (50 + i)) d_Nd_cutRule_3 v_Nd_130 (vs := [.int x, .int z]) (st := []) rfl rfl (by decide) (Nat.le_of_ble_eq_true rfl) (cl_node hS hi) (nd_rix hn hS hi x z) ?_
  rintro v S1 ⟨rfl, rfl⟩
  cases hx : fc_rix s.1 i x z with
  | none =>
    refine am_istore_n (L1 := [_, _, _, _]) d_Nd_cutRule_6 (by decide) rfl ?_
    refine am_iload_n d_Nd_cutRule_7 rfl ?_
    refine am_iconst (v := (-1)) d_Nd_cutRule_8 (by decide) ?_
    refine am_icmp_eq (tgt := 21) d_Nd_cutRule_9 (by decide) (fun _ => ?_) (fun q1 => absurd rfl q1)
    refine am_vret d_Nd_cutRule_21 rfl ?_
    refine ⟨rfl, ?_⟩
    unfold fc_cut
    rw [hx]
    exact cl_Q.id hS
  | some k =>
    have hk := fc_rix_some hx
    obtain ⟨a, f', t', pp, m, l, u, ha, hr, ho, hf6, ht6, hp4⟩ := cl_rl hn hS hi I hk
    refine am_istore_n (L1 := [_, _, _, _]) d_Nd_cutRule_6 (by decide) rfl ?_
    refine am_iload_n d_Nd_cutRule_7 rfl ?_
    refine am_iconst (v := (-1)) d_Nd_cutRule_8 (by decide) ?_
    refine am_icmp_eq (tgt := 21) d_Nd_cutRule_9 (by decide) (fun q1 => absurd q1 (cl_ix_ne (by omega))) (fun _ => ?_)
    refine am_aload_n d_Nd_cutRule_12 rfl (by first | exact am_rvR _ | exact am_rvN | assumption) ?_
    refine am_get d_Nd_cutRule_13 f_Nd_32 (cl_node hS hi) (by rfl) ?_
    refine am_iload_n d_Nd_cutRule_16 rfl ?_
    refine am_cV (b := A (20 + i)) d_Nd_cutRule_17 v_Nd_181 (vs := [.int (nI k)]) (st := []) rfl rfl (by decide) (Nat.le_of_ble_eq_true rfl) (cl_list hS hL).1.choose_spec.choose_spec.choose_spec.choose_spec.1 (cl_remove hn hS hL ha) ?_
    rintro v S2 ⟨rfl, hS2, hf2⟩
    refine am_pop d_Nd_cutRule_20 rfl ?_
    refine am_vret d_Nd_cutRule_21 rfl ?_
    refine ⟨rfl, _, ?_, ⟨by show s.2.2.1 + 0 ≤ _; omega, by show s.2.2.2 + 0 ≤ _; omega⟩, hS2, hf2⟩
    unfold fc_cut
    rw [hx]
    rfl
theorem cl_fresh {c : Nat} (hn : ns ≤ 5) (hS : cl_P e nw ns room idle A s S) (hc : cl_isL ns c) : S.2.1 ∉ s.2.1 c := by
  intro h
  obtain ⟨tb, ci, q, fs, h1, -⟩ := cl_alels hc hn (cl_list hS hc).2 _ h
  exact Nat.lt_irrefl _ (hS.1.1 _ _ h1)
theorem fc_cut_ne {s : fc_S} {i c : Nat} {x z : Int32} (h : c ≠ 20 + i) : fc_cut s i x z c = s c := by
  unfold fc_cut
  cases fc_rix s i x z with
  | none => rfl
  | some k => exact fc_up_ne _ h
theorem fc_cut_le {s : fc_S} {i : Nat} {x z : Int32} : (fc_cut s i x z (20 + i)).length ≤ (s (20 + i)).length := by
  unfold fc_cut
  cases fc_rix s i x z with
  | none => exact Nat.le_refl _
  | some k =>
    show (fc_del s (20 + i) k (20 + i)).length ≤ _
    unfold fc_del
    rw [fc_up_same, List.length_eraseIdx]
    split <;> omega
theorem cl_mkT {z : Nat} {x : am_K} (t : Nat) (hS : cl_P e nw ns room idle A s S) : cl_P e nw ns room idle A (cl_bg s 1 z) (am_mk S t z x) ∧ am_fr cl_X S (am_mk S t z x) := ⟨hS.more (am_fr.mk _ _ _ _ hS.1.1) (am_co.mk _ _ _ _), am_fr.mk _ _ _ _ hS.1.1⟩
theorem nd_putr (hn : ns ≤ 5) (hS : cl_P e nw ns room idle A s S) {i : Nat} (hi : i < ns) (he : am_gE g e) (I : fc_iD ns room s.1) {m : Nat} {x0 x1 x2 x3 x4 : Int32} (hm : S.1 m = some (0, .inr (am_cMs, [.int x0, .int x1, .int x2, .int x3, .int x4]))) : am_M g y_Nd_putRule "(LFlowFabric$Message;I)V" 7 152 [.ref (A (50 + i)), .ref m, .int (fc_now s.1)] S (fun v S' => v = none ∧ cl_Q e nw ns room idle A s S (fc_putr room s.1 i x2 x3 x1) 3 200 S') := by
  obtain ⟨⟨-, -, -, hroom⟩, IH, IP, IW, IG, IR, IL, -⟩ := I
  have hL : cl_isL ns (20 + i) := by unfold cl_isL; omega
  have hL4 : cl_isL ns (40 + i) := by unfold cl_isL; omega
  have hlen := (IL i hi).2.1
  have h8 := (IR i hi).1
  have hle := fc_cut_le (s := s.1) (i := i) (x := x2) (z := x3)
  refine am_Mof (L0 := [some (.ref (A (50 + i))), some (.ref m), some (.int (fc_now s.1))]) pl_Nd_putRule (am_k1 rfl (am_k1 rfl (am_k1 rfl am_k0))) (Nat.le_of_ble_eq_true rfl) rfl ?_
  refine am_aload_n d_Nd_putRule_0 rfl (by first | exact am_rvR _ | exact am_rvN | assumption) ?_
  refine am_aload_n d_Nd_putRule_1 rfl (by first | exact am_rvR _ | exact am_rvN | assumption) ?_
  refine am_get d_Nd_putRule_2 f_Nd_154 hm (by rfl) ?_
  refine am_aload_n d_Nd_putRule_5 rfl (by first | exact am_rvR _ | exact am_rvN | assumption) ?_
  refine am_get d_Nd_putRule_6 f_Nd_155 hm (by rfl) ?_
  refine am_cV (b := A (50 + i)) d_Nd_putRule_9 v_Nd_156 (vs := [.int x2, .int x3]) (st := []) rfl rfl (by decide) (Nat.le_of_ble_eq_true rfl) (cl_node hS hi) (nd_cut hn hS hi IR hroom x2 x3) ?_
  rintro v S1 ⟨rfl, s1, e1, ⟨b1, b2⟩, hS1, hf1⟩
  have hm1 := cl_X0 hf1 hm
  have el : (s1.1 (20 + i)).length = (fc_cut s.1 i x2 x3 (20 + i)).length := by rw [e1]
  refine am_aload_n d_Nd_putRule_12 rfl (by first | exact am_rvR _ | exact am_rvN | assumption) ?_
  refine am_get d_Nd_putRule_13 f_Nd_32 (cl_node hS1 hi) (by rfl) ?_
  refine am_cV (b := A (20 + i)) d_Nd_putRule_16 v_Nd_41 (vs := []) (st := []) rfl rfl (by decide) (Nat.le_of_ble_eq_true rfl) (cl_list hS1 hL).1.choose_spec.choose_spec.choose_spec.choose_spec.1 (cl_size hS1 hL) ?_
  rintro v S2 ⟨rfl, rfl⟩
  refine am_aload_n d_Nd_putRule_19 rfl (by first | exact am_rvR _ | exact am_rvN | assumption) ?_
  refine am_get d_Nd_putRule_20 f_Nd_15 (cl_node hS1 hi) (by rfl) ?_
  refine am_icmp_ltN (tgt := 50) d_Nd_putRule_23 (by decide) (by omega) (by omega) (fun qz => ?_) (fun qz => ?_)
  · refine am_aload_n d_Nd_putRule_50 rfl (by first | exact am_rvR _ | exact am_rvN | assumption) ?_
    refine am_get d_Nd_putRule_51 f_Nd_32 (cl_node hS1 hi) (by rfl) ?_
    refine am_nw (10 * (20 + i) + 3) d_Nd_putRule_54 n_Nd_134 df_Rl ?_
    have hb0 := am_mk_at S2 (10 * (20 + i) + 3) 6 (.inr (am_cRl, [.int 0, .int 0, .int 0, .int 0, .int 0, .int 0]))
    have hm2 := am_mk_old (t := 10 * (20 + i) + 3) (n := 6) (x := .inr (am_cRl, [.int 0, .int 0, .int 0, .int 0, .int 0, .int 0])) hm1 hS1.1.1
    refine am_dup d_Nd_putRule_57 rfl ?_
    refine am_aload_n d_Nd_putRule_58 rfl (by first | exact am_rvR _ | exact am_rvN | assumption) ?_
    refine am_get d_Nd_putRule_59 f_Nd_154 hm2 (by rfl) ?_
    refine am_aload_n d_Nd_putRule_62 rfl (by first | exact am_rvR _ | exact am_rvN | assumption) ?_
    refine am_get d_Nd_putRule_63 f_Nd_155 hm2 (by rfl) ?_
    refine am_aload_n d_Nd_putRule_66 rfl (by first | exact am_rvR _ | exact am_rvN | assumption) ?_
    refine am_get d_Nd_putRule_67 f_Nd_160 hm2 (by rfl) ?_
    refine am_iload_n d_Nd_putRule_70 rfl ?_
    refine am_cI (b := S2.2.1) d_Nd_putRule_71 i_Nd_178 (vs := [.int x2, .int x3, .int x1, .int (fc_now s.1)]) (st := [.ref S2.2.1, .ref (A (20 + i))]) rfl rfl (by decide) (Nat.le_of_ble_eq_true rfl) (mk_Rl (by omega) hb0 _ _ _ _) ?_
    rintro v S3 ⟨rfl, rfl⟩
    rw [am_up_mk]
    obtain ⟨hS3, hf3⟩ := cl_mkT (z := 6) (x := .inr (am_cRl, [.int x2, .int x3, .int x1, .int (fc_now s.1), .int (fc_now s.1), .int 0])) (10 * (20 + i) + 3) hS1
    have hel : cl_el (20 + i) S2.2.1 [x2, x3, x1, fc_now s.1, fc_now s.1, 0] _ := (cl_eldir hn (c := 20 + i) (by unfold cl_dir; omega)).mpr ⟨by rw [show cl_cls (20 + i) = am_cRl from by unfold cl_cls; rw [if_neg (by omega), if_neg (by omega)]]; exact am_mk_at S2 (10 * (20 + i) + 3) 6 (.inr (am_cRl, [.int x2, .int x3, .int x1, .int (fc_now s.1), .int (fc_now s.1), .int 0])), by unfold cl_wid; rw [if_neg (by omega), if_neg (by omega)]; rfl⟩
    refine am_cV (b := A (20 + i)) d_Nd_putRule_74 v_Nd_61 (vs := [.ref _]) (st := []) rfl rfl (by decide) (Nat.le_of_ble_eq_true rfl) (cl_list hS3 hL).1.choose_spec.choose_spec.choose_spec.choose_spec.1 (cl_addM (row := [x2, x3, x1, fc_now s.1, fc_now s.1, 0]) hn he hS3 hL (show (s1.1 (20 + i)).length < 60 by omega) hel (fun _ => (cl_fresh hn hS1 hL : S2.2.1 ∉ s1.2.1 (20 + i)))) ?_
    rintro v S4 ⟨rfl, hS4, hf4⟩
    refine am_pop d_Nd_putRule_77 rfl ?_
    refine am_vret d_Nd_putRule_78 rfl ?_
    refine ⟨rfl, _, ?_, ⟨by show s1.2.2.1 + 1 + 1 ≤ _; omega, by show s1.2.2.2 + 6 + 90 ≤ _; omega⟩, hS4, (hf1.trans hf3).trans hf4⟩
    unfold fc_putr fc_len
    rw [if_neg (by omega), ← e1]
    rfl
  · refine am_aload_n d_Nd_putRule_26 rfl (by first | exact am_rvR _ | exact am_rvN | assumption) ?_
    refine am_get d_Nd_putRule_27 f_Nd_38 (cl_node hS1 hi) (by rfl) ?_
    refine am_iconst (v := (3)) d_Nd_putRule_30 (by decide) ?_
    refine am_iconst (v := (-1)) d_Nd_putRule_31 (by decide) ?_
    refine am_aload_n d_Nd_putRule_32 rfl (by first | exact am_rvR _ | exact am_rvN | assumption) ?_
    refine am_get d_Nd_putRule_33 f_Nd_154 hm1 (by rfl) ?_
    refine am_aload_n d_Nd_putRule_36 rfl (by first | exact am_rvR _ | exact am_rvN | assumption) ?_
    refine am_get d_Nd_putRule_37 f_Nd_155 hm1 (by rfl) ?_
    refine am_cS d_Nd_putRule_40 s_Nd_174 (vs := [.int 3, .int (-1), .int x2, .int x3]) (st := [.ref (A (40 + i))]) rfl rfl (by decide) (Nat.le_of_ble_eq_true rfl) (mk_ofPair 3 (-1) x2 x3) ?_
    rintro v S3 ⟨rfl, rfl⟩
    obtain ⟨hS3, hf3, hmm⟩ := cl_newM hS1 (c := 40 + i) (by omega) (by omega) 3 (-1) x2 x3 0
    refine am_cV (b := A (40 + i)) d_Nd_putRule_43 v_Nd_61 (vs := [.ref _]) (st := []) rfl rfl (by decide) (Nat.le_of_ble_eq_true rfl) (cl_list hS3 hL4).1.choose_spec.choose_spec.choose_spec.choose_spec.1 (cl_addM (row := [3, -1, x2, x3, 0]) hn he hS3 hL4 (show (s1.1 (40 + i)).length < 60 by rw [e1, fc_cut_ne (by omega)]; omega) hmm (fun z => by omega)) ?_
    rintro v S4 ⟨rfl, hS4, hf4⟩
    refine am_pop d_Nd_putRule_46 rfl ?_
    refine am_goto (tgt := 78) d_Nd_putRule_47 (by decide) ?_
    refine am_vret d_Nd_putRule_78 rfl ?_
    refine ⟨rfl, _, ?_, ⟨by show s1.2.2.1 + 1 + 1 ≤ _; omega, by show s1.2.2.2 + 5 + 90 ≤ _; omega⟩, hS4, (hf1.trans hf3).trans hf4⟩
    unfold fc_putr fc_len
    rw [if_pos (by omega), ← e1]
    rfl
end CNH
