/-! the class: rules, a datagram comes in -/
section CNF
variable {g : am_G} {e nw ns room idle : Nat} {A : Nat → Nat} {s : cl_S} {S : am_S}
theorem fc_rix_some {s : fc_S} {i k : Nat} {x z : Int32} (h : fc_rix s i x z = some k) : k < (s (20 + i)).length := by
  unfold fc_rix at h
  rw [List.findIdx?_eq_some_iff_getElem] at h
  exact h.1
theorem cl_ix_ne {k : Nat} (h : k < 2 ^ 31) : nI k ≠ -1 := by
  intro z
  have := congrArg Int32.toInt z
  rw [nI_toInt h, am_m1] at this
  omega
/-- a message of its own row -/
theorem cl_ms {c a : Nat} {row : List Int32} {S : am_S} (hc : 30 ≤ c) (hc2 : c < 100) (h : S.1 a = some (0, .inr (am_cMs, row.map Value.int))) (hl : row.length = 5) : cl_el c a row S := by
  unfold cl_el
  rw [if_neg (by omega), if_neg (by omega), if_neg (by omega), if_neg (by omega), if_pos hc2]
  exact ⟨h, hl⟩
/-- a port's rows, out of what always holds -/
theorem cl_prow {s : fc_S} (I : fc_iP ns s) {q : Nat} (hq : q < 4 * ns) : ∃ h o u : Int32, s (100 + q) = [[h, o, u]] ∧ (h = -1 ∨ ∃ k, k < (s 1).length ∧ h = nI k) := by
  obtain ⟨h, o, u, h1, h2, -⟩ := I q hq
  exact ⟨h, o, u, h1, h2⟩
/-- the ports, wires and hosts are the same -/
def fc_eqP (s s' : fc_S) : Prop := ∀ c, (c ≤ 1 ∨ 100 ≤ c) → s' c = s c
theorem fc_iP.same {s s' : fc_S} (h : fc_iP ns s) (q : fc_eqP s s') : fc_iP ns s' := by
  intro e he
  rw [q (100 + e) (by omega), q 1 (by omega)]
  exact h e he
theorem fc_iW.same {s s' : fc_S} (h : fc_iW ns s) (q : fc_eqP s s') : fc_iW ns s' := by
  intro e he
  rw [q (200 + e) (by omega)]
  exact h e he
theorem fc_iH.same {s s' : fc_S} (h : fc_iH ns s) (q : fc_eqP s s') : fc_iH ns s' := by
  unfold fc_iH
  rw [q 0 (by omega), q 1 (by omega)]
  exact h
theorem pt_out (hn : ns ≤ 5) (he : am_gE g e) (hS : cl_P e nw ns room idle A s S) {q : Nat} (hq : q < 4 * ns) (IP : fc_iP ns s.1) (IH : fc_iH ns s.1) (IW : fc_iW ns s.1) {f : Nat} {row : List Int32} (hfr : cl_fr f row S) : am_M g y_Pt_sendOut "(LFlowFabric$Frame;)V" 7 152 [.ref (A (100 + q)), .ref f] S (fun v S' => v = none ∧ cl_Q e nw ns room idle A s S (fc_out s.1 q row) 1 90 S') := by
  obtain ⟨h, o, u, h1, h2⟩ := cl_prow IP hq
  exact pt_sendOut hn he hS hq h1 h2 IH (by have := (IW q hq).1; omega) hfr
theorem nd_rules (hn : ns ≤ 5) (hS : cl_P e nw ns room idle A s S) {i : Nat} (hi : i < ns) (he : am_gE g e) (I : fc_iD ns room s.1) {b : Nat} {f t n : Int32} (hb : S.1 b = some (0, .inr (am_cDg, [.int f, .int t, .int n]))) (hf : f ≠ -1) (p : Int32) : am_M g y_Nd_comeToRules "(LFlowFabric$Datagram;II)V" 8 173 [.ref (A (50 + i)), .ref b, .int p, .int (fc_now s.1)] S (fun v S' => v = none ∧ cl_Q e nw ns room idle A s S (fc_rules s.1 i p f t n) 3 200 S') := by
  obtain ⟨⟨-, -, -, hroom⟩, IH, IP, IW, IG, IR, -⟩ := I
  have hL : cl_isL ns (20 + i) := by unfold cl_isL; omega
  have h8 := (IR i hi).1
  have hls := (cl_list hS hL).1
  refine am_Mof (L0 := [some (.ref (A (50 + i))), some (.ref b), some (.int p), some (.int (fc_now s.1)), none, none]) pl_Nd_comeToRules (am_k1 rfl (am_k1 rfl (am_k1 rfl (am_k1 rfl am_k0)))) (Nat.le_of_ble_eq_true rfl) rfl ?_
  refine am_aload_n d_Nd_comeToRules_0 rfl (by first | exact am_rvR _ | exact am_rvN | assumption) ?_
  refine am_aload_n d_Nd_comeToRules_1 rfl (by first | exact am_rvR _ | exact am_rvN | assumption) ?_
  refine am_get d_Nd_comeToRules_2 f_Nd_122 hb (by rfl) ?_
  refine am_aload_n d_Nd_comeToRules_5 rfl (by first | exact am_rvR _ | exact am_rvN | assumption) ?_
  refine am_get d_Nd_comeToRules_6 f_Nd_127 hb (by rfl) ?_
  refine am_cV (b := A (50 + i)) d_Nd_comeToRules_9 v_Nd_130 (vs := [.int f, .int t]) (st := []) rfl rfl (by decide) (Nat.le_of_ble_eq_true rfl) (cl_node hS hi) (nd_rix hn hS hi f t) ?_
  rintro v S1 ⟨rfl, rfl⟩
  cases hx : fc_rix s.1 i f t with
  | none =>
    refine am_istore (L1 := [_, _, _, _, _, _]) d_Nd_comeToRules_12 (by decide) rfl ?_
    refine am_iload d_Nd_comeToRules_14 rfl ?_
    refine am_iconst (v := (-1)) d_Nd_comeToRules_16 (by decide) ?_
    refine am_icmp_ne (tgt := 31) d_Nd_comeToRules_17 (by decide) (fun q1 => absurd rfl q1) (fun _ => ?_)
    refine am_aload_n d_Nd_comeToRules_20 rfl (by first | exact am_rvR _ | exact am_rvN | assumption) ?_
    refine am_iconst (v := (0)) d_Nd_comeToRules_21 (by decide) ?_
    refine am_iload_n d_Nd_comeToRules_22 rfl ?_
    refine am_aload_n d_Nd_comeToRules_23 rfl (by first | exact am_rvR _ | exact am_rvN | assumption) ?_
    refine am_cS d_Nd_comeToRules_24 s_Nd_108 (vs := [.int 0, .int p, .ref b]) (st := [.ref (A (50 + i))]) rfl rfl (by decide) (Nat.le_of_ble_eq_true rfl) (mk_ofDatagram 0 p hS.1.1 hb) ?_
    rintro v S2 ⟨rfl, rfl⟩
    obtain ⟨hS2, hf2⟩ := hS.mk (z := 5) (x := .inr (am_cMs, [.int 0, .int p, .int f, .int t, .int n]))
    have hm := cl_ms (c := 40 + i) (row := [0, p, f, t, n]) (by omega) (by omega) (am_mk_at S1 0 5 (.inr (am_cMs, [.int 0, .int p, .int f, .int t, .int n]))) rfl
    refine am_cV (b := A (50 + i)) d_Nd_comeToRules_27 v_Nd_81 (vs := [.ref S1.2.1]) (st := []) rfl rfl (by decide) (Nat.le_of_ble_eq_true rfl) (cl_node hS2 hi) (nd_slight hn hS2 hi he hm) ?_
    rintro v S3 ⟨rfl, hq3⟩
    refine am_vret d_Nd_comeToRules_30 rfl ?_
    refine ⟨rfl, ?_⟩
    unfold fc_rules
    rw [hx]
    exact hq3.from hf2 (by show s.2.2.1 + 1 + 1 ≤ _; omega) (by show s.2.2.2 + 5 + 90 ≤ _; omega)
  | some k =>
    have hk := fc_rix_some hx
    have hk31 : k < 2 ^ 31 := by omega
    obtain ⟨a, f', t', pp, m, l, u, ha, hr, ho, hf6, ht6, hp4⟩ := cl_rl hn hS hi IR hk
    refine am_istore (L1 := [_, _, _, _, _, _]) d_Nd_comeToRules_12 (by decide) rfl ?_
    refine am_iload d_Nd_comeToRules_14 rfl ?_
    refine am_iconst (v := (-1)) d_Nd_comeToRules_16 (by decide) ?_
    refine am_icmp_ne (tgt := 31) d_Nd_comeToRules_17 (by decide) (fun _ => ?_) (fun q1 => absurd q1 (cl_ix_ne hk31))
    refine am_aload_n d_Nd_comeToRules_31 rfl (by first | exact am_rvR _ | exact am_rvN | assumption) ?_
    refine am_get d_Nd_comeToRules_32 f_Nd_32 (cl_node hS hi) (by rfl) ?_
    refine am_iload d_Nd_comeToRules_35 rfl ?_
    refine am_cV (b := A (20 + i)) d_Nd_comeToRules_37 v_Nd_111 (vs := [.int (nI k)]) (st := []) rfl rfl (by decide) (Nat.le_of_ble_eq_true rfl) hls.choose_spec.choose_spec.choose_spec.choose_spec.1 (cl_getM hS hL ha) ?_
    rintro v S2 ⟨rfl, rfl⟩
    refine am_cast d_Nd_comeToRules_40 k_Nd_134 (q := am_qRl) rfl (Or.inl rfl) ho ?_
    refine am_astore (L1 := [_, _, _, _, _, _]) d_Nd_comeToRules_43 (by decide) (by first | exact am_rvR _ | exact am_rvN | assumption) rfl ?_
    refine am_aload d_Nd_comeToRules_45 rfl (by first | exact am_rvR _ | exact am_rvN | assumption) ?_
    refine am_dup d_Nd_comeToRules_47 rfl ?_
    refine am_get d_Nd_comeToRules_48 f_Nd_136 ho (by rfl) ?_
    refine am_iconst (v := (1)) d_Nd_comeToRules_51 (by decide) ?_
    first | refine am_iaddN d_Nd_comeToRules_52 ?_ | refine am_iadd d_Nd_comeToRules_52 ?_
    refine am_put _ d_Nd_comeToRules_53 f_Nd_136 (p_Nd_136 _) ho (by omega) rfl rfl ?_
    refine am_aload d_Nd_comeToRules_56 rfl (by first | exact am_rvR _ | exact am_rvN | assumption) ?_
    refine am_iload_n d_Nd_comeToRules_58 rfl ?_
    refine am_put _ d_Nd_comeToRules_59 f_Nd_139 (p_Nd_139 _) (am_up_at _ _ _ _) (by omega) rfl rfl ?_
    rw [am_up_up]
    obtain ⟨hS1, hf1⟩ := cl_setel hn hS (c := 20 + i) (row' := [nI f', nI t', nI pp, m, fc_now s.1, u + 1]) (by unfold cl_dir; omega) ha hr rfl
    rw [show cl_cls (20 + i) = am_cRl from by unfold cl_cls; rw [if_neg (by omega), if_neg (by omega)]] at hS1 hf1
    have hb1 := cl_X0 hf1 hb
    obtain ⟨hS2, hf2⟩ := hS1.mk (z := 2) (x := .inr (am_cFr, [.ref b, .int (-1)]))
    have hb2 := cl_X0 hf2 hb1
    have hfr : cl_fr _ [f, t, n] _ := ⟨rfl, Or.inr ⟨hf, b, am_mk_at _ 0 2 (.inr (am_cFr, [.ref b, .int (-1)])), hb2⟩⟩
    have hsame : fc_eqP s.1 (fc_up s.1 (20 + i) ((s.1 (20 + i)).set k [nI f', nI t', nI pp, m, fc_now s.1, u + 1])) := fun c hc => fc_up_ne _ (by omega)
    refine am_aload_n d_Nd_comeToRules_62 rfl (by first | exact am_rvR _ | exact am_rvN | assumption) ?_
    refine am_get d_Nd_comeToRules_63 f_Nd_20 (cl_node hS1 hi) (by rfl) ?_
    refine am_aload d_Nd_comeToRules_66 rfl (by first | exact am_rvR _ | exact am_rvN | assumption) ?_
    refine am_get d_Nd_comeToRules_68 f_Nd_142 (am_up_at _ _ _ _) (by rfl) ?_
    refine am_aald d_Nd_comeToRules_71 am_kP_ok rfl (cl_ports hS1 hi) rfl (cl_ports_at hp4) (by show 4 < 2 ^ 31; decide) ?_
    refine am_aload_n d_Nd_comeToRules_72 rfl (by first | exact am_rvR _ | exact am_rvN | assumption) ?_
    refine am_cS d_Nd_comeToRules_73 s_Nd_97 (vs := [.ref b]) (st := [.ref (A (100 + (4 * i + pp)))]) rfl rfl (by decide) (Nat.le_of_ble_eq_true rfl) (mk_frDg b) ?_
    rintro v S3 ⟨rfl, rfl⟩
    refine am_cV (b := A (100 + (4 * i + pp))) d_Nd_comeToRules_76 v_Nd_101 (vs := [.ref _]) (st := []) rfl rfl (by decide) (Nat.le_of_ble_eq_true rfl) (cl_port hS2 (by omega)) (pt_out hn he hS2 (q := 4 * i + pp) (by omega) (IP.same hsame) (IH.same hsame) (IW.same hsame) hfr) ?_
    rintro v S4 ⟨rfl, hq3⟩
    refine am_vret d_Nd_comeToRules_79 rfl ?_
    refine ⟨rfl, ?_⟩
    have e1 : fc_rules s.1 i p f t n = fc_out (fc_up s.1 (20 + i) ((s.1 (20 + i)).set k [nI f', nI t', nI pp, m, fc_now s.1, u + 1])) (4 * i + pp) [f, t, n] := by
      unfold fc_rules
      rw [hx]
      simp only
      rw [fc_put2 hr, fc_get_row hr, fc_get_row hr]
      show fc_out _ (4 * i + (nI pp).toNatClampNeg) _ = _
      rw [nI_clamp (by omega)]
      rfl
    rw [e1]
    exact hq3.from (hf1.trans hf2) (by show s.2.2.1 + 1 + 1 ≤ _; omega) (by show s.2.2.2 + 2 + 90 ≤ _; omega)
end CNF
