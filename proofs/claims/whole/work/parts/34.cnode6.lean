/-! the class: orders to send out -/
section CNI
variable {g : am_G} {e nw ns room idle : Nat} {A : Nat → Nat} {s : cl_S} {S : am_S}
theorem fc_take_eq {s : fc_S} {k : Nat} {x0 x1 x2 x3 x4 x5 : Int32} (hr : (s 1)[k]? = some [x0, x1, x2, x3, x4, x5]) (row : List Int32) : fc_take s k row = fc_up s 1 ((s 1).set k [x0, x1, x2, x3 + 1, row.getD 2 0, row.getD 0 0]) := by
  have h1 := (List.getElem?_eq_some_iff.mp hr).1
  unfold fc_take fc_put fc_get
  funext q
  simp only [fc_up_at]
  by_cases e : q = 1
  · simp only [e, if_true, List.getD_eq_getElem?_getD, List.getElem?_set_self h1, hr, Option.getD_some, List.length_set, List.set_set]
    rfl
  · simp only [e, if_false]
/-- what a port that sends out does to the rows -/
theorem fc_out_cases {s : fc_S} {q : Nat} (IP : fc_iP ns s) (IH : fc_iH ns s) (hq : q < 4 * ns) (row : List Int32) : fc_out s q row = s ∨ (∃ (k i p : Nat) (a b c : Int32), i < ns ∧ p < 4 ∧ (s 1)[k]? = some [nI k, nI i, nI p, a, b, c] ∧ fc_out s q row = fc_up s 1 ((s 1).set k [nI k, nI i, nI p, a + 1, row.getD 2 0, row.getD 0 0])) ∨ ((s (200 + q)).length < 6 ∧ fc_out s q row = fc_up s (200 + q) (s (200 + q) ++ [row])) := by
  obtain ⟨h, o, u, h1, h2, -⟩ := IP q hq
  have e0 : fc_get s (100 + q) 0 0 = h := by unfold fc_get; rw [h1]; rfl
  unfold fc_out
  rw [e0]
  split
  · next hh =>
    split
    · rcases h2 with h2 | ⟨k, hk, h2⟩
      · rw [h2] at hh; simp at hh
      · obtain ⟨i, p, a, b, c, hi, hp, hr⟩ := IH.2.2 k _ (List.getElem?_eq_getElem hk)
        have hr' : (s 1)[k]? = some [nI k, nI i, nI p, a, b, c] := by rw [List.getElem?_eq_getElem hk, hr]
        refine Or.inr (Or.inl ⟨k, i, p, a, b, c, hi, hp, hr', ?_⟩)
        rw [h2, nI_clamp (by have := IH.2.1; omega)]
        exact fc_take_eq hr' row
    · exact Or.inl rfl
  · split
    · next hh =>
      rw [Bool.and_eq_true, decide_eq_true_eq] at hh
      exact Or.inr (Or.inr ⟨hh.2, rfl⟩)
    · exact Or.inl rfl
theorem fc_out_ok {s : fc_S} {q : Nat} (hn : ns ≤ 5) (IP : fc_iP ns s) (IH : fc_iH ns s) (IW : fc_iW ns s) (hq : q < 4 * ns) {row : List Int32} (hf : fc_frm ns row) : fc_iP ns (fc_out s q row) ∧ fc_iH ns (fc_out s q row) ∧ fc_iW ns (fc_out s q row) := by
  rcases fc_out_cases IP IH hq row with h | ⟨k, i, p, a, b, c, hi, hp, hr, h⟩ | ⟨h6, h⟩
  · rw [h]; exact ⟨IP, IH, IW⟩
  · have hk := (List.getElem?_eq_some_iff.mp hr).1
    rw [h]
    have e1 : ∀ c, c ≠ 1 → fc_up s 1 ((s 1).set k [nI k, nI i, nI p, a + 1, row.getD 2 0, row.getD 0 0]) c = s c := fun c hc => fc_up_ne _ hc
    refine ⟨fun e he => ?_, ⟨?_, ?_, fun j r hj => ?_⟩, fun e he => ?_⟩
    · rw [e1 _ (by omega), fc_up_same, List.length_set]
      exact IP e he
    · rw [e1 0 (by omega), fc_up_same, List.length_set]
      exact IH.1
    · rw [fc_up_same, List.length_set]
      exact IH.2.1
    · rw [fc_up_same] at hj
      by_cases ej : j = k
      · subst ej
        rw [List.getElem?_set_self hk] at hj
        cases hj
        exact ⟨i, p, _, _, _, hi, hp, rfl⟩
      · rw [List.getElem?_set_ne (Ne.symm ej)] at hj
        exact IH.2.2 j r hj
    · rw [e1 _ (by omega)]
      exact IW e he
  · rw [h]
    have e1 : ∀ c, c ≠ 200 + q → fc_up s (200 + q) (s (200 + q) ++ [row]) c = s c := fun c hc => fc_up_ne _ hc
    refine ⟨fun e he => ?_, ?_, fun e he => ?_⟩
    · rw [e1 (100 + e) (by omega), e1 1 (by omega)]
      exact IP e he
    · unfold fc_iH
      rw [e1 0 (by omega), e1 1 (by omega)]
      exact IH
    · by_cases ee : e = q
      · subst ee
        rw [fc_up_same]
        refine ⟨by simp; omega, fun r hr => ?_⟩
        rcases List.mem_append.mp hr with h1 | h1
        · exact (IW e he).2 r h1
        · rw [List.mem_singleton.mp h1]; exact hf
      · rw [e1 _ (by omega)]
        exact IW e he
theorem am_sh4 {k : Nat} (hk : k < 4) : (nI k &&& 31) = nI k := by
  have : k = 0 ∨ k = 1 ∨ k = 2 ∨ k = 3 := by omega
  rcases this with rfl | rfl | rfl | rfl <;> decide
theorem nd_outs (hn : ns ≤ 5) (hS : cl_P e nw ns room idle A s S) {i : Nat} (hi : i < ns) (he : am_gE g e) (IP : fc_iP ns s.1) (IH : fc_iH ns s.1) (IW : fc_iW ns s.1) {b : Nat} {f t n : Int32} (hb : S.1 b = some (0, .inr (am_cDg, [.int f, .int t, .int n]))) (hf : f ≠ -1) (hfr : fc_frm ns [f, t, n]) (bits : Int32) : am_M g y_Nd_sendOutAt "(ILFlowFabric$Datagram;)V" 8 173 [.ref (A (50 + i)), .int bits, .ref b] S (fun v S' => v = none ∧ cl_Q e nw ns room idle A s S (fc_outs s.1 i bits [f, t, n] 4) 5 400 S') := by
  have key : ∀ (m k : Nat) (s1 : cl_S) (S1 : am_S) (fa : Nat), k + m = 4 → s1.1 = fc_outs s.1 i bits [f, t, n] k → s1.2.2.1 ≤ s.2.2.1 + 1 + k → s1.2.2.2 ≤ s.2.2.2 + 2 + 90 * k → cl_P e nw ns room idle A s1 S1 → am_fr cl_X S S1 → cl_fr fa [f, t, n] S1 → fc_iP ns s1.1 → fc_iH ns s1.1 → fc_iW ns s1.1 → am_W g y_Nd_sendOutAt 8 173 (fun v S' => v = none ∧ cl_Q e nw ns room idle A s S (fc_outs s.1 i bits [f, t, n] 4) 5 400 S') 8 [some (.ref (A (50 + i))), some (.int bits), some (.ref b), some (.ref fa), some (.int (nI k))] [] S1 := by
    intro m
    induction m with
    | zero =>
      intro k s1 S1 fa hk e1 b1 b2 hS1 hf1 hfa JP JH JW
      refine am_iload d_Nd_sendOutAt_8 rfl ?_
      refine am_iconst (v := nI 4) d_Nd_sendOutAt_10 (by decide) ?_
      refine am_icmp_geN (tgt := 41) d_Nd_sendOutAt_11 (by decide) (by omega) (by omega) (fun _ => ?_) (fun q => absurd q (by omega))
      refine am_vret d_Nd_sendOutAt_41 rfl ?_
      have ek : k = 4 := by omega
      subst ek
      exact ⟨rfl, s1, e1, ⟨by omega, by omega⟩, hS1, hf1⟩
    | succ m ih =>
      intro k s1 S1 fa hk e1 b1 b2 hS1 hf1 hfa JP JH JW
      have es : fc_outs s.1 i bits [f, t, n] (k + 1) = if bits >>> nI k &&& 1 = 1 then fc_out (fc_outs s.1 i bits [f, t, n] k) (4 * i + k) [f, t, n] else fc_outs s.1 i bits [f, t, n] k := rfl
      refine am_iload d_Nd_sendOutAt_8 rfl ?_
      refine am_iconst (v := nI 4) d_Nd_sendOutAt_10 (by decide) ?_
      refine am_icmp_geN (tgt := 41) d_Nd_sendOutAt_11 (by decide) (by omega) (by omega) (fun q => absurd q (by omega)) (fun _ => ?_)
      refine am_iload_n d_Nd_sendOutAt_14 rfl ?_
      refine am_iload d_Nd_sendOutAt_15 rfl ?_
      refine am_ishr d_Nd_sendOutAt_17 ?_
      rw [am_sh4 (by omega)]
      refine am_iconst (v := 1) d_Nd_sendOutAt_18 (by decide) ?_
      refine am_iand d_Nd_sendOutAt_19 ?_
      refine am_iconst (v := 1) d_Nd_sendOutAt_20 (by decide) ?_
      first | refine am_icmp_neN (tgt := 35) d_Nd_sendOutAt_21 (by decide) (by omega) (by omega) (fun q1 => ?_) (fun q1 => ?_) | refine am_icmp_ne (tgt := 35) d_Nd_sendOutAt_21 (by decide) (fun q1 => ?_) (fun q1 => ?_)
      · first | refine am_iincN (b := 1) (L1 := [_, _, _, _, _]) d_Nd_sendOutAt_35 rfl (by decide) (by decide) rfl ?_ | refine am_iinc (L1 := [_, _, _, _, _]) d_Nd_sendOutAt_35 rfl rfl (by decide) rfl ?_
        refine am_goto (tgt := 8) d_Nd_sendOutAt_38 (by decide) ?_
        first | (have hok := fc_out_ok hn JP JH JW (q := 4 * i + k) (by omega) hfr
                 rw [← e2] at hok
                 exact ih (k + 1) s2 S2 fa (by omega) (by rw [es, if_pos (by assumption), e2, e1]) (by omega) (by omega) hS2 (hf1.trans hf2) (hfa.fr hf2 (fun z => by unfold cl_X at z; omega)) hok.1 hok.2.1 hok.2.2) | exact ih (k + 1) s1 S1 fa (by omega) (by rw [es, if_neg (by assumption), e1]) (by omega) (by omega) hS1 hf1 hfa JP JH JW
      · refine am_aload_n d_Nd_sendOutAt_24 rfl (by first | exact am_rvR _ | exact am_rvN | assumption) ?_
        refine am_get d_Nd_sendOutAt_25 f_Nd_20 (cl_node hS1 hi) (by rfl) ?_
        refine am_iload d_Nd_sendOutAt_28 rfl ?_
        refine am_aald d_Nd_sendOutAt_30 am_kP_ok rfl (cl_ports hS1 hi) rfl (cl_ports_at (by omega)) (by show 4 < 2 ^ 31; decide) ?_
        refine am_aload_n d_Nd_sendOutAt_31 rfl (by first | exact am_rvR _ | exact am_rvN | assumption) ?_
        refine am_cV (b := A (100 + (4 * i + k))) d_Nd_sendOutAt_32 v_Nd_101 (vs := [.ref fa]) (st := []) rfl rfl (by decide) (Nat.le_of_ble_eq_true rfl) (cl_port hS1 (by omega)) (pt_out hn he hS1 (q := 4 * i + k) (by omega) JP JH JW hfa) ?_
        rintro v S2 ⟨rfl, s2, e2, ⟨c1, c2⟩, hS2, hf2⟩
        first | refine am_iincN (b := 1) (L1 := [_, _, _, _, _]) d_Nd_sendOutAt_35 rfl (by decide) (by decide) rfl ?_ | refine am_iinc (L1 := [_, _, _, _, _]) d_Nd_sendOutAt_35 rfl rfl (by decide) rfl ?_
        refine am_goto (tgt := 8) d_Nd_sendOutAt_38 (by decide) ?_
        first | (have hok := fc_out_ok hn JP JH JW (q := 4 * i + k) (by omega) hfr
                 rw [← e2] at hok
                 exact ih (k + 1) s2 S2 fa (by omega) (by rw [es, if_pos (by assumption), e2, e1]) (by omega) (by omega) hS2 (hf1.trans hf2) (hfa.fr hf2 (fun z => by unfold cl_X at z; omega)) hok.1 hok.2.1 hok.2.2) | exact ih (k + 1) s1 S1 fa (by omega) (by rw [es, if_neg (by assumption), e1]) (by omega) (by omega) hS1 hf1 hfa JP JH JW
  refine am_Mof (L0 := [some (.ref (A (50 + i))), some (.int bits), some (.ref b), none, none]) pl_Nd_sendOutAt (am_k1 rfl (am_k1 rfl (am_k1 rfl am_k0))) (Nat.le_of_ble_eq_true rfl) rfl ?_
  refine am_aload_n d_Nd_sendOutAt_0 rfl (by first | exact am_rvR _ | exact am_rvN | assumption) ?_
  refine am_cS d_Nd_sendOutAt_1 s_Nd_97 (vs := [.ref b]) (st := []) rfl rfl (by decide) (Nat.le_of_ble_eq_true rfl) (mk_frDg b) ?_
  rintro v S3 ⟨rfl, rfl⟩
  obtain ⟨hS3, hf3, hfa⟩ := cl_newF hS hb hf
  refine am_astore_n (L1 := [_, _, _, _, _]) d_Nd_sendOutAt_4 (by decide) (by first | exact am_rvR _ | exact am_rvN | assumption) rfl ?_
  refine am_iconst (v := nI 0) d_Nd_sendOutAt_5 (by decide) ?_
  refine am_istore (L1 := [_, _, _, _, _]) d_Nd_sendOutAt_6 (by decide) rfl ?_
  exact key 4 0 (cl_bg s 1 2) _ _ rfl rfl (by show s.2.2.1 + 1 ≤ _; omega) (by show s.2.2.2 + 2 ≤ _; omega) hS3 hf3 hfa IP IH IW
theorem nd_probes (hn : ns ≤ 5) (hS : cl_P e nw ns room idle A s S) {i : Nat} (hi : i < ns) (he : am_gE g e) (IP : fc_iP ns s.1) (IH : fc_iH ns s.1) (IW : fc_iW ns s.1) : am_M g y_Nd_sendProbes "()V" 8 173 [.ref (A (50 + i))] S (fun v S' => v = none ∧ cl_Q e nw ns room idle A s S (fc_prbs s.1 i 4) 8 400 S') := by
  have key : ∀ (m k : Nat) (s1 : cl_S) (S1 : am_S), k + m = 4 → s1.1 = fc_prbs s.1 i k → s1.2.2.1 ≤ s.2.2.1 + 2 * k → s1.2.2.2 ≤ s.2.2.2 + 92 * k → cl_P e nw ns room idle A s1 S1 → am_fr cl_X S S1 → fc_iP ns s1.1 → fc_iH ns s1.1 → fc_iW ns s1.1 → am_W g y_Nd_sendProbes 8 173 (fun v S' => v = none ∧ cl_Q e nw ns room idle A s S (fc_prbs s.1 i 4) 8 400 S') 2 [some (.ref (A (50 + i))), some (.int (nI k))] [] S1 := by
    intro m
    induction m with
    | zero =>
      intro k s1 S1 hk e1 b1 b2 hS1 hf1 JP JH JW
      refine am_iload_n d_Nd_sendProbes_2 rfl ?_
      refine am_iconst (v := nI 4) d_Nd_sendProbes_3 (by decide) ?_
      refine am_icmp_geN (tgt := 46) d_Nd_sendProbes_4 (by decide) (by omega) (by omega) (fun _ => ?_) (fun q => absurd q (by omega))
      refine am_vret d_Nd_sendProbes_46 rfl ?_
      have ek : k = 4 := by omega
      subst ek
      exact ⟨rfl, s1, e1, ⟨by omega, by omega⟩, hS1, hf1⟩
    | succ m ih =>
      intro k s1 S1 hk e1 b1 b2 hS1 hf1 JP JH JW
      have es : fc_prbs s.1 i (k + 1) = if fc_get (fc_prbs s.1 i k) (100 + (4 * i + k)) 0 1 != -1 then fc_out (fc_prbs s.1 i k) (4 * i + k) [-1, nI (4 * i + k), 0] else fc_prbs s.1 i k := rfl
      rw [← e1] at es
      have hpt := cl_port hS1 (q := 4 * i + k) (by omega)
      refine am_iload_n d_Nd_sendProbes_2 rfl ?_
      refine am_iconst (v := nI 4) d_Nd_sendProbes_3 (by decide) ?_
      refine am_icmp_geN (tgt := 46) d_Nd_sendProbes_4 (by decide) (by omega) (by omega) (fun q => absurd q (by omega)) (fun _ => ?_)
      refine am_aload_n d_Nd_sendProbes_7 rfl (by first | exact am_rvR _ | exact am_rvN | assumption) ?_
      refine am_get d_Nd_sendProbes_8 f_Nd_20 (cl_node hS1 hi) (by rfl) ?_
      refine am_iload_n d_Nd_sendProbes_11 rfl ?_
      refine am_aald d_Nd_sendProbes_12 am_kP_ok rfl (cl_ports hS1 hi) rfl (cl_ports_at (by omega)) (by show 4 < 2 ^ 31; decide) ?_
      refine am_get d_Nd_sendProbes_13 f_Nd_184 hpt (by rfl) ?_
      refine am_iconst (v := (-1)) d_Nd_sendProbes_16 (by decide) ?_
      first | refine am_icmp_eqN (tgt := 40) d_Nd_sendProbes_17 (by decide) (by omega) (by omega) (fun q1 => ?_) (fun q1 => ?_) | refine am_icmp_eq (tgt := 40) d_Nd_sendProbes_17 (by decide) (fun q1 => ?_) (fun q1 => ?_)
      · first | refine am_iincN (b := 1) (L1 := [_, _]) d_Nd_sendProbes_40 rfl (by decide) (by decide) rfl ?_ | refine am_iinc (L1 := [_, _]) d_Nd_sendProbes_40 rfl rfl (by decide) rfl ?_
        refine am_goto (tgt := 2) d_Nd_sendProbes_43 (by decide) ?_
        first | (have hok := fc_out_ok hn JP JH JW (q := 4 * i + k) (by omega) (row := [-1, nI (4 * i + k), 0]) (Or.inr ⟨4 * i + k, by omega, rfl⟩)
                 have e4' : s4.1 = fc_out s1.1 (4 * i + k) [-1, nI (4 * i + k), 0] := e4
                 rw [← e4'] at hok
                 have c1' : s4.2.2.1 ≤ s1.2.2.1 + 1 + 1 := c1
                 have c2' : s4.2.2.2 ≤ s1.2.2.2 + 2 + 90 := c2
                 exact ih (k + 1) s4 _ (by omega) (by rw [es, if_pos (by simpa using q1), e4']) (by omega) (by omega) hS4 ((hf1.trans hf3).trans hf4) hok.1 hok.2.1 hok.2.2) | exact ih (k + 1) s1 _ (by omega) (by rw [es, if_neg (by simpa using q1)]) (by omega) (by omega) hS1 hf1 JP JH JW
      · refine am_aload_n d_Nd_sendProbes_20 rfl (by first | exact am_rvR _ | exact am_rvN | assumption) ?_
        refine am_get d_Nd_sendProbes_21 f_Nd_20 (cl_node hS1 hi) (by rfl) ?_
        refine am_iload_n d_Nd_sendProbes_24 rfl ?_
        refine am_aald d_Nd_sendProbes_25 am_kP_ok rfl (cl_ports hS1 hi) rfl (cl_ports_at (by omega)) (by show 4 < 2 ^ 31; decide) ?_
        refine am_aload_n d_Nd_sendProbes_26 rfl (by first | exact am_rvR _ | exact am_rvN | assumption) ?_
        refine am_get d_Nd_sendProbes_27 f_Nd_9 (cl_node hS1 hi) (by rfl) ?_
        refine am_iload_n d_Nd_sendProbes_30 rfl ?_
        refine am_cS d_Nd_sendProbes_31 s_Nd_187 (vs := [.int (nI i), .int (nI k)]) (st := [.ref (A (100 + (4 * i + k)))]) rfl rfl (by decide) (Nat.le_of_ble_eq_true rfl) (ff_endOf) ?_
        rintro v S2 ⟨rfl, rfl⟩
        rw [show i * 4 + k = 4 * i + k by omega]
        refine am_cS d_Nd_sendProbes_34 s_Nd_190 (vs := [.int (nI (4 * i + k))]) (st := [.ref (A (100 + (4 * i + k)))]) rfl rfl (by decide) (Nat.le_of_ble_eq_true rfl) (mk_frProbe _) ?_
        rintro v S3 ⟨rfl, rfl⟩
        obtain ⟨hS3, hf3, hfa⟩ := cl_newR hS1 (nI (4 * i + k))
        refine am_cV (b := A (100 + (4 * i + k))) d_Nd_sendProbes_37 v_Nd_101 (vs := [.ref _]) (st := []) rfl rfl (by decide) (Nat.le_of_ble_eq_true rfl) (cl_port hS3 (by omega)) (pt_out hn he hS3 (q := 4 * i + k) (by omega) JP JH JW hfa) ?_
        rintro v S4 ⟨rfl, s4, e4, ⟨c1, c2⟩, hS4, hf4⟩
        first | refine am_iincN (b := 1) (L1 := [_, _]) d_Nd_sendProbes_40 rfl (by decide) (by decide) rfl ?_ | refine am_iinc (L1 := [_, _]) d_Nd_sendProbes_40 rfl rfl (by decide) rfl ?_
        refine am_goto (tgt := 2) d_Nd_sendProbes_43 (by decide) ?_
        first | (have hok := fc_out_ok hn JP JH JW (q := 4 * i + k) (by omega) (row := [-1, nI (4 * i + k), 0]) (Or.inr ⟨4 * i + k, by omega, rfl⟩)
                 have e4' : s4.1 = fc_out s1.1 (4 * i + k) [-1, nI (4 * i + k), 0] := e4
                 rw [← e4'] at hok
                 have c1' : s4.2.2.1 ≤ s1.2.2.1 + 1 + 1 := c1
                 have c2' : s4.2.2.2 ≤ s1.2.2.2 + 2 + 90 := c2
                 exact ih (k + 1) s4 _ (by omega) (by rw [es, if_pos (by simpa using q1), e4']) (by omega) (by omega) hS4 ((hf1.trans hf3).trans hf4) hok.1 hok.2.1 hok.2.2) | exact ih (k + 1) s1 _ (by omega) (by rw [es, if_neg (by simpa using q1)]) (by omega) (by omega) hS1 hf1 JP JH JW
  refine am_Mof (L0 := [some (.ref (A (50 + i))), none]) pl_Nd_sendProbes (am_k1 rfl am_k0) (Nat.le_of_ble_eq_true rfl) rfl ?_
  refine am_iconst (v := nI 0) d_Nd_sendProbes_0 (by decide) ?_
  refine am_istore_n (L1 := [_, _]) d_Nd_sendProbes_1 (by decide) rfl ?_
  exact key 4 0 s S rfl rfl (by omega) (by omega) hS (am_fr.refl _ _) IP IH IW
end CNI
