/-! the class: a datagram or a frame comes in -/
section CNG
variable {g : am_G} {e nw ns room idle : Nat} {A : Nat → Nat} {s : cl_S} {S : am_S}
theorem fc_iG.same {s s' : fc_S} (h : fc_iG ns s) (q : ∀ i, i < ns → s' (10 + i) = s (10 + i)) : fc_iG ns s' := fun i hi => by rw [q i hi]; exact h i hi
theorem fc_iR.same {s s' : fc_S} (h : fc_iR ns room s) (q : ∀ i, i < ns → s' (20 + i) = s (20 + i)) : fc_iR ns room s' := fun i hi => by rw [q i hi]; exact h i hi
theorem fc_iL.same {s s' : fc_S} (h : fc_iL ns s) (q : ∀ i, i < ns → s' (30 + i) = s (30 + i) ∧ s' (40 + i) = s (40 + i)) : fc_iL ns s' := fun i hi => by rw [(q i hi).1, (q i hi).2]; exact h i hi
theorem fc_iO.same {s s' : fc_S} (h : fc_iO ns s) (q : ∀ c, 2 ≤ c → c ≤ 5 → s' c = s c) : fc_iO ns s' := by
  unfold fc_iO
  rw [q 2 (by omega) (by omega), q 3 (by omega) (by omega), q 4 (by omega) (by omega), q 5 (by omega) (by omega)]
  exact h
theorem fc_iK.same {s s' : fc_S} (h : fc_iK ns s) (q : s' 7 = s 7) : fc_iK ns s' := by
  unfold fc_iK
  rw [q]
  exact h
/-- a guard's hits change -/
theorem fc_iD.hits {s : fc_S} (I : fc_iD ns room s) {i k p m v : Nat} {h : Int32} (hi : i < ns) (hr : (s (10 + i))[k]? = some [nI p, nI m, nI v, h]) (h' : Int32) : fc_iD ns room (fc_up s (10 + i) ((s (10 + i)).set k [nI p, nI m, nI v, h'])) := by
  obtain ⟨I0, IH, IP, IW, IG, IR, IL, Io, IK⟩ := I
  have hs : fc_eqP s (fc_up s (10 + i) ((s (10 + i)).set k [nI p, nI m, nI v, h'])) := fun c hc => fc_up_ne _ (by omega)
  refine ⟨I0, IH.same hs, IP.same hs, IW.same hs, fun j hj => ?_, IR.same (fun j hj => fc_up_ne _ (by omega)), IL.same (fun j hj => ⟨fc_up_ne _ (by omega), fc_up_ne _ (by omega)⟩), Io.same (fun c h1 h2 => fc_up_ne _ (by omega)), IK.same (fc_up_ne _ (by omega))⟩
  by_cases e : j = i
  · subst e
    rw [fc_up_same]
    refine ⟨by rw [List.length_set]; exact (IG j hj).1, fun row hrow => ?_⟩
    rcases List.mem_or_eq_of_mem_set hrow with h1 | h1
    · exact (IG j hj).2 row h1
    · obtain ⟨p', m', v', h0, g1, g2, g3, g4⟩ := (IG j hj).2 _ (List.mem_of_getElem? hr)
      have e1 : nI p = nI p' := (List.cons.inj g4).1
      have e2 : nI m = nI m' := (List.cons.inj (List.cons.inj g4).2).1
      have e3 : nI v = nI v' := (List.cons.inj (List.cons.inj (List.cons.inj g4).2).2).1
      exact ⟨p', m', v', h', g1, g2, g3, by rw [h1, e1, e2, e3]⟩
  · rw [fc_up_ne _ (by omega)]
    exact IG j hj
/-- a new message, a new frame -/
theorem cl_newM (hS : cl_P e nw ns room idle A s S) {c : Nat} (hc : 30 ≤ c) (hc2 : c < 100) (x0 x1 x2 x3 x4 : Int32) : cl_P e nw ns room idle A (cl_bg s 1 5) (am_mk S 0 5 (.inr (am_cMs, [.int x0, .int x1, .int x2, .int x3, .int x4]))) ∧ am_fr cl_X S (am_mk S 0 5 (.inr (am_cMs, [.int x0, .int x1, .int x2, .int x3, .int x4]))) ∧ cl_el c S.2.1 [x0, x1, x2, x3, x4] (am_mk S 0 5 (.inr (am_cMs, [.int x0, .int x1, .int x2, .int x3, .int x4]))) :=
  ⟨hS.mk.1, hS.mk.2, cl_ms hc hc2 (am_mk_at S 0 5 (.inr (am_cMs, [.int x0, .int x1, .int x2, .int x3, .int x4]))) rfl⟩
theorem cl_newF (hS : cl_P e nw ns room idle A s S) {b : Nat} {f t n : Int32} (hb : S.1 b = some (0, .inr (am_cDg, [.int f, .int t, .int n]))) (hf : f ≠ -1) : cl_P e nw ns room idle A (cl_bg s 1 2) (am_mk S 0 2 (.inr (am_cFr, [.ref b, .int (-1)]))) ∧ am_fr cl_X S (am_mk S 0 2 (.inr (am_cFr, [.ref b, .int (-1)]))) ∧ cl_fr S.2.1 [f, t, n] (am_mk S 0 2 (.inr (am_cFr, [.ref b, .int (-1)]))) :=
  ⟨hS.mk.1, hS.mk.2, rfl, Or.inr ⟨hf, b, am_mk_at S 0 2 (.inr (am_cFr, [.ref b, .int (-1)])), cl_X0 hS.mk.2 hb⟩⟩
theorem cl_newR (hS : cl_P e nw ns room idle A s S) (x : Int32) : cl_P e nw ns room idle A (cl_bg s 1 2) (am_mk S 0 2 (.inr (am_cFr, [.null, .int x]))) ∧ am_fr cl_X S (am_mk S 0 2 (.inr (am_cFr, [.null, .int x]))) ∧ cl_fr S.2.1 [-1, x, 0] (am_mk S 0 2 (.inr (am_cFr, [.null, .int x]))) :=
  ⟨hS.mk.1, hS.mk.2, rfl, Or.inl ⟨rfl, am_mk_at S 0 2 (.inr (am_cFr, [.null, .int x]))⟩⟩
theorem nd_in (hn : ns ≤ 5) (hS : cl_P e nw ns room idle A s S) {i : Nat} (hi : i < ns) (he : am_gE g e) (I : fc_iD ns room s.1) {b : Nat} {f t n : Int32} (hb : S.1 b = some (0, .inr (am_cDg, [.int f, .int t, .int n]))) (hf : f ≠ -1) (p : Int32) : am_M g y_Nd_comeIn "(LFlowFabric$Datagram;II)V" 9 198 [.ref (A (50 + i)), .ref b, .int p, .int (fc_now s.1)] S (fun v S' => v = none ∧ cl_Q e nw ns room idle A s S (fc_in s.1 i p f t n) 3 200 S') := by
  have I' := I
  obtain ⟨⟨-, -, -, hroom⟩, IH, IP, IW, IG, IR, -⟩ := I'
  refine am_Mof (L0 := [some (.ref (A (50 + i))), some (.ref b), some (.int p), some (.int (fc_now s.1)), none, none]) pl_Nd_comeIn (am_k1 rfl (am_k1 rfl (am_k1 rfl (am_k1 rfl am_k0)))) (Nat.le_of_ble_eq_true rfl) rfl ?_
  refine am_iconst (v := nI 5) d_Nd_comeIn_0 (by decide) ?_
  refine am_istore (L1 := [_, _, _, _, _, _]) d_Nd_comeIn_1 (by decide) rfl ?_
  refine am_aload_n d_Nd_comeIn_3 rfl (by first | exact am_rvR _ | exact am_rvN | assumption) ?_
  refine am_aload_n d_Nd_comeIn_4 rfl (by first | exact am_rvR _ | exact am_rvN | assumption) ?_
  refine am_iload_n d_Nd_comeIn_5 rfl ?_
  refine am_cV (b := A (50 + i)) d_Nd_comeIn_6 v_Nd_85 (vs := [.ref b, .int p]) (st := []) rfl rfl (by decide) (Nat.le_of_ble_eq_true rfl) (cl_node hS hi) (nd_best hn hS hi IG hb p) ?_
  rintro v S1 ⟨rfl, rfl⟩
  cases hx : fc_bst (s.1 (10 + i)) p f t (s.1 (10 + i)).length with
  | none =>
    have ei : fc_in s.1 i p f t n = fc_rules s.1 i p f t n := by unfold fc_in fc_len; rw [hx]
    refine am_astore (L1 := [_, _, _, _, _, _]) d_Nd_comeIn_9 (by decide) am_rvN rfl ?_
    refine am_aload d_Nd_comeIn_11 rfl (by first | exact am_rvR _ | exact am_rvN | assumption) ?_
    refine am_ifnullN (tgt := 34) d_Nd_comeIn_13 (by decide) ?_
    refine am_iload d_Nd_comeIn_34 rfl ?_
    refine am_if_ltN (tgt := 62) d_Nd_comeIn_36 (by decide) (by omega) (fun q => absurd q (by omega)) (fun _ => ?_)
    refine am_iload d_Nd_comeIn_39 rfl ?_
    refine am_iconst (v := nI 4) d_Nd_comeIn_41 (by decide) ?_
    refine am_icmp_geN (tgt := 62) d_Nd_comeIn_42 (by decide) (by omega) (by omega) (fun _ => ?_) (fun q => absurd q (by omega))
    refine am_iload d_Nd_comeIn_62 rfl ?_
    refine am_iconst (v := nI 5) d_Nd_comeIn_64 (by decide) ?_
    refine am_icmp_neN (tgt := 78) d_Nd_comeIn_65 (by decide) (by omega) (by omega) (fun q => absurd q (by omega)) (fun _ => ?_)
    refine am_aload_n d_Nd_comeIn_68 rfl (by first | exact am_rvR _ | exact am_rvN | assumption) ?_
    refine am_aload_n d_Nd_comeIn_69 rfl (by first | exact am_rvR _ | exact am_rvN | assumption) ?_
    refine am_iload_n d_Nd_comeIn_70 rfl ?_
    refine am_iload_n d_Nd_comeIn_71 rfl ?_
    refine am_cV (b := A (50 + i)) d_Nd_comeIn_72 v_Nd_105 (vs := [.ref b, .int p, .int (fc_now s.1)]) (st := []) rfl rfl (by decide) (Nat.le_of_ble_eq_true rfl) (cl_node hS hi) (nd_rules hn hS hi he I hb hf p) ?_
    rintro v S2 ⟨rfl, hq3⟩
    refine am_goto (tgt := 95) d_Nd_comeIn_75 (by decide) ?_
    refine am_vret d_Nd_comeIn_95 rfl ?_
    exact ⟨rfl, by rw [ei]; exact hq3⟩
  | some k =>
    have hk := fc_bst_lt hx
    obtain ⟨a, pk, mk, vk, h0, ha, hr, ho, hp9, hm, hv6⟩ := cl_gd hn hS hi IG hk
    have hgv : cl_gv s i (some k) = Value.ref a := by
      show Value.ref ((s.2.1 (10 + i)).getD k 0) = _
      rw [List.getD_eq_getElem?_getD, ha]
      rfl
    rw [hgv]
    obtain ⟨hS2, hf2⟩ := cl_setel hn hS (c := 10 + i) (row' := [nI pk, nI mk, nI vk, h0 + 1]) (by unfold cl_dir; omega) ha hr rfl
    rw [show cl_cls (10 + i) = am_cGd from by unfold cl_cls; rw [if_neg (by omega), if_pos (by omega)]] at hS2 hf2
    have I2 := I.hits hi hr (h0 + 1)
    have hnow : fc_now (fc_up s.1 (10 + i) ((s.1 (10 + i)).set k [nI pk, nI mk, nI vk, h0 + 1])) = fc_now s.1 := by unfold fc_now fc_get; rw [fc_up_ne _ (by omega)]
    have hsame : fc_eqP s.1 (fc_up s.1 (10 + i) ((s.1 (10 + i)).set k [nI pk, nI mk, nI vk, h0 + 1])) := fun c hc => fc_up_ne _ (by omega)
    have hb2 := cl_X0 hf2 hb
    have eput : fc_put s.1 (10 + i) k 3 (fc_get s.1 (10 + i) k 3 + 1) = fc_up s.1 (10 + i) ((s.1 (10 + i)).set k [nI pk, nI mk, nI vk, h0 + 1]) := by rw [fc_put1 hr, fc_get_row hr]; rfl
    have ev : fc_get s.1 (10 + i) k 2 = nI vk := fc_get_row hr 2
    have ei : fc_in s.1 i p f t n = if nI vk < 4 then fc_out (fc_up s.1 (10 + i) ((s.1 (10 + i)).set k [nI pk, nI mk, nI vk, h0 + 1])) (4 * i + vk) [f, t, n] else if nI vk = 5 then fc_rules (fc_up s.1 (10 + i) ((s.1 (10 + i)).set k [nI pk, nI mk, nI vk, h0 + 1])) i p f t n else if nI vk = 6 then fc_slight (fc_up s.1 (10 + i) ((s.1 (10 + i)).set k [nI pk, nI mk, nI vk, h0 + 1])) i [0, p, f, t, n] else fc_up s.1 (10 + i) ((s.1 (10 + i)).set k [nI pk, nI mk, nI vk, h0 + 1]) := by
      unfold fc_in fc_len
      rw [hx]
      simp only [eput, ev, nI_clamp (show vk < 2 ^ 31 by omega)]
    have n4 : nI vk < 4 ↔ vk < 4 := nI_ltI (b := 4) (by omega) (by omega)
    have n5 : nI vk = 5 ↔ vk = 5 := nI_eq (b := 5) (by omega) (by omega)
    have n6 : nI vk = 6 ↔ vk = 6 := nI_eq (b := 6) (by omega) (by omega)
    refine am_astore (L1 := [_, _, _, _, _, _]) d_Nd_comeIn_9 (by decide) (by first | exact am_rvR _ | exact am_rvN | assumption) rfl ?_
    refine am_aload d_Nd_comeIn_11 rfl (by first | exact am_rvR _ | exact am_rvN | assumption) ?_
    refine am_ifnull d_Nd_comeIn_13 ?_
    refine am_aload d_Nd_comeIn_16 rfl (by first | exact am_rvR _ | exact am_rvN | assumption) ?_
    refine am_dup d_Nd_comeIn_18 rfl ?_
    refine am_get d_Nd_comeIn_19 f_Nd_89 (by first | assumption | exact am_up_at _ _ _ _) (by rfl) ?_
    refine am_iconst (v := 1) d_Nd_comeIn_22 (by decide) ?_
    refine am_iadd d_Nd_comeIn_23 ?_
    refine am_put _ d_Nd_comeIn_24 f_Nd_89 (p_Nd_89 _) ho (by omega) rfl rfl ?_
    refine am_aload d_Nd_comeIn_27 rfl (by first | exact am_rvR _ | exact am_rvN | assumption) ?_
    refine am_get d_Nd_comeIn_29 f_Nd_94 (am_up_at _ _ _ _) (by rfl) ?_
    refine am_istore (L1 := [_, _, _, _, _, _]) d_Nd_comeIn_32 (by decide) rfl ?_
    refine am_iload d_Nd_comeIn_34 rfl ?_
    refine am_if_ltN (tgt := 62) d_Nd_comeIn_36 (by decide) (by omega) (fun q => absurd q (by omega)) (fun _ => ?_)
    refine am_iload d_Nd_comeIn_39 rfl ?_
    refine am_iconst (v := nI 4) d_Nd_comeIn_41 (by decide) ?_
    first | refine am_icmp_geN (tgt := 62) d_Nd_comeIn_42 (by decide) (by omega) (by omega) (fun q1 => ?_) (fun q1 => ?_) | refine am_icmp_ge (tgt := 62) d_Nd_comeIn_42 (by decide) (fun q1 => ?_) (fun q1 => ?_)
    · refine am_iload d_Nd_comeIn_62 rfl ?_
      refine am_iconst (v := nI 5) d_Nd_comeIn_64 (by decide) ?_
      first | refine am_icmp_neN (tgt := 78) d_Nd_comeIn_65 (by decide) (by omega) (by omega) (fun q2 => ?_) (fun q2 => ?_) | refine am_icmp_ne (tgt := 78) d_Nd_comeIn_65 (by decide) (fun q2 => ?_) (fun q2 => ?_)
      · refine am_iload d_Nd_comeIn_78 rfl ?_
        refine am_bipush (v := nI 6) d_Nd_comeIn_80 (by decide) ?_
        first | refine am_icmp_neN (tgt := 95) d_Nd_comeIn_82 (by decide) (by omega) (by omega) (fun q3 => ?_) (fun q3 => ?_) | refine am_icmp_ne (tgt := 95) d_Nd_comeIn_82 (by decide) (fun q3 => ?_) (fun q3 => ?_)
        · refine am_vret d_Nd_comeIn_95 rfl ?_
          first | (refine ⟨rfl, ?_⟩; rw [ei, if_pos (n4.mpr (by omega))]; exact hq3.from (hf2.trans hf3) (by show s.2.2.1 + 1 + 1 ≤ _; omega) (by show s.2.2.2 + 2 + 90 ≤ _; omega)) | (refine ⟨rfl, ?_⟩; rw [ei, if_neg (fun z => by have := n4.mp z; omega), if_pos (n5.mpr (by omega))]; exact hq3.from hf2 (by show s.2.2.1 + 3 ≤ _; omega) (by show s.2.2.2 + 200 ≤ _; omega)) | (refine ⟨rfl, ?_⟩; rw [ei, if_neg (fun z => by have := n4.mp z; omega), if_neg (fun z => by have := n5.mp z; omega), if_pos (n6.mpr (by omega))]; exact hq3.from (hf2.trans hf3) (by show s.2.2.1 + 1 + 1 ≤ _; omega) (by show s.2.2.2 + 5 + 90 ≤ _; omega)) | (refine ⟨rfl, ?_⟩; rw [ei, if_neg (fun z => by have := n4.mp z; omega), if_neg (fun z => by have := n5.mp z; omega), if_neg (fun z => by have := n6.mp z; omega)]; exact ⟨_, rfl, ⟨by show s.2.2.1 ≤ _; omega, by show s.2.2.2 ≤ _; omega⟩, hS2, hf2⟩)
        · refine am_aload_n d_Nd_comeIn_85 rfl (by first | exact am_rvR _ | exact am_rvN | assumption) ?_
          refine am_iconst (v := 0) d_Nd_comeIn_86 (by decide) ?_
          refine am_iload_n d_Nd_comeIn_87 rfl ?_
          refine am_aload_n d_Nd_comeIn_88 rfl (by first | exact am_rvR _ | exact am_rvN | assumption) ?_
          refine am_cS d_Nd_comeIn_89 s_Nd_108 (vs := [.int 0, .int p, .ref b]) (st := [.ref (A (50 + i))]) rfl rfl (by decide) (Nat.le_of_ble_eq_true rfl) (mk_ofDatagram 0 p hS2.1.1 hb2) ?_
          rintro v S3 ⟨rfl, rfl⟩
          obtain ⟨hS3, hf3, hm⟩ := cl_newM hS2 (c := 40 + i) (by omega) (by omega) 0 p f t n
          refine am_cV (b := A (50 + i)) d_Nd_comeIn_92 v_Nd_81 (vs := [.ref _]) (st := []) rfl rfl (by decide) (Nat.le_of_ble_eq_true rfl) (cl_node hS3 hi) (nd_slight hn hS3 hi he hm) ?_
          rintro v S4 ⟨rfl, hq3⟩
          refine am_vret d_Nd_comeIn_95 rfl ?_
          first | (refine ⟨rfl, ?_⟩; rw [ei, if_pos (n4.mpr (by omega))]; exact hq3.from (hf2.trans hf3) (by show s.2.2.1 + 1 + 1 ≤ _; omega) (by show s.2.2.2 + 2 + 90 ≤ _; omega)) | (refine ⟨rfl, ?_⟩; rw [ei, if_neg (fun z => by have := n4.mp z; omega), if_pos (n5.mpr (by omega))]; exact hq3.from hf2 (by show s.2.2.1 + 3 ≤ _; omega) (by show s.2.2.2 + 200 ≤ _; omega)) | (refine ⟨rfl, ?_⟩; rw [ei, if_neg (fun z => by have := n4.mp z; omega), if_neg (fun z => by have := n5.mp z; omega), if_pos (n6.mpr (by omega))]; exact hq3.from (hf2.trans hf3) (by show s.2.2.1 + 1 + 1 ≤ _; omega) (by show s.2.2.2 + 5 + 90 ≤ _; omega)) | (refine ⟨rfl, ?_⟩; rw [ei, if_neg (fun z => by have := n4.mp z; omega), if_neg (fun z => by have := n5.mp z; omega), if_neg (fun z => by have := n6.mp z; omega)]; exact ⟨_, rfl, ⟨by show s.2.2.1 ≤ _; omega, by show s.2.2.2 ≤ _; omega⟩, hS2, hf2⟩)
      · refine am_aload_n d_Nd_comeIn_68 rfl (by first | exact am_rvR _ | exact am_rvN | assumption) ?_
        refine am_aload_n d_Nd_comeIn_69 rfl (by first | exact am_rvR _ | exact am_rvN | assumption) ?_
        refine am_iload_n d_Nd_comeIn_70 rfl ?_
        refine am_iload_n d_Nd_comeIn_71 rfl ?_
        rw [← hnow]
        refine am_cV (b := A (50 + i)) d_Nd_comeIn_72 v_Nd_105 (vs := [.ref b, .int p, .int (fc_now (fc_up s.1 (10 + i) ((s.1 (10 + i)).set k [nI pk, nI mk, nI vk, h0 + 1])))]) (st := []) rfl rfl (by decide) (Nat.le_of_ble_eq_true rfl) (cl_node hS2 hi) (nd_rules hn hS2 hi he I2 hb2 hf p) ?_
        rintro v S3 ⟨rfl, hq3⟩
        refine am_goto (tgt := 95) d_Nd_comeIn_75 (by decide) ?_
        refine am_vret d_Nd_comeIn_95 rfl ?_
        first | (refine ⟨rfl, ?_⟩; rw [ei, if_pos (n4.mpr (by omega))]; exact hq3.from (hf2.trans hf3) (by show s.2.2.1 + 1 + 1 ≤ _; omega) (by show s.2.2.2 + 2 + 90 ≤ _; omega)) | (refine ⟨rfl, ?_⟩; rw [ei, if_neg (fun z => by have := n4.mp z; omega), if_pos (n5.mpr (by omega))]; exact hq3.from hf2 (by show s.2.2.1 + 3 ≤ _; omega) (by show s.2.2.2 + 200 ≤ _; omega)) | (refine ⟨rfl, ?_⟩; rw [ei, if_neg (fun z => by have := n4.mp z; omega), if_neg (fun z => by have := n5.mp z; omega), if_pos (n6.mpr (by omega))]; exact hq3.from (hf2.trans hf3) (by show s.2.2.1 + 1 + 1 ≤ _; omega) (by show s.2.2.2 + 5 + 90 ≤ _; omega)) | (refine ⟨rfl, ?_⟩; rw [ei, if_neg (fun z => by have := n4.mp z; omega), if_neg (fun z => by have := n5.mp z; omega), if_neg (fun z => by have := n6.mp z; omega)]; exact ⟨_, rfl, ⟨by show s.2.2.1 ≤ _; omega, by show s.2.2.2 ≤ _; omega⟩, hS2, hf2⟩)
    · obtain ⟨hS3, hf3, hfr⟩ := cl_newF hS2 hb2 hf
      refine am_aload_n d_Nd_comeIn_45 rfl (by first | exact am_rvR _ | exact am_rvN | assumption) ?_
      refine am_get d_Nd_comeIn_46 f_Nd_20 (cl_node hS2 hi) (by rfl) ?_
      refine am_iload d_Nd_comeIn_49 rfl ?_
      refine am_aald d_Nd_comeIn_51 am_kP_ok rfl (cl_ports hS2 hi) rfl (cl_ports_at (by omega)) (by show 4 < 2 ^ 31; decide) ?_
      refine am_aload_n d_Nd_comeIn_52 rfl (by first | exact am_rvR _ | exact am_rvN | assumption) ?_
      refine am_cS d_Nd_comeIn_53 s_Nd_97 (vs := [.ref b]) (st := [.ref (A (100 + (4 * i + vk)))]) rfl rfl (by decide) (Nat.le_of_ble_eq_true rfl) (mk_frDg b) ?_
      rintro v S3 ⟨rfl, rfl⟩
      refine am_cV (b := A (100 + (4 * i + vk))) d_Nd_comeIn_56 v_Nd_101 (vs := [.ref _]) (st := []) rfl rfl (by decide) (Nat.le_of_ble_eq_true rfl) (cl_port hS3 (by omega)) (pt_out hn he hS3 (q := 4 * i + vk) (by omega) (IP.same hsame) (IH.same hsame) (IW.same hsame) hfr) ?_
      rintro v S4 ⟨rfl, hq3⟩
      refine am_goto (tgt := 95) d_Nd_comeIn_59 (by decide) ?_
      refine am_vret d_Nd_comeIn_95 rfl ?_
      first | (refine ⟨rfl, ?_⟩; rw [ei, if_pos (n4.mpr (by omega))]; exact hq3.from (hf2.trans hf3) (by show s.2.2.1 + 1 + 1 ≤ _; omega) (by show s.2.2.2 + 2 + 90 ≤ _; omega)) | (refine ⟨rfl, ?_⟩; rw [ei, if_neg (fun z => by have := n4.mp z; omega), if_pos (n5.mpr (by omega))]; exact hq3.from hf2 (by show s.2.2.1 + 3 ≤ _; omega) (by show s.2.2.2 + 200 ≤ _; omega)) | (refine ⟨rfl, ?_⟩; rw [ei, if_neg (fun z => by have := n4.mp z; omega), if_neg (fun z => by have := n5.mp z; omega), if_pos (n6.mpr (by omega))]; exact hq3.from (hf2.trans hf3) (by show s.2.2.1 + 1 + 1 ≤ _; omega) (by show s.2.2.2 + 5 + 90 ≤ _; omega)) | (refine ⟨rfl, ?_⟩; rw [ei, if_neg (fun z => by have := n4.mp z; omega), if_neg (fun z => by have := n5.mp z; omega), if_neg (fun z => by have := n6.mp z; omega)]; exact ⟨_, rfl, ⟨by show s.2.2.1 ≤ _; omega, by show s.2.2.2 ≤ _; omega⟩, hS2, hf2⟩)
end CNG
