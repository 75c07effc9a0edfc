/-! the class: a course is led, laid; no room; gone -/
section CTD
variable {g : am_G} {e nw ns room idle : Nat} {A : Nat → Nat} {s : cl_S} {S : am_S}
/-- the k-th course, its row known -/
theorem cl_cr2 (hS : cl_P e nw ns room idle A s S) {k : Nat} {f t st wv aw ld kp kn : Int32} {way : List Int32} (hr : (s.1 7)[k]? = some ([f, t, st, wv, aw, ld, kp, kn] ++ way)) : ∃ (a w : Nat) (kv : Value), (s.2.1 7)[k]? = some a ∧ cl_cow a w kv f t st wv aw ld S ∧ S.1 w = some (0, .inl (am_kI, way.map Value.int)) ∧ cl_kv kv f t kp kn S := by
  have hk := (List.getElem?_eq_some_iff.mp hr).1
  obtain ⟨a, row, ha, hr', hel⟩ := cl_at (cl_list hS (c := 7) (Or.inl rfl)).2 hk
  cases hr.symm.trans hr'
  have hel' : cl_co a ([f, t, st, wv, aw, ld, kp, kn] ++ way) S := by
    unfold cl_el at hel
    rw [if_neg (by decide), if_pos rfl] at hel
    exact hel
  obtain ⟨w, kv, g1, g2, g3⟩ := cl_co_iff.mp hel'
  exact ⟨a, w, kv, ha, g1, g2, g3⟩
theorem fc_way_row {s : fc_S} {k : Nat} {f t st wv aw ld kp kn : Int32} {way : List Int32} (hr : (s 7)[k]? = some ([f, t, st, wv, aw, ld, kp, kn] ++ way)) : fc_way s k = way := by
  unfold fc_way
  rw [List.getD_eq_getElem?_getD, hr]
  rfl
theorem fc_lead_eq {s : fc_S} {k l m : Nat} {f t st wv aw kp kn x0 : Int32} {way : List Int32} (hr : (s 7)[k]? = some ([f, t, st, wv, aw, nI (l + 1), kp, kn] ++ way)) (h2 : s 2 = [[x0]]) (hl : l < 1000) (hm : m < 1000) (hx : way[l]? = some (nI m)) : fc_lead s k = fc_add (fc_add (fc_up (fc_put s 2 0 0 (x0 + 1)) 7 ((s 7).set k ([f, t, st, x0 + 1, aw, nI l, kp, kn] ++ way))) (30 + m / 4) [0, nI (m % 4), f, t, 0]) (30 + m / 4) [2, x0 + 1, -1, -1, 0] := by
  have g2 : fc_get s 2 0 0 = x0 := by unfold fc_get; rw [h2]; rfl
  have g5 : fc_get s 7 k 5 = nI (l + 1) := fc_get_row hr 5
  have el : nI (l + 1) - 1 = nI l := nI_pred l
  have e7 : fc_put s 2 0 0 (x0 + 1) 7 = s 7 := fc_put_ne _ _ _ (by omega)
  have hr' : (fc_put s 2 0 0 (x0 + 1) 7)[k]? = some ([f, t, st, wv, aw, nI (l + 1), kp, kn] ++ way) := by rw [e7]; exact hr
  unfold fc_lead
  rw [fc_way_row hr, g2, g5, el, nI_clamp (show l < 2 ^ 31 by omega), List.getD_eq_getElem?_getD, hx]
  simp only [Option.getD_some]
  rw [nI_clamp (show m < 2 ^ 31 by omega), fc_ord_nI _ hm, fc_ord_nI _ hm, fc_put2 hr', fc_get_row hr, fc_get_row hr, e7]
  rfl
theorem fc_iK.set {s : fc_S} (I : fc_iK ns s) {k : Nat} {row' : List Int32} (h : ∃ (f t l : Nat) (st wv aw kp kn : Int32) (way : List Int32), f < 6 ∧ t < 6 ∧ row' = [nI f, nI t, st, wv, aw, nI l, kp, kn] ++ way ∧ (st = 1 ∨ st = 2 ∨ st = 3) ∧ (kp = 0 ∨ kp = 1) ∧ 1 ≤ way.length ∧ way.length ≤ 5 ∧ l < way.length ∧ ∀ e ∈ way, ∃ m, m < 4 * ns ∧ e = nI m) : fc_iK ns (fc_up s 7 ((s 7).set k row')) := by
  unfold fc_iK
  rw [fc_up_same]
  refine ⟨by rw [List.length_set]; exact I.1, fun row hr => ?_⟩
  rcases List.mem_or_eq_of_mem_set hr with h1 | h1
  · exact I.2 row h1
  · rw [h1]; exact h
/-- an element more, a new message: the state behind it by what is known of it -/
theorem cl_addQ {c a : Nat} {row : List Int32} (hn : ns ≤ 5) (he : am_gE g e) (hS : cl_P e nw ns room idle A s S) (hc : cl_isL ns c) (hlen : (s.1 c).length < 60) (hel : cl_el c a row S) (hnew : c < 30 → a ∉ s.2.1 c) : am_M g y_AL_add "(Ljava/lang/Object;)Z" 6 131 [.ref (A c), .ref a] S (fun v S' => v = some (.int 1) ∧ ∃ s' : cl_S, s'.1 = fc_add s.1 c row ∧ (s'.2.1 c = s.2.1 c ++ [a] ∧ s'.2.2.1 = s.2.2.1 + 1 ∧ s'.2.2.2 = s.2.2.2 + 90) ∧ cl_P e nw ns room idle A s' S' ∧ am_fr cl_X S S') :=
  (cl_addM hn he hS hc hlen hel hnew).post (fun v S' h => ⟨h.1, _, rfl, ⟨cl_up_2, rfl, rfl⟩, h.2.1, h.2.2⟩)
theorem cl_newQ (hS : cl_P e nw ns room idle A s S) {c : Nat} (hc : 30 ≤ c) (hc2 : c < 100) (x0 x1 x2 x3 x4 : Int32) : ∃ s' : cl_S, s'.1 = s.1 ∧ (s'.2.1 = s.2.1 ∧ s'.2.2.1 = s.2.2.1 + 1 ∧ s'.2.2.2 = s.2.2.2 + 5) ∧ cl_P e nw ns room idle A s' (am_mk S 0 5 (.inr (am_cMs, [.int x0, .int x1, .int x2, .int x3, .int x4]))) ∧ am_fr cl_X S (am_mk S 0 5 (.inr (am_cMs, [.int x0, .int x1, .int x2, .int x3, .int x4]))) ∧ cl_el c S.2.1 [x0, x1, x2, x3, x4] (am_mk S 0 5 (.inr (am_cMs, [.int x0, .int x1, .int x2, .int x3, .int x4]))) :=
  ⟨cl_bg s 1 5, rfl, ⟨rfl, rfl, rfl⟩, (cl_newM hS hc hc2 x0 x1 x2 x3 x4).1, (cl_newM hS hc hc2 x0 x1 x2 x3 x4).2.1, (cl_newM hS hc hc2 x0 x1 x2 x3 x4).2.2⟩
theorem ct_lead (hn : ns ≤ 5) (he : am_gE g e) (hS : cl_P e nw ns room idle A s S) {x0 : Int32} (h2 : s.1 2 = [[x0]]) {k a l m : Nat} {f t st wv aw kp kn : Int32} {way : List Int32} (hr : (s.1 7)[k]? = some ([f, t, st, wv, aw, nI (l + 1), kp, kn] ++ way)) (ha : (s.2.1 7)[k]? = some a) (hw5 : way.length ≤ 5) (hx : way[l]? = some (nI m)) (hm : m < 4 * ns) (hlen : (s.1 (30 + m / 4)).length + 2 < 60) : am_M g y_Ct_leadAhead "(LFlowFabric$Course;)V" 7 152 [.ref (A 2), .ref a] S (fun v S' => v = none ∧ cl_Q e nw ns room idle A s S (fc_lead s.1 k) 4 190 S') := by
  have hl := (List.getElem?_eq_some_iff.mp hx).1
  have hk := (List.getElem?_eq_some_iff.mp hr).1
  have hgd : way.getD l 0 = nI m := by rw [List.getD_eq_getElem?_getD, hx]; rfl
  have hi : m / 4 < ns := by omega
  have hL : cl_isL ns (30 + m / 4) := by unfold cl_isL; omega
  obtain ⟨a', w, kv, ha', ho, hw, hkv⟩ := cl_cr2 hS hr
  cases ha.symm.trans ha'
  have heq := fc_lead_eq hr h2 (by omega) (by omega) hx
  have hctl : S.1 (A 2) = some (21, .inr (am_cCt, [.ref (A 8), .ref (A 3), .ref (A 4), .ref (A 5), .ref (A 7), .ref (A 6), .int x0])) := by
    have h1 := cl_ctl hS
    rw [show fc_get s.1 2 0 0 = x0 from by unfold fc_get; rw [h2]; rfl] at h1
    exact h1
  have ho0 : S.1 a = some (73, .inr (am_cCo, [.int f, .int t, .int st, .ref w, kv, .int wv, .int aw, .int (nI (l + 1))])) := ho
  obtain ⟨hS1, hf1⟩ := cl_putW hS h2 (x0 + 1)
  have hc1 := am_up_at S (A 2) 21 (.inr (am_cCt, [.ref (A 8), .ref (A 3), .ref (A 4), .ref (A 5), .ref (A 7), .ref (A 6), .int (x0 + 1)]))
  have ho1 := am_up_tag (t' := 21) (x' := .inr (am_cCt, [.ref (A 8), .ref (A 3), .ref (A 4), .ref (A 5), .ref (A 7), .ref (A 6), .int (x0 + 1)])) ho0 hctl (by decide)
  have hw1' := am_up_tag (t' := 21) (x' := .inr (am_cCt, [.ref (A 8), .ref (A 3), .ref (A 4), .ref (A 5), .ref (A 7), .ref (A 6), .int (x0 + 1)])) hw hctl (by decide)
  have e7 : fc_put s.1 2 0 0 (x0 + 1) 7 = s.1 7 := fc_put_ne _ _ _ (by omega)
  obtain ⟨hS4, hf4⟩ := cl_setco hS1 (x' := .inr (am_cCo, [.int f, .int t, .int st, .ref w, kv, .int (x0 + 1), .int aw, .int (nI l)])) (row' := [f, t, st, x0 + 1, aw, nI l, kp, kn] ++ way) ha (by show k < (fc_put s.1 2 0 0 (x0 + 1) 7).length; rw [fc_put_len]; exact hk) ho1 (cl_co_iff.mpr ⟨w, kv, am_up_at _ _ _ _, am_up_tag hw1' ho1 (by decide), (hkv.fr hf1 (fun z => by unfold cl_X at z; omega)).fr (am_fr.up ho1 (show (fun t => t = 73) 73 from rfl)) (by decide)⟩)
  have ho4 := am_up_at (am_up S (A 2) 21 (.inr (am_cCt, [.ref (A 8), .ref (A 3), .ref (A 4), .ref (A 5), .ref (A 7), .ref (A 6), .int (x0 + 1)]))) a 73 (.inr (am_cCo, [.int f, .int t, .int st, .ref w, kv, .int (x0 + 1), .int aw, .int (nI l)]))
  have hc4 := am_up_tag (t' := 73) (x' := .inr (am_cCo, [.int f, .int t, .int st, .ref w, kv, .int (x0 + 1), .int aw, .int (nI l)])) hc1 ho1 (by decide)
  have hw4 := am_up_tag (t' := 73) (x' := .inr (am_cCo, [.int f, .int t, .int st, .ref w, kv, .int (x0 + 1), .int aw, .int (nI l)])) hw1' ho1 (by decide)
  obtain ⟨s4, e4, ⟨b41, b42⟩, hS4⟩ : ∃ s4 : cl_S, s4.1 = fc_up (fc_put s.1 2 0 0 (x0 + 1)) 7 ((s.1 7).set k ([f, t, st, x0 + 1, aw, nI l, kp, kn] ++ way)) ∧ (s4.2.2.1 = s.2.2.1 ∧ s4.2.2.2 = s.2.2.2) ∧ cl_P e nw ns room idle A s4 (am_up (am_up S (A 2) 21 (.inr (am_cCt, [.ref (A 8), .ref (A 3), .ref (A 4), .ref (A 5), .ref (A 7), .ref (A 6), .int (x0 + 1)]))) a 73 (.inr (am_cCo, [.int f, .int t, .int st, .ref w, kv, .int (x0 + 1), .int aw, .int (nI l)]))) := by
    refine ⟨_, ?_, ⟨?_, ?_⟩, hS4⟩
    · show fc_up (fc_put s.1 2 0 0 (x0 + 1)) 7 ((fc_put s.1 2 0 0 (x0 + 1) 7).set k _) = _
      rw [e7]
    · rfl
    · rfl
  have hl4 : ∀ c, c ≠ 7 → c ≠ 2 → s4.1 c = s.1 c := fun c h1 h3 => by rw [e4, fc_up_ne _ h1, fc_put_ne _ _ _ h3]
  have h42 : s4.1 2 = [[x0 + 1]] := by
    rw [e4, fc_up_ne _ (by omega)]
    unfold fc_put
    rw [fc_up_same, h2]
    rfl
  refine am_Mof (L0 := [some (.ref (A 2)), some (.ref a), none, none]) pl_Ct_leadAhead (am_k1 rfl (am_k1 rfl am_k0)) (Nat.le_of_ble_eq_true rfl) rfl ?_
  refine am_aload_n d_Ct_leadAhead_0 rfl (by first | exact am_rvR _ | exact am_rvN | assumption) ?_
  refine am_dup d_Ct_leadAhead_1 rfl ?_
  refine am_get d_Ct_leadAhead_2 f_Ct_36 hctl (by rfl) ?_
  refine am_iconst (v := 1) d_Ct_leadAhead_5 (by decide) ?_
  refine am_iadd d_Ct_leadAhead_6 ?_
  refine am_put _ d_Ct_leadAhead_7 f_Ct_36 (p_Ct_36 _) hctl (by decide) rfl rfl ?_
  refine am_aload_n d_Ct_leadAhead_10 rfl (by first | exact am_rvR _ | exact am_rvN | assumption) ?_
  refine am_aload_n d_Ct_leadAhead_11 rfl (by first | exact am_rvR _ | exact am_rvN | assumption) ?_
  refine am_get d_Ct_leadAhead_12 f_Ct_36 hc1 (by rfl) ?_
  refine am_put _ d_Ct_leadAhead_15 f_Ct_160 (p_Ct_160 _) ho1 (by decide) rfl rfl ?_
  refine am_aload_n d_Ct_leadAhead_18 rfl (by first | exact am_rvR _ | exact am_rvN | assumption) ?_
  refine am_dup d_Ct_leadAhead_19 rfl ?_
  refine am_get d_Ct_leadAhead_20 f_Ct_167 (am_up_at _ _ _ _) (by rfl) ?_
  refine am_iconst (v := nI 1) d_Ct_leadAhead_23 (by decide) ?_
  refine am_isubN d_Ct_leadAhead_24 (by omega) ?_
  rw [show l + 1 - 1 = l from rfl]
  refine am_put _ d_Ct_leadAhead_25 f_Ct_167 (p_Ct_167 _) (am_up_at _ _ _ _) (by decide) rfl rfl ?_
  rw [am_up_up]
  refine am_aload_n d_Ct_leadAhead_28 rfl (by first | exact am_rvR _ | exact am_rvN | assumption) ?_
  refine am_get d_Ct_leadAhead_29 f_Ct_184 ho4 (by rfl) ?_
  refine am_aload_n d_Ct_leadAhead_32 rfl (by first | exact am_rvR _ | exact am_rvN | assumption) ?_
  refine am_get d_Ct_leadAhead_33 f_Ct_167 ho4 (by rfl) ?_
  refine am_iald (j := l) d_Ct_leadAhead_36 am_kI_ok hw4 rfl (cl_fld (by omega)) (by simp; omega) ?_
  rw [hgd]
  refine am_istore_n (L1 := [_, _, _, _]) d_Ct_leadAhead_37 (by decide) rfl ?_
  refine am_aload_n d_Ct_leadAhead_38 rfl (by first | exact am_rvR _ | exact am_rvN | assumption) ?_
  refine am_get d_Ct_leadAhead_39 f_Ct_9 hc4 (by rfl) ?_
  refine am_iload_n d_Ct_leadAhead_42 rfl ?_
  refine am_cS d_Ct_leadAhead_43 s_Ct_187 (vs := [.int (nI m)]) (st := [.ref (A 8)]) rfl rfl (by decide) (Nat.le_of_ble_eq_true rfl) (ff_switchOf (by omega)) ?_
  rintro v S2 ⟨rfl, rfl⟩
  refine am_aald d_Ct_leadAhead_46 am_kN_ok rfl (cl_nodes hS4) rfl (cl_nodes_at hi) (by simp; omega) ?_
  refine am_astore_n (L1 := [_, _, _, _]) d_Ct_leadAhead_47 (by decide) (by first | exact am_rvR _ | exact am_rvN | assumption) rfl ?_
  refine am_aload_n d_Ct_leadAhead_48 rfl (by first | exact am_rvR _ | exact am_rvN | assumption) ?_
  refine am_get d_Ct_leadAhead_49 f_Ct_118 (cl_node hS4 hi) (by rfl) ?_
  refine am_iconst (v := 0) d_Ct_leadAhead_52 (by decide) ?_
  refine am_iload_n d_Ct_leadAhead_53 rfl ?_
  refine am_cS d_Ct_leadAhead_54 s_Ct_205 (vs := [.int (nI m)]) (st := [.int 0, .ref (A (30 + m / 4))]) rfl rfl (by decide) (Nat.le_of_ble_eq_true rfl) (ff_portOf (by omega)) ?_
  rintro v S3 ⟨rfl, rfl⟩
  refine am_aload_n d_Ct_leadAhead_57 rfl (by first | exact am_rvR _ | exact am_rvN | assumption) ?_
  refine am_get d_Ct_leadAhead_58 f_Ct_179 ho4 (by rfl) ?_
  refine am_aload_n d_Ct_leadAhead_61 rfl (by first | exact am_rvR _ | exact am_rvN | assumption) ?_
  refine am_get d_Ct_leadAhead_62 f_Ct_180 ho4 (by rfl) ?_
  refine am_cS d_Ct_leadAhead_65 s_Ct_197 (vs := [.int 0, .int (nI (m % 4)), .int f, .int t]) (st := [.ref (A (30 + m / 4))]) rfl rfl (by decide) (Nat.le_of_ble_eq_true rfl) (mk_ofPair 0 (nI (m % 4)) f t) ?_
  rintro v S5 ⟨rfl, rfl⟩
  obtain ⟨s5, e5, ⟨-, b51, b52⟩, hS5, hf5, hm5⟩ := cl_newQ hS4 (c := 30 + m / 4) (by omega) (by omega) 0 (nI (m % 4)) f t 0
  refine am_cV (b := A (30 + m / 4)) d_Ct_leadAhead_68 v_Ct_131 (vs := [.ref _]) (st := []) rfl rfl (by decide) (Nat.le_of_ble_eq_true rfl) (cl_list hS5 hL).1.choose_spec.choose_spec.choose_spec.choose_spec.1 (cl_addQ (row := [0, nI (m % 4), f, t, 0]) hn he hS5 hL (by rw [e5, hl4 _ (by omega) (by omega)]; omega) hm5 (fun z => by omega)) ?_
  rintro v S6 ⟨rfl, s6, e6, ⟨-, b61, b62⟩, hS6, hf6⟩
  refine am_pop d_Ct_leadAhead_71 rfl ?_
  refine am_aload_n d_Ct_leadAhead_72 rfl (by first | exact am_rvR _ | exact am_rvN | assumption) ?_
  refine am_get d_Ct_leadAhead_73 f_Ct_118 (cl_node hS6 hi) (by rfl) ?_
  refine am_iconst (v := 2) d_Ct_leadAhead_76 (by decide) ?_
  refine am_aload_n d_Ct_leadAhead_77 rfl (by first | exact am_rvR _ | exact am_rvN | assumption) ?_
  have hc6 := cl_ctl hS6
  rw [show fc_get s6.1 2 0 0 = x0 + 1 from by unfold fc_get; rw [e6, show fc_add s5.1 (30 + m / 4) [0, nI (m % 4), f, t, 0] 2 = s5.1 2 from fc_up_ne _ (by omega), e5, h42]; rfl] at hc6
  refine am_get d_Ct_leadAhead_78 f_Ct_36 hc6 (by rfl) ?_
  refine am_cS d_Ct_leadAhead_81 s_Ct_201 (vs := [.int 2, .int (x0 + 1)]) (st := [.ref (A (30 + m / 4))]) rfl rfl (by decide) (Nat.le_of_ble_eq_true rfl) (mk_ofValue 2 (x0 + 1)) ?_
  rintro v S7 ⟨rfl, rfl⟩
  obtain ⟨s7, e7b, ⟨-, b71, b72⟩, hS7, hf7, hm7⟩ := cl_newQ hS6 (c := 30 + m / 4) (by omega) (by omega) 2 (x0 + 1) (-1) (-1) 0
  refine am_cV (b := A (30 + m / 4)) d_Ct_leadAhead_84 v_Ct_131 (vs := [.ref _]) (st := []) rfl rfl (by decide) (Nat.le_of_ble_eq_true rfl) (cl_list hS7 hL).1.choose_spec.choose_spec.choose_spec.choose_spec.1 (cl_addQ (row := [2, x0 + 1, -1, -1, 0]) hn he hS7 hL (by rw [e7b, e6, fc_add_len, e5, hl4 _ (by omega) (by omega)]; omega) hm7 (fun z => by omega)) ?_
  rintro v S8 ⟨rfl, s8, e8, ⟨-, b81, b82⟩, hS8, hf8⟩
  refine am_pop d_Ct_leadAhead_87 rfl ?_
  refine am_vret d_Ct_leadAhead_88 rfl ?_
  refine ⟨rfl, s8, ?_, ⟨by omega, by omega⟩, hS8, ((((hf1.trans hf4).trans hf5).trans hf6).trans hf7).trans hf8⟩
  rw [e8, e7b, e6, e5, e4, heq]
end CTD
