/-! the class: a course is cleared, is led -/
section CTC
variable {g : am_G} {e nw ns room idle : Nat} {A : Nat → Nat} {s : cl_S} {S : am_S}
theorem fc_ord_nI (s : fc_S) {m : Nat} (hm : m < 1000) (row : List Int32) : fc_ord s (nI m) row = fc_add s (30 + m / 4) row := by
  unfold fc_ord
  rw [nI_clamp (by omega)]
theorem fc_add_len (s : fc_S) (c : Nat) (row : List Int32) : (fc_add s c row c).length = (s c).length + 1 := by
  unfold fc_add
  rw [fc_up_same, List.length_append]
  rfl
theorem ct_clr (hn : ns ≤ 5) (he : am_gE g e) (hS : cl_P e nw ns room idle A s S) (I : fc_iK ns s.1) (Io : fc_iO ns s.1) {k a : Nat} (ha : (s.2.1 7)[k]? = some a) (hlen : ∀ i, i < ns → (fc_clr s.1 k (30 + i)).length ≤ 59) : am_M g y_Ct_clearCourse "(LFlowFabric$Course;)V" 7 152 [.ref (A 2), .ref a] S (fun v S' => v = none ∧ cl_Q e nw ns room idle A s S (fc_clr s.1 k) 12 910 S') := by
  obtain ⟨⟨x0, h2⟩, -⟩ := Io
  have hk : k < (s.1 7).length := by rw [← (cl_list hS (c := 7) (Or.inl rfl)).2.1]; exact (List.getElem?_eq_some_iff.mp ha).1
  obtain ⟨a', w, f, t, l, kv, st, wv, aw, kp, kn, way, ha', hr, ho, hw, hkv, hf6, ht6, hst, hkp, hw1, hw5, hlw, hway⟩ := cl_cr hS I hk
  cases ha.symm.trans ha'
  obtain ⟨hcb, gw, g2, g0, g1⟩ := fc_cb_eq hr h2
  have hctl : S.1 (A 2) = some (21, .inr (am_cCt, [.ref (A 8), .ref (A 3), .ref (A 4), .ref (A 5), .ref (A 7), .ref (A 6), .int x0])) := by
    have h1 := cl_ctl hS
    rw [g2] at h1
    exact h1
  have ho0 : S.1 a = some (73, .inr (am_cCo, [.int (nI f), .int (nI t), .int st, .ref w, kv, .int wv, .int aw, .int (nI l)])) := ho
  obtain ⟨hS1, hf1⟩ := cl_putW hS h2 (x0 + 1)
  have hc1 := am_up_at S (A 2) 21 (.inr (am_cCt, [.ref (A 8), .ref (A 3), .ref (A 4), .ref (A 5), .ref (A 7), .ref (A 6), .int (x0 + 1)]))
  have ho1 := am_up_tag (t' := 21) (x' := .inr (am_cCt, [.ref (A 8), .ref (A 3), .ref (A 4), .ref (A 5), .ref (A 7), .ref (A 6), .int (x0 + 1)])) ho0 hctl (by decide)
  have hw1' := am_up_tag (t' := 21) (x' := .inr (am_cCt, [.ref (A 8), .ref (A 3), .ref (A 4), .ref (A 5), .ref (A 7), .ref (A 6), .int (x0 + 1)])) hw hctl (by decide)
  have hrv := hkv.rv
  have key : ∀ (m j : Nat) (s1 : cl_S) (S1 : am_S) (o7 : Option Value) (ca ba : Nat), j + m = way.length → s1.1 = fc_cj s.1 k j → s1.2.2.1 ≤ s.2.2.1 + 2 + 2 * j → s1.2.2.2 ≤ s.2.2.2 + 10 + 180 * j → S1.1 ca = some (0, .inr (am_cMs, [.int 1, .int (-1), .int (nI f), .int (nI t), .int 0])) → S1.1 ba = some (0, .inr (am_cMs, [.int 2, .int (x0 + 1), .int (-1), .int (-1), .int 0])) → S1.1 w = some (0, .inl (am_kI, way.map Value.int)) → cl_P e nw ns room idle A s1 S1 → am_fr cl_X S S1 → am_W g y_Ct_clearCourse 7 152 (fun v S' => v = none ∧ cl_Q e nw ns room idle A s S (fc_clr s.1 k) 12 910 S') 69 [some (.ref (A 2)), some (.ref a), some (.ref ca), some (.ref ba), some (.ref w), some (.int (nI way.length)), some (.int (nI j)), o7] [] S1 := by
    intro m
    induction m with
    | zero =>
      intro j s1 S1 o7 ca ba hj e1 b1 b2 hca hba hw2 hSj hfj
      have ej : j = way.length := by omega
      refine am_iload d_Ct_clearCourse_69 rfl ?_
      refine am_iload d_Ct_clearCourse_71 rfl ?_
      refine am_icmp_geN (tgt := 125) d_Ct_clearCourse_73 (by decide) (by omega) (by omega) (fun _ => ?_) (fun q => absurd q (by omega))
      refine am_vret d_Ct_clearCourse_125 rfl ?_
      refine ⟨rfl, s1, ?_, ⟨by omega, by omega⟩, hSj, hfj⟩
      rw [e1, ej, ← fc_cj_n, gw]
    | succ m ih =>
      intro j s1 S1 o7 ca ba hj e1 b1 b2 hca hba hw2 hSj hfj
      have hx := List.getElem?_eq_getElem (l := way) (i := j) (by omega)
      obtain ⟨mm, hmm, em⟩ := hway _ (List.mem_of_getElem? hx)
      rw [em] at hx
      have hgd : way.getD j 0 = nI mm := by rw [List.getD_eq_getElem?_getD, hx]; rfl
      have hi : mm / 4 < ns := by omega
      have hL : cl_isL ns (30 + mm / 4) := by unfold cl_isL; omega
      have es := fc_cj_s (s := s.1) (k := k) (j := j) (x := nI mm) (by rw [gw]; exact hx)
      rw [fc_ord_nI _ (by omega), fc_ord_nI _ (by omega), g0, g1, g2, ← e1] at es
      have hl2 : (fc_cj s.1 k (j + 1) (30 + mm / 4)).length ≤ 59 := Nat.le_trans (fc_cj_mono s.1 k (30 + mm / 4) (j := j + 1) (m := m) (by rw [gw]; omega)) (hlen _ hi)
      rw [es, fc_add_len, fc_add_len] at hl2
      refine am_iload d_Ct_clearCourse_69 rfl ?_
      refine am_iload d_Ct_clearCourse_71 rfl ?_
      refine am_icmp_geN (tgt := 125) d_Ct_clearCourse_73 (by decide) (by omega) (by omega) (fun q => absurd q (by omega)) (fun _ => ?_)
      refine am_aload d_Ct_clearCourse_76 rfl (by first | exact am_rvR _ | exact am_rvN | assumption) ?_
      refine am_iload d_Ct_clearCourse_78 rfl ?_
      refine am_iald (j := j) d_Ct_clearCourse_80 am_kI_ok hw2 rfl (cl_fld (by omega)) (by simp; omega) ?_
      rw [hgd]
      refine am_istore (L1 := [_, _, _, _, _, _, _, _]) d_Ct_clearCourse_81 (by decide) rfl ?_
      refine am_aload_n d_Ct_clearCourse_83 rfl (by first | exact am_rvR _ | exact am_rvN | assumption) ?_
      refine am_get d_Ct_clearCourse_84 f_Ct_9 (cl_ctl hSj) (by rfl) ?_
      refine am_iload d_Ct_clearCourse_87 rfl ?_
      refine am_cS d_Ct_clearCourse_89 s_Ct_187 (vs := [.int (nI mm)]) (st := [.ref (A 8)]) rfl rfl (by decide) (Nat.le_of_ble_eq_true rfl) (ff_switchOf (by omega)) ?_
      rintro v S2 ⟨rfl, rfl⟩
      refine am_aald d_Ct_clearCourse_92 am_kN_ok rfl (cl_nodes hSj) rfl (cl_nodes_at hi) (by simp; omega) ?_
      refine am_get d_Ct_clearCourse_93 f_Ct_118 (cl_node hSj hi) (by rfl) ?_
      refine am_aload_n d_Ct_clearCourse_96 rfl (by first | exact am_rvR _ | exact am_rvN | assumption) ?_
      refine am_cV (b := A (30 + mm / 4)) d_Ct_clearCourse_97 v_Ct_131 (vs := [.ref ca]) (st := []) rfl rfl (by decide) (Nat.le_of_ble_eq_true rfl) (cl_list hSj hL).1.choose_spec.choose_spec.choose_spec.choose_spec.1 (cl_addM (row := [1, -1, nI f, nI t, 0]) hn he hSj hL (by omega) (cl_ms (by omega) (by omega) hca rfl) (fun z => by omega)) ?_
      rintro v S3 ⟨rfl, hS3, hf3⟩
      have hba3 := cl_X0 hf3 hba
      refine am_pop d_Ct_clearCourse_100 rfl ?_
      refine am_aload_n d_Ct_clearCourse_101 rfl (by first | exact am_rvR _ | exact am_rvN | assumption) ?_
      refine am_get d_Ct_clearCourse_102 f_Ct_9 (cl_ctl hS3) (by rfl) ?_
      refine am_iload d_Ct_clearCourse_105 rfl ?_
      refine am_cS d_Ct_clearCourse_107 s_Ct_187 (vs := [.int (nI mm)]) (st := [.ref (A 8)]) rfl rfl (by decide) (Nat.le_of_ble_eq_true rfl) (ff_switchOf (by omega)) ?_
      rintro v S4 ⟨rfl, rfl⟩
      refine am_aald d_Ct_clearCourse_110 am_kN_ok rfl (cl_nodes hS3) rfl (cl_nodes_at hi) (by simp; omega) ?_
      refine am_get d_Ct_clearCourse_111 f_Ct_118 (cl_node hS3 hi) (by rfl) ?_
      refine am_aload_n d_Ct_clearCourse_114 rfl (by first | exact am_rvR _ | exact am_rvN | assumption) ?_
      refine am_cV (b := A (30 + mm / 4)) d_Ct_clearCourse_115 v_Ct_131 (vs := [.ref ba]) (st := []) rfl rfl (by decide) (Nat.le_of_ble_eq_true rfl) (cl_list hS3 hL).1.choose_spec.choose_spec.choose_spec.choose_spec.1 (cl_addM (row := [2, x0 + 1, -1, -1, 0]) hn he hS3 hL (by rw [cl_up_1, List.length_append]; show (s1.1 (30 + mm / 4)).length + 1 < 60; omega) (cl_ms (by omega) (by omega) hba3 rfl) (fun z => by omega)) ?_
      rintro v S5 ⟨rfl, hS5, hf5⟩
      refine am_pop d_Ct_clearCourse_118 rfl ?_
      first | refine am_iincN (b := 1) (L1 := [_, _, _, _, _, _, _, _]) d_Ct_clearCourse_119 rfl (by decide) (by decide) rfl ?_ | refine am_iinc (L1 := [_, _, _, _, _, _, _, _]) d_Ct_clearCourse_119 rfl rfl (by decide) rfl ?_
      refine am_goto (tgt := 69) d_Ct_clearCourse_122 (by decide) ?_
      have d1 : s1.2.2.1 + 1 + 1 ≤ s.2.2.1 + 2 + (2 * j + 2) := by omega
      have d2 : s1.2.2.2 + 90 + 90 ≤ s.2.2.2 + 10 + (180 * j + 180) := by omega
      refine ih (j + 1) _ S5 _ ca ba (by omega) ?_ d1 d2 (cl_X0 hf5 (cl_X0 hf3 hca)) (cl_X0 hf5 hba3) (cl_X0 hf5 (cl_X0 hf3 hw2)) hS5 ((hfj.trans hf3).trans hf5)
      rw [es]
      rfl
  refine am_Mof (L0 := [some (.ref (A 2)), some (.ref a), none, none, none, none, none, none]) pl_Ct_clearCourse (am_k1 rfl (am_k1 rfl am_k0)) (Nat.le_of_ble_eq_true rfl) rfl ?_
  refine am_aload_n d_Ct_clearCourse_0 rfl (by first | exact am_rvR _ | exact am_rvN | assumption) ?_
  refine am_dup d_Ct_clearCourse_1 rfl ?_
  refine am_get d_Ct_clearCourse_2 f_Ct_36 hctl (by rfl) ?_
  refine am_iconst (v := 1) d_Ct_clearCourse_5 (by decide) ?_
  refine am_iadd d_Ct_clearCourse_6 ?_
  refine am_put _ d_Ct_clearCourse_7 f_Ct_36 (p_Ct_36 _) hctl (by decide) rfl rfl ?_
  refine am_aload_n d_Ct_clearCourse_10 rfl (by first | exact am_rvR _ | exact am_rvN | assumption) ?_
  refine am_iconst (v := 1) d_Ct_clearCourse_11 (by decide) ?_
  refine am_put _ d_Ct_clearCourse_12 f_Ct_104 (p_Ct_104 _) ho1 (by decide) rfl rfl ?_
  refine am_aload_n d_Ct_clearCourse_15 rfl (by first | exact am_rvR _ | exact am_rvN | assumption) ?_
  refine am_aload_n d_Ct_clearCourse_16 rfl (by first | exact am_rvR _ | exact am_rvN | assumption) ?_
  refine am_get d_Ct_clearCourse_17 f_Ct_36 (am_up_tag hc1 ho1 (by decide)) (by rfl) ?_
  refine am_put _ d_Ct_clearCourse_20 f_Ct_160 (p_Ct_160 _) (am_up_at _ _ _ _) (by decide) rfl rfl ?_
  rw [am_up_up]
  refine am_aload_n d_Ct_clearCourse_23 rfl (by first | exact am_rvR _ | exact am_rvN | assumption) ?_
  refine am_aload_n d_Ct_clearCourse_24 rfl (by first | exact am_rvR _ | exact am_rvN | assumption) ?_
  refine am_get d_Ct_clearCourse_25 f_Ct_184 (am_up_at _ _ _ _) (by rfl) ?_
  refine am_alen (v := nI way.length) d_Ct_clearCourse_28 am_kI_ok (am_up_tag hw1' ho1 (by decide)) (by simp; rfl) ?_
  refine am_put _ d_Ct_clearCourse_29 f_Ct_173 (p_Ct_173 _) (am_up_at _ _ _ _) (by decide) rfl rfl ?_
  rw [am_up_up]
  obtain ⟨hS4, hf4⟩ := cl_setco hS1 (x' := .inr (am_cCo, [.int (nI f), .int (nI t), .int 1, .ref w, kv, .int (x0 + 1), .int (nI way.length), .int (nI l)])) (row' := [nI f, nI t, 1, x0 + 1, nI way.length, nI l, kp, kn] ++ way) ha (by show k < (fc_put s.1 2 0 0 (x0 + 1) 7).length; rw [fc_put_len]; exact hk) ho1 (cl_co_iff.mpr ⟨w, kv, am_up_at _ _ _ _, am_up_tag hw1' ho1 (by decide), (hkv.fr hf1 (fun z => by unfold cl_X at z; omega)).fr (am_fr.up ho1 (show (fun t => t = 73) 73 from rfl)) (by decide)⟩)
  have ho4 := am_up_at (am_up S (A 2) 21 (.inr (am_cCt, [.ref (A 8), .ref (A 3), .ref (A 4), .ref (A 5), .ref (A 7), .ref (A 6), .int (x0 + 1)]))) a 73 (.inr (am_cCo, [.int (nI f), .int (nI t), .int 1, .ref w, kv, .int (x0 + 1), .int (nI way.length), .int (nI l)]))
  have hc4 := am_up_tag (t' := 73) (x' := .inr (am_cCo, [.int (nI f), .int (nI t), .int 1, .ref w, kv, .int (x0 + 1), .int (nI way.length), .int (nI l)])) hc1 ho1 (by decide)
  have hw4 := am_up_tag (t' := 73) (x' := .inr (am_cCo, [.int (nI f), .int (nI t), .int 1, .ref w, kv, .int (x0 + 1), .int (nI way.length), .int (nI l)])) hw1' ho1 (by decide)
  have e4 : (cl_st (cl_st s (fc_put s.1 2 0 0 (x0 + 1))) (fc_up (fc_put s.1 2 0 0 (x0 + 1)) 7 ((fc_put s.1 2 0 0 (x0 + 1) 7).set k ([nI f, nI t, 1, x0 + 1, nI way.length, nI l, kp, kn] ++ way)))).1 = fc_cb s.1 k := by
    rw [hcb, show fc_put s.1 2 0 0 (x0 + 1) 7 = s.1 7 from fc_put_ne _ _ _ (by omega)]
    rfl
  refine am_iconst (v := 1) d_Ct_clearCourse_32 (by decide) ?_
  refine am_iconst (v := (-1)) d_Ct_clearCourse_33 (by decide) ?_
  refine am_aload_n d_Ct_clearCourse_34 rfl (by first | exact am_rvR _ | exact am_rvN | assumption) ?_
  refine am_get d_Ct_clearCourse_35 f_Ct_179 ho4 (by rfl) ?_
  refine am_aload_n d_Ct_clearCourse_38 rfl (by first | exact am_rvR _ | exact am_rvN | assumption) ?_
  refine am_get d_Ct_clearCourse_39 f_Ct_180 ho4 (by rfl) ?_
  refine am_cS d_Ct_clearCourse_42 s_Ct_197 (vs := [.int 1, .int (-1), .int (nI f), .int (nI t)]) (st := []) rfl rfl (by decide) (Nat.le_of_ble_eq_true rfl) (mk_ofPair 1 (-1) (nI f) (nI t)) ?_
  rintro v S5 ⟨rfl, rfl⟩
  obtain ⟨hS5, hf5⟩ := hS4.mk (z := 5) (x := .inr (am_cMs, [.int 1, .int (-1), .int (nI f), .int (nI t), .int 0]))
  have hca := am_mk_at (am_up (am_up S (A 2) 21 (.inr (am_cCt, [.ref (A 8), .ref (A 3), .ref (A 4), .ref (A 5), .ref (A 7), .ref (A 6), .int (x0 + 1)]))) a 73 (.inr (am_cCo, [.int (nI f), .int (nI t), .int 1, .ref w, kv, .int (x0 + 1), .int (nI way.length), .int (nI l)]))) 0 5 (.inr (am_cMs, [.int 1, .int (-1), .int (nI f), .int (nI t), .int 0]))
  refine am_astore_n (L1 := [_, _, _, _, _, _, _, _]) d_Ct_clearCourse_45 (by decide) (by first | exact am_rvR _ | exact am_rvN | assumption) rfl ?_
  refine am_iconst (v := 2) d_Ct_clearCourse_46 (by decide) ?_
  refine am_aload_n d_Ct_clearCourse_47 rfl (by first | exact am_rvR _ | exact am_rvN | assumption) ?_
  refine am_get d_Ct_clearCourse_48 f_Ct_36 (am_mk_old hc4 hS4.1.1) (by rfl) ?_
  refine am_cS d_Ct_clearCourse_51 s_Ct_201 (vs := [.int 2, .int (x0 + 1)]) (st := []) rfl rfl (by decide) (Nat.le_of_ble_eq_true rfl) (mk_ofValue 2 (x0 + 1)) ?_
  rintro v S6 ⟨rfl, rfl⟩
  obtain ⟨hS6, hf6⟩ := hS5.mk (z := 5) (x := .inr (am_cMs, [.int 2, .int (x0 + 1), .int (-1), .int (-1), .int 0]))
  refine am_astore_n (L1 := [_, _, _, _, _, _, _, _]) d_Ct_clearCourse_54 (by decide) (by first | exact am_rvR _ | exact am_rvN | assumption) rfl ?_
  refine am_aload_n d_Ct_clearCourse_55 rfl (by first | exact am_rvR _ | exact am_rvN | assumption) ?_
  refine am_get d_Ct_clearCourse_56 f_Ct_184 (am_mk_old (am_mk_old ho4 hS4.1.1) hS5.1.1) (by rfl) ?_
  refine am_astore (L1 := [_, _, _, _, _, _, _, _]) d_Ct_clearCourse_59 (by decide) (by first | exact am_rvR _ | exact am_rvN | assumption) rfl ?_
  refine am_aload d_Ct_clearCourse_61 rfl (by first | exact am_rvR _ | exact am_rvN | assumption) ?_
  refine am_alen (v := nI way.length) d_Ct_clearCourse_63 am_kI_ok (cl_X0 hf6 (cl_X0 hf5 hw4)) (by simp; rfl) ?_
  refine am_istore (L1 := [_, _, _, _, _, _, _, _]) d_Ct_clearCourse_64 (by decide) rfl ?_
  refine am_iconst (v := nI 0) d_Ct_clearCourse_66 (by decide) ?_
  refine am_istore (L1 := [_, _, _, _, _, _, _, _]) d_Ct_clearCourse_67 (by decide) rfl ?_
  exact key way.length 0 _ _ none _ _ (Nat.zero_add _) (by rw [fc_cj_0]; exact e4) (by show s.2.2.1 + 1 + 1 ≤ _; omega) (by show s.2.2.2 + 5 + 5 ≤ _; omega) (cl_X0 hf6 hca) (am_mk_at _ _ _ _) (cl_X0 hf6 (cl_X0 hf5 hw4)) hS6 (((hf1.trans hf4).trans hf5).trans hf6)
end CTC
