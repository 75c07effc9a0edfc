/-! the class: hosts are attached -/
section CFI
variable {g : am_G} {e nw ns room idle : Nat} {A : Nat → Nat} {s : cl_S} {S : am_S}
theorem am_nulls (as : List Nat) (a : Nat) (h : as.length < 6) : (as.map Value.ref ++ List.replicate (6 - as.length) Value.null).set as.length (.ref a) = (as ++ [a]).map Value.ref ++ List.replicate (6 - (as ++ [a]).length) .null := by
  rw [List.set_append_right _ _ (by simp), show 6 - as.length = (6 - (as ++ [a]).length) + 1 by simp; omega, List.replicate_succ]
  simp
/-- a host more -/
theorem cl_addH (hS : cl_P e nw ns room idle A s S) (IP : fc_iP ns s.1) {a : Nat} {row : List Int32} (hl : (s.2.1 1).length < 6) (hel : cl_el 1 a row S) (hnew : a ∉ s.2.1 1) : ∃ s' : cl_S, s'.1 = fc_add s.1 1 row ∧ (s'.2.1 1 = s.2.1 1 ++ [a] ∧ s'.2.2 = s.2.2) ∧ cl_P e nw ns room idle A s' (am_up S (A 1) 11 (.inl (am_kH, ((s.2.1 1).map Value.ref ++ List.replicate (6 - (s.2.1 1).length) Value.null).set (s.2.1 1).length (.ref a)))) ∧ am_fr cl_X S (am_up S (A 1) 11 (.inl (am_kH, ((s.2.1 1).map Value.ref ++ List.replicate (6 - (s.2.1 1).length) Value.null).set (s.2.1 1).length (.ref a)))) := by
  obtain ⟨h1, -, hels⟩ := cl_hosts hS
  have hfa : am_fr (fun t => t = 11) S (am_up S (A 1) 11 (.inl (am_kH, ((s.2.1 1).map Value.ref ++ List.replicate (6 - (s.2.1 1).length) Value.null).set (s.2.1 1).length (.ref a)))) := am_fr.up h1 rfl
  refine ⟨cl_up s 1 (s.1 1 ++ [row]) (s.2.1 1 ++ [a]) 0 0, rfl, ⟨cl_up_2, rfl⟩, ?_, am_fr.up h1 (by unfold cl_X; omega)⟩
  refine cl_P.upd 1 hS (am_fr.up h1 (by unfold cl_Xc; omega)) hS.1.2.1 hS.1.2.2 (fun c hc => cl_up_o hc) (fun q hq _ => ?_) ?_
  · obtain ⟨h, o, u, hr, hh, -⟩ := IP q hq
    rw [show fc_get s.1 (100 + q) 0 0 = h from by unfold fc_get; rw [hr]; rfl]
    unfold cl_hv
    rcases hh with rfl | ⟨k, hk, rfl⟩
    · rfl
    · have hk2 : k < (s.2.1 1).length := by rw [hels.1]; exact hk
      rw [if_neg (cl_ix_ne (by omega)), if_neg (cl_ix_ne (by omega)), nI_clamp (by omega), cl_up_2, List.getD_eq_getElem?_getD, List.getD_eq_getElem?_getD, List.getElem?_append_left hk2]
  · refine ⟨fun z => ?_, fun _ => ⟨?_, ?_, ?_⟩, fun z => ?_, fun z => ?_, fun z => ?_, fun z => ?_, fun z => ?_, fun q' hq' z => ?_, fun z => ?_⟩
    · omega
    · rw [am_up_at, cl_up_2, am_nulls _ _ hl]
    · rw [cl_up_2]; simp; omega
    · refine ⟨by rw [cl_up_1, cl_up_2, List.length_append, List.length_append, hels.1]; rfl, fun z => by
        rw [cl_up_2, List.nodup_append]
        exact ⟨hels.2.1 z, by simp, fun x hx y hy => by rw [List.mem_singleton.mp hy]; exact fun e => hnew (e ▸ hx)⟩, fun j b r hb hr => ?_⟩
      rw [cl_up_2, List.getElem?_append] at hb
      rw [cl_up_1, List.getElem?_append] at hr
      by_cases hj : j < (s.2.1 1).length
      · rw [if_pos hj] at hb
        rw [if_pos (by rw [← hels.1]; exact hj)] at hr
        exact (hels.2.2 j b r hb hr).fr hfa (by decide) (by decide)
      · rw [if_neg hj] at hb
        rw [if_neg (by rw [← hels.1]; exact hj), ← hels.1] at hr
        have e1 : j - (s.2.1 1).length = 0 := by
          have := (List.getElem?_eq_some_iff.mp hb).1
          simp at this
          omega
        rw [e1] at hb hr
        cases hb
        cases hr
        exact hel.fr hfa (by decide) (by decide)
    rotate_left 6
    · unfold cl_isL at z; omega
    all_goals omega
/-- a port shows a host -/
theorem cl_putH (hn : ns ≤ 5) (hS : cl_P e nw ns room idle A s S) {q k a : Nat} (hq : q < 4 * ns) {h o u : Int32} (hr : s.1 (100 + q) = [[h, o, u]]) (hk : k < 1000) (ha : (s.2.1 1)[k]? = some a) :
    ∃ s' : cl_S, s'.1 = fc_put s.1 (100 + q) 0 0 (nI k) ∧ s'.2 = s.2 ∧ cl_P e nw ns room idle A s' (am_up S (A (100 + q)) (10 * (100 + q) + 1) (.inr (am_cPt, [Value.ref (A (200 + q)), .ref a, .int o, .int u]))) ∧ am_fr cl_X S (am_up S (A (100 + q)) (10 * (100 + q) + 1) (.inr (am_cPt, [Value.ref (A (200 + q)), .ref a, .int o, .int u]))) := by
  have hp := cl_port hS hq
  have g0 : ∀ j', fc_get s.1 (100 + q) 0 j' = ([h, o, u] : List Int32).getD j' 0 := fun j' => by unfold fc_get; rw [hr]; rfl
  have gp : ∀ j', fc_get (fc_put s.1 (100 + q) 0 0 (nI k)) (100 + q) 0 j' = if j' = 0 then nI k else ([h, o, u] : List Int32).getD j' 0 := fun j' => by
    rw [fc_get_put (row := [h, o, u]) (by rw [hr]; rfl) 0 (nI k) (by show 0 < 3; omega), g0]
  refine ⟨cl_st s (fc_put s.1 (100 + q) 0 0 (nI k)), rfl, rfl, ?_, am_fr.up hp (by unfold cl_X; omega)⟩
  refine cl_P.upd (100 + q) hS (am_fr.up hp (by unfold cl_Xc; omega)) hS.1.2.1 hS.1.2.2 (fun c hc => ⟨fc_put_ne _ _ _ hc, rfl⟩) (fun _ _ _ => rfl) ?_
  refine ⟨fun z => ?_, fun z => ?_, fun z => ?_, fun z => ?_, fun z => ?_, fun z => ?_, fun z => ?_, fun q' hq' z => ?_, fun z => ?_⟩
  rotate_left 7
  · have e1 : q' = q := by omega
    subst e1
    show (am_up S _ _ _).1 (A (100 + q')) = _
    rw [am_up_at]
    show _ = some (_, Sum.inr (am_cPt, [_, cl_hv (cl_st s _) (fc_get (fc_put s.1 (100 + q') 0 0 (nI k)) (100 + q') 0 0), .int (fc_get (fc_put s.1 (100 + q') 0 0 (nI k)) (100 + q') 0 1), .int (fc_get (fc_put s.1 (100 + q') 0 0 (nI k)) (100 + q') 0 2)]))
    rw [gp, gp, gp, if_pos rfl, if_neg (by decide), if_neg (by decide)]
    unfold cl_hv
    rw [if_neg (cl_ix_ne (by omega)), nI_clamp (by omega), List.getD_eq_getElem?_getD, show (cl_st s (fc_put s.1 (100 + q') 0 0 (nI k))).2.1 1 = s.2.1 1 from rfl, ha]
    rfl
  · have hl : cl_L e A s (100 + q) S := cl_list hS z
    obtain ⟨mc, ea, ta, vs, k1, -⟩ := hl.1
    rw [show S.1 (A (100 + q)) = _ from hp] at k1
    cases k1
  all_goals omega
theorem ff_attach (hn : ns ≤ 5) (hS : cl_P e nw ns room idle A s S) (I : fc_iD ns room s.1) (x y : Int32) : am_M g y_FF_attach "(II)I" 2 43 [.ref (A 0), .int x, .int y] S (fun v S' => v = some (.int (fc_attach ns s.1 x y).1) ∧ cl_Q e nw ns room idle A s S (fc_attach ns s.1 x y).2 1 6 S') := by
  have hid : cl_Q e nw ns room idle A s S s.1 1 6 S := (cl_Q.id hS).wide (by omega) (by omega)
  have IP := I.2.2.1
  obtain ⟨⟨now, h0⟩, h16, -⟩ := I.2.1
  have hg1 : fc_get s.1 0 0 1 = nI (s.1 1).length := by unfold fc_get; rw [h0]; rfl
  have hfab : S.1 (A 0) = some (1, .inr (am_cFF, [.int (nI idle), .ref (A 8), .ref (A 1), .ref (A 2), .int (nI (s.1 1).length), .int now])) := by
    have z := cl_fab hS
    rw [hg1, show fc_get s.1 0 0 0 = now from by unfold fc_get; rw [h0]; rfl] at z
    exact z
  obtain ⟨hh1, hh2, hels⟩ := cl_hosts hS
  refine am_Mof (L0 := [some (.ref (A 0)), some (.int x), some (.int y), none]) pl_FF_attach (am_k1 rfl (am_k1 rfl (am_k1 rfl am_k0))) (Nat.le_of_ble_eq_true rfl) rfl ?_
  refine am_aload_n d_FF_attach_0 rfl (by first | exact am_rvR _ | exact am_rvN | assumption) ?_
  refine am_iload_n d_FF_attach_1 rfl ?_
  refine am_iload_n d_FF_attach_2 rfl ?_
  refine am_cV (b := A 0) d_FF_attach_3 v_FF_47 (vs := [.int x, .int y]) (st := []) rfl rfl (by decide) (Nat.le_of_ble_eq_true rfl) (cl_fab hS) (cq_isPort hS hn x y) ?_
  rintro v S9 ⟨rfl, hS9⟩
  rw [hS9]
  first | refine am_if_eqB (tgt := 26) d_FF_attach_6 (by decide) (fun q1 => ?_) (fun q1 => ?_) | refine am_if_eqN (tgt := 26) d_FF_attach_6 (by decide) (by omega) (fun q1 => ?_) (fun q1 => ?_) | refine am_if_eq (tgt := 26) d_FF_attach_6 (by decide) (fun q1 => ?_) (fun q1 => ?_)
  · refine am_iconst (v := (-1)) d_FF_attach_26 (by decide) ?_
    refine am_iret d_FF_attach_27 rfl (by first | rfl | exact am_b_nar _) ?_
    have hc : ¬ (fc_pt ns x y && fc_free s.1 (fc_e x y)) = true := by rw [q1]; simp
    exact ⟨by unfold fc_attach; rw [if_neg hc], by unfold fc_attach; rw [if_neg hc]; exact hid⟩
  · obtain ⟨i, p, hi, hp, ex, ey⟩ := fc_pt_nat hn q1
    subst ex
    subst ey
    have ee : fc_e (nI i) (nI p) = 4 * i + p := by unfold fc_e; rw [nI_clamp (by omega), nI_clamp (by omega)]
    obtain ⟨h, o, u, hr, -⟩ := IP (4 * i + p) (by omega)
    refine am_aload_n d_FF_attach_9 rfl (by first | exact am_rvR _ | exact am_rvN | assumption) ?_
    refine am_get d_FF_attach_10 f_FF_18 hfab (by rfl) ?_
    refine am_iload_n d_FF_attach_13 rfl ?_
    refine am_aald d_FF_attach_14 am_kN_ok rfl (cl_nodes hS) rfl (cl_nodes_at hi) (by simp; omega) ?_
    refine am_get d_FF_attach_15 f_FF_51 (cl_node hS hi) (by rfl) ?_
    refine am_iload_n d_FF_attach_18 rfl ?_
    refine am_aald d_FF_attach_19 am_kP_ok rfl (cl_ports hS hi) rfl (cl_ports_at hp) (by show 4 < 2 ^ 31; decide) ?_
    refine am_cV (b := A (100 + (4 * i + p))) d_FF_attach_20 v_FF_55 (vs := []) (st := []) rfl rfl (by decide) (Nat.le_of_ble_eq_true rfl) (cl_port hS (show 4 * i + p < 4 * ns by omega)) (pt_isFree hS (by omega) hr) ?_
    rintro v S9 ⟨rfl, hS9⟩
    rw [hS9]
    first | refine am_if_neB (tgt := 28) d_FF_attach_23 (by decide) (fun q2 => ?_) (fun q2 => ?_) | refine am_if_neN (tgt := 28) d_FF_attach_23 (by decide) (by omega) (fun q2 => ?_) (fun q2 => ?_) | refine am_if_ne (tgt := 28) d_FF_attach_23 (by decide) (fun q2 => ?_) (fun q2 => ?_)
    · have hc : (fc_pt ns (nI i) (nI p) && fc_free s.1 (fc_e (nI i) (nI p))) = true := by rw [q1, ee, q2]; rfl
      refine am_aload_n d_FF_attach_28 rfl (by first | exact am_rvR _ | exact am_rvN | assumption) ?_
      refine am_get d_FF_attach_29 f_FF_41 hfab (by rfl) ?_
      refine am_bipush (v := nI 6) d_FF_attach_32 (by decide) ?_
      first | refine am_icmp_ltN (tgt := 40) d_FF_attach_34 (by decide) (by omega) (by omega) (fun q3 => ?_) (fun q3 => ?_) | refine am_icmp_lt (tgt := 40) d_FF_attach_34 (by decide) (fun q3 => ?_) (fun q3 => ?_)
      · have ea : fc_attach ns s.1 (nI i) (nI p) = (nI (s.1 1).length, fc_put (fc_put (fc_add s.1 1 [nI (s.1 1).length, nI i, nI p, 0, 0, -1]) 0 0 1 (nI ((s.1 1).length + 1))) (100 + (4 * i + p)) 0 0 (nI (s.1 1).length)) := by
          unfold fc_attach fc_len
          rw [if_pos hc, if_neg (by omega), ee]
        rw [ea]
        refine am_nw 13 d_FF_attach_40 n_FF_26 df_Ho ?_
        have hb0 := am_mk_at S 13 6 (.inr (am_cHo, [.int 0, .int 0, .int 0, .int 0, .int 0, .int 0]))
        have hfab0 := am_mk_old (t := 13) (n := 6) (x := .inr (am_cHo, [.int 0, .int 0, .int 0, .int 0, .int 0, .int 0])) hfab hS.1.1
        refine am_dup d_FF_attach_43 rfl ?_
        refine am_aload_n d_FF_attach_44 rfl (by first | exact am_rvR _ | exact am_rvN | assumption) ?_
        refine am_get d_FF_attach_45 f_FF_41 hfab0 (by rfl) ?_
        refine am_iload_n d_FF_attach_48 rfl ?_
        refine am_iload_n d_FF_attach_49 rfl ?_
        refine am_cI (b := S.2.1) d_FF_attach_50 i_FF_61 (vs := [.int (nI (s.1 1).length), .int (nI i), .int (nI p)]) (st := [.ref S.2.1]) rfl rfl (by decide) (Nat.le_of_ble_eq_true rfl) (mk_Ho (by decide) hb0 _ _ _) ?_
        rintro v S2 ⟨rfl, rfl⟩
        rw [am_up_mk]
        obtain ⟨s1, e1, c1, b11, b12, hS1⟩ : ∃ s1 : cl_S, s1.1 = s.1 ∧ s1.2.1 = s.2.1 ∧ s1.2.2.1 = s.2.2.1 + 1 ∧ s1.2.2.2 = s.2.2.2 + 6 ∧ cl_P e nw ns room idle A s1 (am_mk S 13 6 (.inr (am_cHo, [.int (nI (s.1 1).length), .int (nI i), .int (nI p), .int 0, .int 0, .int (-1)]))) := ⟨cl_bg s 1 6, rfl, rfl, rfl, rfl, hS.more (am_fr.mk _ _ _ _ hS.1.1) (am_co.mk _ _ _ _)⟩
        have hf1 : am_fr cl_X S (am_mk S 13 6 (.inr (am_cHo, [.int (nI (s.1 1).length), .int (nI i), .int (nI p), .int 0, .int 0, .int (-1)]))) := am_fr.mk _ _ _ _ hS.1.1
        have hnew : S.2.1 ∉ s.2.1 1 := by
          intro z
          obtain ⟨j, hj, hj2⟩ := List.getElem_of_mem z
          obtain ⟨a', row', g1, g2, g3⟩ := cl_at hels (k := j) (by rw [← hels.1]; exact hj)
          rw [List.getElem?_eq_getElem hj, hj2] at g1
          cases g1
          unfold cl_el at g3
          rw [if_pos rfl] at g3
          exact absurd (hS.1.1 _ _ g3.1) (Nat.lt_irrefl _)
        have hel : cl_el 1 S.2.1 [nI (s.1 1).length, nI i, nI p, 0, 0, -1] (am_mk S 13 6 (.inr (am_cHo, [.int (nI (s.1 1).length), .int (nI i), .int (nI p), .int 0, .int 0, .int (-1)]))) := by
          unfold cl_el
          rw [if_pos rfl]
          exact ⟨am_mk_at _ _ _ _, rfl⟩
        have hho1 : (am_mk S 13 6 (.inr (am_cHo, [.int (nI (s.1 1).length), .int (nI i), .int (nI p), .int 0, .int 0, .int (-1)]))).1 S.2.1 = some (13, (.inr (am_cHo, [.int (nI (s.1 1).length), .int (nI i), .int (nI p), .int 0, .int 0, .int (-1)]))) := am_mk_at _ _ _ _
        obtain ⟨S1, eS1⟩ : ∃ S1, S1 = am_mk S 13 6 (.inr (am_cHo, [.int (nI (s.1 1).length), .int (nI i), .int (nI p), .int 0, .int 0, .int (-1)])) := ⟨_, rfl⟩
        rw [← eS1] at hS1 hf1 hel hho1 ⊢
        have h1l : (s1.2.1 1).length = (s.1 1).length := by rw [c1]; exact hels.1
        obtain ⟨s2, e2, ⟨c2, b2⟩, hS2, hf2⟩ := cl_addH hS1 (by rw [e1]; exact IP) (by rw [h1l]; omega) hel (by rw [c1]; exact hnew)
        have hh11 := (cl_hosts hS1).1
        have hho2 := am_up_tag (t' := 11) (x' := .inl (am_kH, ((s1.2.1 1).map Value.ref ++ List.replicate (6 - (s1.2.1 1).length) Value.null).set (s1.2.1 1).length (.ref S.2.1))) hho1 hh11 (by decide)
        have hfab1 : S1.1 (A 0) = some (1, .inr (am_cFF, [.int (nI idle), .ref (A 8), .ref (A 1), .ref (A 2), .int (nI (s.1 1).length), .int now])) := by rw [eS1]; exact am_mk_old hfab hS.1.1
        have hfab2 := am_up_tag (t' := 11) (x' := .inl (am_kH, ((s1.2.1 1).map Value.ref ++ List.replicate (6 - (s1.2.1 1).length) Value.null).set (s1.2.1 1).length (.ref S.2.1))) hfab1 hh11 (by decide)
        have e20 : s2.1 0 = [[now, nI (s.1 1).length]] := by rw [e2, e1]; exact (fc_up_ne _ (by omega)).trans h0
        obtain ⟨hS3, hf3⟩ := cl_putF hS2 e20 1 (Or.inr rfl) (nI ((s.1 1).length + 1))
        refine am_astore_n (L1 := [_, _, _, _]) d_FF_attach_53 (by decide) (by first | exact am_rvR _ | exact am_rvN | assumption) rfl ?_
        refine am_aload_n d_FF_attach_54 rfl (by first | exact am_rvR _ | exact am_rvN | assumption) ?_
        refine am_get d_FF_attach_55 f_FF_28 hfab1 (by rfl) ?_
        refine am_aload_n d_FF_attach_58 rfl (by first | exact am_rvR _ | exact am_rvN | assumption) ?_
        refine am_get d_FF_attach_59 f_FF_41 hfab1 (by rfl) ?_
        refine am_aload_n d_FF_attach_62 rfl (by first | exact am_rvR _ | exact am_rvN | assumption) ?_
        refine am_aast (j := (s1.2.1 1).length) d_FF_attach_63 am_kH_ok hh11 (by decide) hho1 (q := am_qHo) rfl (Or.inl rfl) (by rw [h1l]) (by simp; omega) (by simp; omega) ?_
        refine am_aload_n d_FF_attach_64 rfl (by first | exact am_rvR _ | exact am_rvN | assumption) ?_
        refine am_dup d_FF_attach_65 rfl ?_
        refine am_get d_FF_attach_66 f_FF_41 hfab2 (by rfl) ?_
        refine am_iconst (v := nI 1) d_FF_attach_69 (by decide) ?_
        first | refine am_iaddN d_FF_attach_70 ?_ | refine am_iadd d_FF_attach_70 ?_
        refine am_put _ d_FF_attach_71 f_FF_41 (p_FF_41 _) hfab2 (by decide) rfl rfl ?_
        obtain ⟨S3, eS3⟩ : ∃ S3, S3 = am_up (am_up S1 (A 1) 11 (.inl (am_kH, ((s1.2.1 1).map Value.ref ++ List.replicate (6 - (s1.2.1 1).length) Value.null).set (s1.2.1 1).length (.ref S.2.1)))) (A 0) 1 (.inr (am_cFF, [Value.int (nI idle), .ref (A 8), .ref (A 1), .ref (A 2), .int (nI (s.1 1).length), .int now].set (5 - 1) (.int (nI ((s.1 1).length + 1))))) := ⟨_, rfl⟩
        have hho3 : S3.1 S.2.1 = some (13, (.inr (am_cHo, [.int (nI (s.1 1).length), .int (nI i), .int (nI p), .int 0, .int 0, .int (-1)]))) := by rw [eS3]; exact am_up_tag hho2 hfab2 (by decide)
        show am_W g _ _ _ _ _ _ _ (am_up (am_up S1 (A 1) 11 (.inl (am_kH, ((s1.2.1 1).map Value.ref ++ List.replicate (6 - (s1.2.1 1).length) Value.null).set (s1.2.1 1).length (.ref S.2.1)))) (A 0) 1 (.inr (am_cFF, [Value.int (nI idle), .ref (A 8), .ref (A 1), .ref (A 2), .int (nI (s.1 1).length), .int now].set (5 - 1) (.int (nI ((s.1 1).length + 1))))))
        rw [← eS3] at hS3 hf3 ⊢
        obtain ⟨s3, e3, b3, hS3⟩ : ∃ s3 : cl_S, s3.1 = fc_put s2.1 0 0 1 (nI ((s.1 1).length + 1)) ∧ s3.2 = s2.2 ∧ cl_P e nw ns room idle A s3 S3 := ⟨cl_st s2 (fc_put s2.1 0 0 1 (nI ((s.1 1).length + 1))), rfl, rfl, hS3⟩
        have hr3 : s3.1 (100 + (4 * i + p)) = [[h, o, u]] := by rw [e3, fc_put_ne _ _ _ (by omega), e2, e1]; exact (fc_up_ne _ (by omega)).trans hr
        have hp3 := cl_port hS3 (show 4 * i + p < 4 * ns by omega)
        obtain ⟨s4, e4, b4, hS4, hf4⟩ := cl_putH (k := (s.1 1).length) (a := S.2.1) hn hS3 (show 4 * i + p < 4 * ns by omega) hr3 (by omega) (by rw [b3, c2, ← h1l, List.getElem?_append_right (Nat.le_refl _), Nat.sub_self]; rfl)
        have go : fc_get s3.1 (100 + (4 * i + p)) 0 1 = o := by unfold fc_get; rw [hr3]; rfl
        have gu : fc_get s3.1 (100 + (4 * i + p)) 0 2 = u := by unfold fc_get; rw [hr3]; rfl
        unfold cl_pt at hp3
        rw [go, gu] at hp3
        have hho4 := am_up_tag (t' := 10 * (100 + (4 * i + p)) + 1) (x' := .inr (am_cPt, [Value.ref (A (200 + (4 * i + p))), .ref S.2.1, .int o, .int u])) hho3 hp3 (by omega)
        refine am_aload_n d_FF_attach_74 rfl (by first | exact am_rvR _ | exact am_rvN | assumption) ?_
        refine am_get d_FF_attach_75 f_FF_18 (cl_fab hS3) (by rfl) ?_
        refine am_iload_n d_FF_attach_78 rfl ?_
        refine am_aald d_FF_attach_79 am_kN_ok rfl (cl_nodes hS3) rfl (cl_nodes_at hi) (by simp; omega) ?_
        refine am_get d_FF_attach_80 f_FF_51 (cl_node hS3 hi) (by rfl) ?_
        refine am_iload_n d_FF_attach_83 rfl ?_
        refine am_aald d_FF_attach_84 am_kP_ok rfl (cl_ports hS3 hi) rfl (cl_ports_at hp) (by show 4 < 2 ^ 31; decide) ?_
        refine am_aload_n d_FF_attach_85 rfl (by first | exact am_rvR _ | exact am_rvN | assumption) ?_
        refine am_put _ d_FF_attach_86 f_FF_64 (p_FF_64 _) hp3 (by omega) rfl rfl ?_
        refine am_aload_n d_FF_attach_89 rfl (by first | exact am_rvR _ | exact am_rvN | assumption) ?_
        refine am_get d_FF_attach_90 f_FF_68 hho4 (by rfl) ?_
        refine am_iret d_FF_attach_93 rfl (by first | rfl | exact am_b_nar _) ?_
        refine ⟨rfl, s4, ?_, ⟨?_, ?_⟩, hS4, ((hf1.trans hf2).trans hf3).trans hf4⟩
        · rw [e4, e3, e2, e1]
        · rw [b4, b3, b2]; omega
        · rw [b4, b3, b2]; omega
      · refine am_bipush (v := (-2)) d_FF_attach_37 (by decide) ?_
        refine am_iret d_FF_attach_39 rfl (by first | rfl | exact am_b_nar _) ?_
        exact ⟨by unfold fc_attach fc_len; rw [if_pos hc, if_pos (by omega)], by unfold fc_attach fc_len; rw [if_pos hc, if_pos (by omega)]; exact hid⟩
    · refine am_iconst (v := (-1)) d_FF_attach_26 (by decide) ?_
      refine am_iret d_FF_attach_27 rfl (by first | rfl | exact am_b_nar _) ?_
      have hc : ¬ (fc_pt ns (nI i) (nI p) && fc_free s.1 (fc_e (nI i) (nI p))) = true := by rw [ee, q2]; simp
      exact ⟨by unfold fc_attach; rw [if_neg hc], by unfold fc_attach; rw [if_neg hc]; exact hid⟩
end CFI
