/-! the class: a course is laid; no room; gone -/
section CTE
variable {g : am_G} {e nw ns room idle : Nat} {A : Nat → Nat} {s : cl_S} {S : am_S}
/-- a course's object changes: the state behind it by what is known of it -/
theorem cl_setQ (hS : cl_P e nw ns room idle A s S) {k a w : Nat} {kv : Value} {x : am_K} {f t st wv aw ld kp kn : Int32} {way : List Int32} (ha : (s.2.1 7)[k]? = some a) (hk : k < (s.1 7).length) (hx : S.1 a = some (73, x)) (hw : S.1 w = some (0, .inl (am_kI, way.map Value.int))) (hkv : cl_kv kv f t kp kn S) :
    ∃ s' : cl_S, s'.1 = fc_up s.1 7 ((s.1 7).set k ([f, t, st, wv, aw, ld, kp, kn] ++ way)) ∧ s'.2 = s.2 ∧ cl_P e nw ns room idle A s' (am_up S a 73 (.inr (am_cCo, [.int f, .int t, .int st, .ref w, kv, .int wv, .int aw, .int ld]))) ∧ am_fr cl_X S (am_up S a 73 (.inr (am_cCo, [.int f, .int t, .int st, .ref w, kv, .int wv, .int aw, .int ld]))) := by
  have h := cl_setco hS (x' := .inr (am_cCo, [.int f, .int t, .int st, .ref w, kv, .int wv, .int aw, .int ld])) (row' := [f, t, st, wv, aw, ld, kp, kn] ++ way) ha hk hx (cl_co_iff.mpr ⟨w, kv, am_up_at _ _ _ _, am_up_tag hw hx (by decide), hkv.fr (am_fr.up hx (show (fun t => t = 73) 73 from rfl)) (by decide)⟩)
  exact ⟨cl_st s _, rfl, rfl, h.1, h.2⟩
def fc_fin (s : fc_S) (k : Nat) : fc_S := if fc_get s 7 k 6 = 0 then fc_put s 7 k 2 3 else fc_ord (fc_put (fc_put s 7 k 2 3) 7 k 6 0) ((fc_way s k).getD 0 0) [4, -1, fc_get s 7 k 0, fc_get s 7 k 1, fc_get s 7 k 7]
theorem ct_fin (hn : ns ≤ 5) (he : am_gE g e) (hS : cl_P e nw ns room idle A s S) {k a m : Nat} {f t st wv aw ld kp kn : Int32} {way : List Int32} (hr : (s.1 7)[k]? = some ([f, t, st, wv, aw, ld, kp, kn] ++ way)) (ha : (s.2.1 7)[k]? = some a) (hw5 : way.length ≤ 5) (hx : way[0]? = some (nI m)) (hm : m < 4 * ns) (hlen : (s.1 (30 + m / 4)).length + 1 < 60) : am_M g y_Ct_finishLaying "(LFlowFabric$Course;)V" 7 152 [.ref (A 2), .ref a] S (fun v S' => v = none ∧ cl_Q e nw ns room idle A s S (fc_fin s.1 k) 2 95 S') := by
  have hk := (List.getElem?_eq_some_iff.mp hr).1
  have hl0 := (List.getElem?_eq_some_iff.mp hx).1
  have hgd : way.getD 0 0 = nI m := by rw [List.getD_eq_getElem?_getD, hx]; rfl
  have hi : m / 4 < ns := by omega
  have hL : cl_isL ns (30 + m / 4) := by unfold cl_isL; omega
  obtain ⟨a', w, kv, ha', ho, hw, hkv⟩ := cl_cr2 hS hr
  cases ha.symm.trans ha'
  have ho0 : S.1 a = some (73, .inr (am_cCo, [.int f, .int t, .int st, .ref w, kv, .int wv, .int aw, .int ld])) := ho
  have g6 : fc_get s.1 7 k 6 = kp := fc_get_row hr 6
  have ef : fc_fin s.1 k = if kp = 0 then fc_up s.1 7 ((s.1 7).set k ([f, t, 3, wv, aw, ld, kp, kn] ++ way)) else fc_add (fc_up s.1 7 ((s.1 7).set k ([f, t, 3, wv, aw, ld, 0, kn] ++ way))) (30 + m / 4) [4, -1, f, t, kn] := by
    unfold fc_fin
    rw [g6, fc_put2 hr, fc_put1 hr, fc_way_row hr, hgd, fc_ord_nI _ (by omega), fc_get_row hr, fc_get_row hr, fc_get_row hr]
    rfl
  obtain ⟨s1, e1, b1, hS1, hf1⟩ := cl_setQ (st := 3) (wv := wv) (aw := aw) (ld := ld) hS ha hk ho0 hw hkv
  have ho1 := am_up_at S a 73 (.inr (am_cCo, [.int f, .int t, .int 3, .ref w, kv, .int wv, .int aw, .int ld]))
  have hw1 := am_up_tag (t' := 73) (x' := .inr (am_cCo, [.int f, .int t, .int 3, .ref w, kv, .int wv, .int aw, .int ld])) hw ho0 (by decide)
  refine am_Mof (L0 := [some (.ref (A 2)), some (.ref a), none]) pl_Ct_finishLaying (am_k1 rfl (am_k1 rfl am_k0)) (Nat.le_of_ble_eq_true rfl) rfl ?_
  refine am_aload_n d_Ct_finishLaying_0 rfl (by first | exact am_rvR _ | exact am_rvN | assumption) ?_
  refine am_iconst (v := 3) d_Ct_finishLaying_1 (by decide) ?_
  refine am_put _ d_Ct_finishLaying_2 f_Ct_104 (p_Ct_104 _) ho0 (by decide) rfl rfl ?_
  refine am_aload_n d_Ct_finishLaying_5 rfl (by first | exact am_rvR _ | exact am_rvN | assumption) ?_
  refine am_get d_Ct_finishLaying_6 f_Ct_98 ho1 (by rfl) ?_
  rcases hkv with ⟨hz, rfl⟩ | ⟨hz, b, rfl, hb⟩
  · refine am_ifnullN (tgt := 49) d_Ct_finishLaying_9 (by decide) ?_
    refine am_vret d_Ct_finishLaying_49 rfl ?_
    refine ⟨rfl, s1, ?_, ⟨by rw [b1]; omega, by rw [b1]; omega⟩, hS1, hf1⟩
    rw [ef, if_pos hz, e1]
  · refine am_ifnull d_Ct_finishLaying_9 ?_
    have hb1 := cl_X0 hf1 hb
    have ha1 : (s1.2.1 7)[k]? = some a := by rw [b1]; exact ha
    have hk1 : k < (s1.1 7).length := by rw [e1, fc_up_same, List.length_set]; exact hk
    refine am_aload_n d_Ct_finishLaying_12 rfl (by first | exact am_rvR _ | exact am_rvN | assumption) ?_
    refine am_get d_Ct_finishLaying_13 f_Ct_9 (cl_ctl hS1) (by rfl) ?_
    refine am_aload_n d_Ct_finishLaying_16 rfl (by first | exact am_rvR _ | exact am_rvN | assumption) ?_
    refine am_get d_Ct_finishLaying_17 f_Ct_184 ho1 (by rfl) ?_
    refine am_iconst (v := nI 0) d_Ct_finishLaying_20 (by decide) ?_
    refine am_iald (j := 0) d_Ct_finishLaying_21 am_kI_ok hw1 rfl (cl_fld (by omega)) (by simp; omega) ?_
    rw [hgd]
    refine am_cS d_Ct_finishLaying_22 s_Ct_187 (vs := [.int (nI m)]) (st := [.ref (A 8)]) rfl rfl (by decide) (Nat.le_of_ble_eq_true rfl) (ff_switchOf (by omega)) ?_
    rintro v S2 ⟨rfl, rfl⟩
    refine am_aald d_Ct_finishLaying_25 am_kN_ok rfl (cl_nodes hS1) rfl (cl_nodes_at hi) (by simp; omega) ?_
    refine am_astore_n (L1 := [_, _, _]) d_Ct_finishLaying_26 (by decide) (by first | exact am_rvR _ | exact am_rvN | assumption) rfl ?_
    refine am_aload_n d_Ct_finishLaying_27 rfl (by first | exact am_rvR _ | exact am_rvN | assumption) ?_
    refine am_get d_Ct_finishLaying_28 f_Ct_118 (cl_node hS1 hi) (by rfl) ?_
    refine am_iconst (v := 4) d_Ct_finishLaying_31 (by decide) ?_
    refine am_iconst (v := (-1)) d_Ct_finishLaying_32 (by decide) ?_
    refine am_aload_n d_Ct_finishLaying_33 rfl (by first | exact am_rvR _ | exact am_rvN | assumption) ?_
    refine am_get d_Ct_finishLaying_34 f_Ct_98 ho1 (by rfl) ?_
    refine am_cS d_Ct_finishLaying_37 s_Ct_127 (vs := [.int 4, .int (-1), .ref b]) (st := [.ref (A (30 + m / 4))]) rfl rfl (by decide) (Nat.le_of_ble_eq_true rfl) (mk_ofDatagram 4 (-1) hS1.1.1 hb1) ?_
    rintro v S5 ⟨rfl, rfl⟩
    obtain ⟨s5, e5, ⟨b50, b51, b52⟩, hS5, hf5, hm5⟩ := cl_newQ hS1 (c := 30 + m / 4) (by omega) (by omega) 4 (-1) f t kn
    refine am_cV (b := A (30 + m / 4)) d_Ct_finishLaying_40 v_Ct_131 (vs := [.ref _]) (st := []) rfl rfl (by decide) (Nat.le_of_ble_eq_true rfl) (cl_list hS5 hL).1.choose_spec.choose_spec.choose_spec.choose_spec.1 (cl_addM (row := [4, -1, f, t, kn]) hn he hS5 hL (by rw [e5, e1, fc_up_ne _ (by omega)]; omega) hm5 (fun z => by omega)) ?_
    rintro v S6 ⟨rfl, hS6, hf6⟩
    obtain ⟨s6, e6, ⟨b60, b61, b62⟩, hS6⟩ : ∃ s6 : cl_S, s6.1 = fc_add s5.1 (30 + m / 4) [4, -1, f, t, kn] ∧ (s6.2.1 7 = s.2.1 7 ∧ s6.2.2.1 = s5.2.2.1 + 1 ∧ s6.2.2.2 = s5.2.2.2 + 90) ∧ cl_P e nw ns room idle A s6 S6 := by
      refine ⟨_, ?_, ⟨?_, ?_, ?_⟩, hS6⟩
      · rfl
      · rw [(cl_up_o (by omega)).2, b50, b1]
      · rfl
      · rfl
    have hr6 : (s6.1 7)[k]? = some ([f, t, 3, wv, aw, ld, kp, kn] ++ way) := by
      rw [e6, show fc_add s5.1 (30 + m / 4) [4, -1, f, t, kn] 7 = s5.1 7 from fc_up_ne _ (by omega), e5, e1, fc_up_same, List.getElem?_set_self hk]
    obtain ⟨a6, w6, kv6, ha6, ho6, hw6, hkv6⟩ := cl_cr2 hS6 hr6
    cases ha6.symm.trans (by rw [b60]; exact ha : (s6.2.1 7)[k]? = some a)
    obtain ⟨s7, e7, b7, hS7, hf7⟩ := cl_setQ (kv := .null) (st := 3) (wv := wv) (aw := aw) (ld := ld) (kp := 0) (kn := kn) hS6 ha6 (List.getElem?_eq_some_iff.mp hr6).1 ho6 hw6 (Or.inl ⟨rfl, rfl⟩)
    refine am_pop d_Ct_finishLaying_43 rfl ?_
    refine am_aload_n d_Ct_finishLaying_44 rfl (by first | exact am_rvR _ | exact am_rvN | assumption) ?_
    refine am_null d_Ct_finishLaying_45 ?_
    refine am_put _ d_Ct_finishLaying_46 f_Ct_98 (p_Ct_98 _) ho6 (by decide) rfl rfl ?_
    refine am_vret d_Ct_finishLaying_49 rfl ?_
    refine ⟨rfl, s7, ?_, ⟨by rw [b7]; rw [b1] at b51; omega, by rw [b7]; rw [b1] at b52; omega⟩, hS7, ((hf1.trans hf5).trans hf6).trans hf7⟩
    rw [ef, if_neg hz, e7, e6, e5, e1]
    funext c
    have h30 : (30 + m / 4) ≠ 7 := by omega
    unfold fc_add
    by_cases c7 : c = 7
    · subst c7
      rw [fc_up_same, fc_up_ne _ (Ne.symm h30), fc_up_ne _ (Ne.symm h30), fc_up_same, fc_up_same, List.set_set]
    · rw [fc_up_ne _ c7]
      by_cases cm : c = 30 + m / 4
      · subst cm
        rw [fc_up_same, fc_up_same, fc_up_ne _ h30, fc_up_ne _ h30]
      · rw [fc_up_ne _ cm, fc_up_ne _ cm, fc_up_ne _ c7, fc_up_ne _ c7]
theorem fc_cix_some {s : fc_S} {k : Nat} {x z : Int32} (h : fc_cix s x z = some k) : k < (s 7).length := by
  unfold fc_cix at h
  rw [List.findIdx?_eq_some_iff_getElem] at h
  exact h.1
theorem ct_noroom (hn : ns ≤ 5) (he : am_gE g e) (hS : cl_P e nw ns room idle A s S) (I : fc_iK ns s.1) (Io : fc_iO ns s.1) (x z : Int32) (hlen : ∀ i, i < ns → (fc_noroom s.1 x z (30 + i)).length ≤ 59) : am_M g y_Ct_handleNoRoom "(II)V" 8 179 [.ref (A 2), .int x, .int z] S (fun v S' => v = none ∧ cl_Q e nw ns room idle A s S (fc_noroom s.1 x z) 12 910 S') := by
  have hid : cl_Q e nw ns room idle A s S s.1 12 910 S := (cl_Q.id hS).wide (by omega) (by omega)
  refine am_Mof (L0 := [some (.ref (A 2)), some (.int x), some (.int z), none]) pl_Ct_handleNoRoom (am_k1 rfl (am_k1 rfl (am_k1 rfl am_k0))) (Nat.le_of_ble_eq_true rfl) rfl ?_
  refine am_aload_n d_Ct_handleNoRoom_0 rfl (by first | exact am_rvR _ | exact am_rvN | assumption) ?_
  refine am_iload_n d_Ct_handleNoRoom_1 rfl ?_
  refine am_iload_n d_Ct_handleNoRoom_2 rfl ?_
  refine am_cV (b := A 2) d_Ct_handleNoRoom_3 v_Ct_94 (vs := [.int x, .int z]) (st := []) rfl rfl (by decide) (Nat.le_of_ble_eq_true rfl) (cl_ctl hS) (ct_courseOf hS I x z) ?_
  rintro v S2 ⟨rfl, rfl⟩
  cases hx : fc_cix s.1 x z with
  | none =>
    refine am_astore_n (L1 := [_, _, _, _]) d_Ct_handleNoRoom_6 (by decide) am_rvN rfl ?_
    refine am_aload_n d_Ct_handleNoRoom_7 rfl (by first | exact am_rvR _ | exact am_rvN | assumption) ?_
    refine am_ifnullN (tgt := 29) d_Ct_handleNoRoom_8 (by decide) ?_
    refine am_vret d_Ct_handleNoRoom_29 rfl ?_
    refine ⟨rfl, ?_⟩
    unfold fc_noroom
    rw [hx]
    exact hid
  | some k =>
    obtain ⟨a, w, f, t, l, kv, st, wv, aw, kp, kn, way, ha, hr, ho, hw, hkv, hf6, ht6, hst, hkp, hw1, hw5, hlw, hway⟩ := cl_cr hS I (fc_cix_some hx)
    have hk := fc_cix_some hx
    have hgv : cl_cv s (some k) = Value.ref a := by
      show Value.ref ((s.2.1 7).getD k 0) = _
      rw [List.getD_eq_getElem?_getD, ha]
      rfl
    rw [hgv]
    have ho0 : S2.1 a = some (73, .inr (am_cCo, [.int (nI f), .int (nI t), .int st, .ref w, kv, .int wv, .int aw, .int (nI l)])) := ho
    have en : fc_noroom s.1 x z = if st = 2 then fc_clr (fc_put s.1 7 k 6 0) k else s.1 := by
      unfold fc_noroom
      rw [hx]
      simp only [fc_get_row hr]
      rfl
    rw [en] at hlen ⊢
    refine am_astore_n (L1 := [_, _, _, _]) d_Ct_handleNoRoom_6 (by decide) (by first | exact am_rvR _ | exact am_rvN | assumption) rfl ?_
    refine am_aload_n d_Ct_handleNoRoom_7 rfl (by first | exact am_rvR _ | exact am_rvN | assumption) ?_
    refine am_ifnull d_Ct_handleNoRoom_8 ?_
    refine am_aload_n d_Ct_handleNoRoom_11 rfl (by first | exact am_rvR _ | exact am_rvN | assumption) ?_
    refine am_get d_Ct_handleNoRoom_12 f_Ct_104 ho0 (by rfl) ?_
    refine am_iconst (v := 2) d_Ct_handleNoRoom_15 (by decide) ?_
    first | refine am_icmp_neN (tgt := 29) d_Ct_handleNoRoom_16 (by decide) (by omega) (by omega) (fun q1 => ?_) (fun q1 => ?_) | refine am_icmp_ne (tgt := 29) d_Ct_handleNoRoom_16 (by decide) (fun q1 => ?_) (fun q1 => ?_)
    · refine am_vret d_Ct_handleNoRoom_29 rfl ?_
      first | (refine ⟨rfl, hq3.from hf1 (by rw [b1]; omega) (by rw [b1]; omega)⟩) | (rw [if_neg q1]; exact ⟨rfl, hid⟩)
    · rw [if_pos q1] at hlen ⊢
      have ep : fc_put s.1 7 k 6 0 = fc_up s.1 7 ((s.1 7).set k ([nI f, nI t, st, wv, aw, nI l, 0, kn] ++ way)) := fc_put1 hr 6 0
      obtain ⟨s1, e1, b1, hS1, hf1⟩ := cl_setQ (kv := .null) (st := st) (wv := wv) (aw := aw) (ld := nI l) (kp := 0) (kn := kn) hS ha hk ho0 hw (Or.inl ⟨rfl, rfl⟩)
      have I1 : fc_iK ns s1.1 := by rw [e1]; exact I.set ⟨f, t, l, st, wv, aw, 0, kn, way, hf6, ht6, rfl, hst, Or.inl rfl, hw1, hw5, hlw, hway⟩
      have Io1 : fc_iO ns s1.1 := Io.same (fun c h1 h2 => by rw [e1, fc_up_ne _ (by omega)])
      rw [ep, ← e1] at hlen ⊢
      refine am_aload_n d_Ct_handleNoRoom_19 rfl (by first | exact am_rvR _ | exact am_rvN | assumption) ?_
      refine am_null d_Ct_handleNoRoom_20 ?_
      refine am_put _ d_Ct_handleNoRoom_21 f_Ct_98 (p_Ct_98 _) ho0 (by decide) rfl rfl ?_
      refine am_aload_n d_Ct_handleNoRoom_24 rfl (by first | exact am_rvR _ | exact am_rvN | assumption) ?_
      refine am_aload_n d_Ct_handleNoRoom_25 rfl (by first | exact am_rvR _ | exact am_rvN | assumption) ?_
      refine am_cV (b := A 2) d_Ct_handleNoRoom_26 v_Ct_107 (vs := [.ref a]) (st := []) rfl rfl (by decide) (Nat.le_of_ble_eq_true rfl) (cl_ctl hS1) (ct_clr hn he hS1 I1 Io1 (by rw [b1]; exact ha) hlen) ?_
      rintro v S3 ⟨rfl, hq3⟩
      refine am_vret d_Ct_handleNoRoom_29 rfl ?_
      first | (refine ⟨rfl, hq3.from hf1 (by rw [b1]; omega) (by rw [b1]; omega)⟩) | (rw [if_neg q1]; exact ⟨rfl, hid⟩)
theorem ct_gone (hn : ns ≤ 5) (he : am_gE g e) (hS : cl_P e nw ns room idle A s S) (I : fc_iK ns s.1) (Io : fc_iO ns s.1) {i : Nat} (hi : i < ns) (x z : Int32) (hlen : ∀ j, j < ns → (fc_wentOff s.1 i x z (30 + j)).length ≤ 59) : am_M g y_Ct_handleGone "(III)V" 8 179 [.ref (A 2), .int (nI i), .int x, .int z] S (fun v S' => v = none ∧ cl_Q e nw ns room idle A s S (fc_wentOff s.1 i x z) 12 910 S') := by
  have hid : cl_Q e nw ns room idle A s S s.1 12 910 S := (cl_Q.id hS).wide (by omega) (by omega)
  refine am_Mof (L0 := [some (.ref (A 2)), some (.int (nI i)), some (.int x), some (.int z), none]) pl_Ct_handleGone (am_k1 rfl (am_k1 rfl (am_k1 rfl (am_k1 rfl am_k0)))) (Nat.le_of_ble_eq_true rfl) rfl ?_
  refine am_aload_n d_Ct_handleGone_0 rfl (by first | exact am_rvR _ | exact am_rvN | assumption) ?_
  refine am_iload_n d_Ct_handleGone_1 rfl ?_
  refine am_iload_n d_Ct_handleGone_2 rfl ?_
  refine am_cV (b := A 2) d_Ct_handleGone_3 v_Ct_94 (vs := [.int x, .int z]) (st := []) rfl rfl (by decide) (Nat.le_of_ble_eq_true rfl) (cl_ctl hS) (ct_courseOf hS I x z) ?_
  rintro v S2 ⟨rfl, rfl⟩
  cases hx : fc_cix s.1 x z with
  | none =>
    refine am_astore (L1 := [_, _, _, _, _]) d_Ct_handleGone_6 (by decide) am_rvN rfl ?_
    refine am_aload d_Ct_handleGone_8 rfl (by first | exact am_rvR _ | exact am_rvN | assumption) ?_
    refine am_ifnullN (tgt := 36) d_Ct_handleGone_10 (by decide) ?_
    refine am_vret d_Ct_handleGone_36 rfl ?_
    refine ⟨rfl, ?_⟩
    unfold fc_wentOff
    rw [hx]
    exact hid
  | some k =>
    obtain ⟨a, w, f, t, l, kv, st, wv, aw, kp, kn, way, ha, hr, ho, hw, hkv, hf6, ht6, hst, hkp, hw1, hw5, hlw, hway⟩ := cl_cr hS I (fc_cix_some hx)
    have hgv : cl_cv s (some k) = Value.ref a := by
      show Value.ref ((s.2.1 7).getD k 0) = _
      rw [List.getD_eq_getElem?_getD, ha]
      rfl
    rw [hgv]
    have en : fc_wentOff s.1 i x z = if (st = 2 ∨ st = 3) ∧ way.any (fun e => e.toNatClampNeg / 4 == i) = true then fc_clr s.1 k else s.1 := by
      unfold fc_wentOff
      rw [hx]
      simp only [fc_get_row hr, fc_way_row hr]
      rfl
    rw [en] at hlen ⊢
    refine am_astore (L1 := [_, _, _, _, _]) d_Ct_handleGone_6 (by decide) (by first | exact am_rvR _ | exact am_rvN | assumption) rfl ?_
    refine am_aload d_Ct_handleGone_8 rfl (by first | exact am_rvR _ | exact am_rvN | assumption) ?_
    refine am_ifnull d_Ct_handleGone_10 ?_
    refine am_aload d_Ct_handleGone_13 rfl (by first | exact am_rvR _ | exact am_rvN | assumption) ?_
    refine am_cV (b := a) d_Ct_handleGone_15 v_Ct_156 (vs := []) (st := []) rfl rfl (by decide) (Nat.le_of_ble_eq_true rfl) ho (co_lay ho) ?_
    rintro v S2 ⟨rfl, rfl⟩
    first | refine am_if_eqB (tgt := 36) d_Ct_handleGone_18 (by decide) (fun q1 => ?_) (fun q1 => ?_) | refine am_if_eqN (tgt := 36) d_Ct_handleGone_18 (by decide) (by omega) (fun q1 => ?_) (fun q1 => ?_) | refine am_if_eq (tgt := 36) d_Ct_handleGone_18 (by decide) (fun q1 => ?_) (fun q1 => ?_)
    · refine am_vret d_Ct_handleGone_36 rfl ?_
      first | (rw [if_pos ⟨of_decide_eq_true q1, q2⟩]; exact ⟨rfl, hq3⟩) | (rw [if_neg (fun z => by rw [q2] at z; exact absurd z.2 (by decide))]; exact ⟨rfl, hid⟩) | (rw [if_neg (fun z => of_decide_eq_false q1 z.1)]; exact ⟨rfl, hid⟩)
    · refine am_aload d_Ct_handleGone_21 rfl (by first | exact am_rvR _ | exact am_rvN | assumption) ?_
      refine am_iload_n d_Ct_handleGone_23 rfl ?_
      refine am_cV (b := a) d_Ct_handleGone_24 v_Ct_191 (vs := [.int (nI i)]) (st := []) rfl rfl (by decide) (Nat.le_of_ble_eq_true rfl) ho (co_pass ho hw hw5 (by omega) (fun y hy => by obtain ⟨m, h1, h2⟩ := hway y hy; exact ⟨m, by omega, h2⟩)) ?_
      rintro v S2 ⟨rfl, rfl⟩
      first | refine am_if_eqB (tgt := 36) d_Ct_handleGone_27 (by decide) (fun q2 => ?_) (fun q2 => ?_) | refine am_if_eqN (tgt := 36) d_Ct_handleGone_27 (by decide) (by omega) (fun q2 => ?_) (fun q2 => ?_) | refine am_if_eq (tgt := 36) d_Ct_handleGone_27 (by decide) (fun q2 => ?_) (fun q2 => ?_)
      · refine am_vret d_Ct_handleGone_36 rfl ?_
        first | (rw [if_pos ⟨of_decide_eq_true q1, q2⟩]; exact ⟨rfl, hq3⟩) | (rw [if_neg (fun z => by rw [q2] at z; exact absurd z.2 (by decide))]; exact ⟨rfl, hid⟩) | (rw [if_neg (fun z => of_decide_eq_false q1 z.1)]; exact ⟨rfl, hid⟩)
      · refine am_aload_n d_Ct_handleGone_30 rfl (by first | exact am_rvR _ | exact am_rvN | assumption) ?_
        refine am_aload d_Ct_handleGone_31 rfl (by first | exact am_rvR _ | exact am_rvN | assumption) ?_
        refine am_cV (b := A 2) d_Ct_handleGone_33 v_Ct_107 (vs := [.ref a]) (st := []) rfl rfl (by decide) (Nat.le_of_ble_eq_true rfl) (cl_ctl hS) (ct_clr hn he hS I Io ha (by rw [if_pos ⟨of_decide_eq_true q1, q2⟩] at hlen; exact hlen)) ?_
        rintro v S3 ⟨rfl, hq3⟩
        refine am_vret d_Ct_handleGone_36 rfl ?_
        first | (rw [if_pos ⟨of_decide_eq_true q1, q2⟩]; exact ⟨rfl, hq3⟩) | (rw [if_neg (fun z => by rw [q2] at z; exact absurd z.2 (by decide))]; exact ⟨rfl, hid⟩) | (rw [if_neg (fun z => of_decide_eq_false q1 z.1)]; exact ⟨rfl, hid⟩)
end CTE
