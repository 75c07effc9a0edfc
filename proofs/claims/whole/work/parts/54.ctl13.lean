/-! the class: waves come back -/
section CTM
variable {g : am_G} {e nw ns room idle : Nat} {A : Nat → Nat} {s : cl_S} {S : am_S}
/-- a cleared switch is counted -/
def fc_cnt (ns : Nat) (s : fc_S) (k : Nat) : fc_S :=
  if 0 < fc_get s 7 k 4 - 1 then fc_put s 7 k 4 (fc_get s 7 k 4 - 1)
  else if fc_get s 7 k 6 = 0 ∨ (fc_wayOf ns s (fc_get s 7 k 0) (fc_get s 7 k 1)).isEmpty then fc_del s 7 k
  else fc_lay (fc_put s 7 k 4 (fc_get s 7 k 4 - 1)) k (fc_wayOf ns s (fc_get s 7 k 0) (fc_get s 7 k 1))
theorem fc_put_row {s : fc_S} {c k j : Nat} {row : List Int32} (hr : (s c)[k]? = some row) (x : Int32) : fc_put s c k j x = fc_up s c ((s c).set k (row.set j x)) := by
  unfold fc_put
  rw [List.getD_eq_getElem?_getD, hr]
  rfl
theorem fc_cnt_row {s : fc_S} {k : Nat} {f t st wv aw ld kp kn : Int32} {way : List Int32} (hr : (s 7)[k]? = some ([f, t, st, wv, aw, ld, kp, kn] ++ way)) : fc_cnt ns s k = if 0 < aw - 1 then fc_up s 7 ((s 7).set k ([f, t, st, wv, aw - 1, ld, kp, kn] ++ way)) else if kp = 0 ∨ (fc_wayOf ns s f t).isEmpty then fc_up s 7 ((s 7).eraseIdx k) else fc_lay (fc_up s 7 ((s 7).set k ([f, t, st, wv, aw - 1, ld, kp, kn] ++ way))) k (fc_wayOf ns s f t) := by
  unfold fc_cnt fc_del
  rw [fc_put_row hr, fc_get_row hr, fc_get_row hr, fc_get_row hr, fc_get_row hr]
  rfl
theorem fc_wayOf_same {s s' : fc_S} (h3 : s' 3 = s 3) (h5 : s' 5 = s 5) (f t : Int32) : fc_wayOf ns s' f t = fc_wayOf ns s f t := by
  have e3 : ∀ j, fc_get s' 3 0 j = fc_get s 3 0 j := fun j => by unfold fc_get; rw [h3]
  have e5 : ∀ j, fc_get s' 5 0 j = fc_get s 5 0 j := fun j => by unfold fc_get; rw [h5]
  have eo : fc_oth s' = fc_oth s := by funext x; unfold fc_oth; rw [e3]
  have eE : fc_E s' = fc_E s := by unfold fc_E; rw [eo]
  have el : fc_ld s' = fc_ld s := by unfold fc_ld; rw [eo]
  unfold fc_wayOf
  rw [e5, e5, eE, el]
theorem fc_iO.up7 {s : fc_S} (Io : fc_iO ns s) (rows : List (List Int32)) : fc_iO ns (fc_up s 7 rows) := by
  obtain ⟨g2, g3, g4, g5⟩ := Io
  exact ⟨by rw [fc_up_ne _ (by omega)]; exact g2, by rw [fc_up_ne _ (by omega)]; exact g3, by rw [fc_up_ne _ (by omega)]; exact g4, by rw [fc_up_ne _ (by omega)]; exact g5⟩
theorem ct_count (hn : ns ≤ 5) (he : am_gE g e) (hW : am_gW g nw) (hS : cl_P e nw ns room idle A s S) (I : fc_iK ns s.1) (Io : fc_iO ns s.1) {k a : Nat} (ha : (s.2.1 7)[k]? = some a) (hlen : ∀ u, u < ns → (s.1 (30 + u)).length + 2 < 60) : am_M g y_Ct_countDone "(LFlowFabric$Course;I)V" 8 175 [.ref (A 2), .ref a, .int (nI k)] S (fun v S' => v = none ∧ cl_Q e nw ns room idle A s S (fc_cnt ns s.1 k) 8 300 S') := by
  have hL : cl_isL ns 7 := Or.inl rfl
  have h6 := I.1
  have hl7 := (cl_list hS hL).2.1
  have hk : k < (s.1 7).length := by rw [← hl7]; exact (List.getElem?_eq_some_iff.mp ha).1
  obtain ⟨⟨x0, h2⟩, -⟩ := id Io
  obtain ⟨a', w, f, t, l, kv, st, wv, aw, kp, kn, way, ha', hr, ho, hw, hkv, hf6, ht6, hst, hkp, hw1, hwl, hlw, hway⟩ := cl_cr hS I hk
  cases ha.symm.trans ha'
  have ho0 : S.1 a = some (73, .inr (am_cCo, [.int (nI f), .int (nI t), .int st, .ref w, kv, .int wv, .int aw, .int (nI l)])) := ho
  have ec := fc_cnt_row (ns := ns) hr
  obtain ⟨s1, e1, b1, hS1, hf1⟩ := cl_setQ (st := st) (wv := wv) (aw := aw - 1) (ld := nI l) hS ha hk ho0 hw hkv
  have ho1 := am_up_at S a 73 (.inr (am_cCo, [.int (nI f), .int (nI t), .int st, .ref w, kv, .int wv, .int (aw - 1), .int (nI l)]))
  obtain ⟨S1, eS1⟩ : ∃ S1, S1 = am_up S a 73 (.inr (am_cCo, [.int (nI f), .int (nI t), .int st, .ref w, kv, .int wv, .int (aw - 1), .int (nI l)])) := ⟨_, rfl⟩
  rw [← eS1] at hS1 hf1 ho1
  have hwo : fc_wayOf ns s1.1 (nI f) (nI t) = (fc_wayOf ns s.1 (nI f) (nI t)) := fc_wayOf_same (by rw [e1, fc_up_ne _ (by omega)]) (by rw [e1, fc_up_ne _ (by omega)]) _ _
  have Io1 : fc_iO ns s1.1 := by rw [e1]; exact Io.up7 _
  have hr1 : (s1.1 7)[k]? = some ([nI f, nI t, st, wv, aw - 1, nI l, kp, kn] ++ way) := by rw [e1, fc_up_same, List.getElem?_set_self hk]
  have hk1 := (List.getElem?_eq_some_iff.mp hr1).1
  have ha1 : (s1.2.1 7)[k]? = some a := by rw [b1]; exact ha
  obtain ⟨hw5, hwe⟩ := fc_wayOf_ok hn Io hf6 ht6
  have hdel : fc_up s1.1 7 ((s1.1 7).eraseIdx k) = fc_up s.1 7 ((s.1 7).eraseIdx k) := by rw [e1, fc_up_same, fc_up_twice, List.eraseIdx_set_eq]
  refine am_Mof (L0 := [some (.ref (A 2)), some (.ref a), some (.int (nI k)), none]) pl_Ct_countDone (am_k1 rfl (am_k1 rfl (am_k1 rfl am_k0))) (Nat.le_of_ble_eq_true rfl) rfl ?_
  refine am_aload_n d_Ct_countDone_0 rfl (by first | exact am_rvR _ | exact am_rvN | assumption) ?_
  refine am_dup d_Ct_countDone_1 rfl ?_
  refine am_get d_Ct_countDone_2 f_Ct_173 ho0 (by rfl) ?_
  refine am_iconst (v := (1 : Int32)) d_Ct_countDone_5 (by decide) ?_
  refine am_isub d_Ct_countDone_6 ?_
  refine am_put _ d_Ct_countDone_7 f_Ct_173 (p_Ct_173 _) ho0 (by decide) rfl rfl ?_
  show am_W g _ _ _ _ _ _ _ (am_up S a 73 (.inr (am_cCo, [.int (nI f), .int (nI t), .int st, .ref w, kv, .int wv, .int (aw - 1), .int (nI l)])))
  rw [← eS1]
  refine am_aload_n d_Ct_countDone_10 rfl (by first | exact am_rvR _ | exact am_rvN | assumption) ?_
  refine am_get d_Ct_countDone_11 f_Ct_173 ho1 (by rfl) ?_
  refine am_if_le (tgt := 18) d_Ct_countDone_14 (by decide) (fun qa => ?_) (fun qa => ?_)
  rotate_left
  · refine am_vret d_Ct_countDone_17 rfl ?_
    refine ⟨rfl, s1, ?_, ⟨by rw [b1]; omega, by rw [b1]; omega⟩, hS1, hf1⟩
    rw [ec, if_pos (Int32.not_le.mp qa)]
    exact e1
  rw [if_neg (Int32.not_lt.mpr qa)] at ec
  rcases hkv with ⟨hkp0, rfl⟩ | ⟨hkp0, b, rfl, hb⟩
  · refine am_aload_n d_Ct_countDone_18 rfl (by first | exact am_rvR _ | exact am_rvN | assumption) ?_
    refine am_get d_Ct_countDone_19 f_Ct_98 ho1 (by rfl) ?_
    refine am_ifnonnullN d_Ct_countDone_22 ?_
    refine am_getsN (v := .ref nw) d_Ct_countDone_25 (by exact List.mem_cons_self) hW ?_
    refine am_goto (tgt := 43) d_Ct_countDone_28 (by decide) ?_
    refine am_astore_n (L1 := [_, _, _, _]) d_Ct_countDone_43 (by decide) (by first | exact am_rvR _ | exact am_rvN | assumption) rfl ?_
    refine am_aload_n d_Ct_countDone_44 rfl (by first | exact am_rvR _ | exact am_rvN | assumption) ?_
    refine am_alen (v := nI 0) d_Ct_countDone_45 am_kI_ok hS1.2.1.2.1 rfl ?_
    refine am_if_neN (tgt := 61) d_Ct_countDone_46 (by decide) (by omega) (fun q => absurd q (by omega)) (fun _ => ?_)
    refine am_aload_n d_Ct_countDone_49 rfl (by first | exact am_rvR _ | exact am_rvN | assumption) ?_
    refine am_get d_Ct_countDone_50 f_Ct_29 (cl_ctl hS1) (by rfl) ?_
    refine am_iload_n d_Ct_countDone_53 rfl ?_
    refine am_cV (b := A 7) d_Ct_countDone_54 v_Ct_181 (vs := [.int (nI k)]) (st := []) rfl rfl (by decide) (Nat.le_of_ble_eq_true rfl) (cl_list hS1 hL).1.choose_spec.choose_spec.choose_spec.choose_spec.1 (cl_remove hn hS1 hL ha1) ?_
    rintro v S3 ⟨rfl, hS3, hf3⟩
    refine am_pop d_Ct_countDone_57 rfl ?_
    refine am_goto (tgt := 71) d_Ct_countDone_58 (by decide) ?_
    refine am_vret d_Ct_countDone_71 rfl ?_
    refine ⟨rfl, _, ?_, ⟨?_, ?_⟩, hS3, hf1.trans hf3⟩
    · rw [ec, if_pos (Or.inl hkp0), ← hdel]; rfl
    · show s1.2.2.1 + 0 ≤ _; rw [b1]; omega
    · show s1.2.2.2 + 0 ≤ _; rw [b1]; omega
  refine am_aload_n d_Ct_countDone_18 rfl (by first | exact am_rvR _ | exact am_rvN | assumption) ?_
  refine am_get d_Ct_countDone_19 f_Ct_98 ho1 (by rfl) ?_
  refine am_ifnonnull (tgt := 31) d_Ct_countDone_22 (by decide) ?_
  refine am_aload_n d_Ct_countDone_31 rfl (by first | exact am_rvR _ | exact am_rvN | assumption) ?_
  refine am_aload_n d_Ct_countDone_32 rfl (by first | exact am_rvR _ | exact am_rvN | assumption) ?_
  refine am_get d_Ct_countDone_33 f_Ct_179 ho1 (by rfl) ?_
  refine am_aload_n d_Ct_countDone_36 rfl (by first | exact am_rvR _ | exact am_rvN | assumption) ?_
  refine am_get d_Ct_countDone_37 f_Ct_180 ho1 (by rfl) ?_
  refine am_cV (b := A 2) d_Ct_countDone_40 v_Ct_135 (vs := [.int (nI f), .int (nI t)]) (st := []) rfl rfl (by decide) (Nat.le_of_ble_eq_true rfl) (cl_ctl hS1) (ct_findWay hn hW hS1 Io1 hf6 ht6) ?_
  rintro v S2 ⟨q, rfl, hq, s2, e2, ⟨c2, b21, b22⟩, hS2, hf2⟩
  rw [hwo] at hq
  rw [b1] at b21 b22
  have ha2 : (s2.2.1 7)[k]? = some a := by rw [c2]; exact ha1
  have hr2 : (s2.1 7)[k]? = some ([nI f, nI t, st, wv, aw - 1, nI l, kp, kn] ++ way) := by rw [e2]; exact hr1
  obtain ⟨a'', w', kv', ha'', ho2, hw2, hkv2⟩ := cl_cr2 hS2 hr2
  cases ha2.symm.trans ha''
  have hk2 := (List.getElem?_eq_some_iff.mp hr2).1
  refine am_astore_n (L1 := [_, _, _, _]) d_Ct_countDone_43 (by decide) (by first | exact am_rvR _ | exact am_rvN | assumption) rfl ?_
  refine am_aload_n d_Ct_countDone_44 rfl (by first | exact am_rvR _ | exact am_rvN | assumption) ?_
  refine am_alen (v := nI (fc_wayOf ns s.1 (nI f) (nI t)).length) d_Ct_countDone_45 am_kI_ok hq (by rw [List.length_map]; rfl) ?_
  have hw31 : (fc_wayOf ns s.1 (nI f) (nI t)).length < 2 ^ 31 := by omega
  first | refine am_if_neB (tgt := 61) d_Ct_countDone_46 (by decide) (fun q1 => ?_) (fun q1 => ?_) | refine am_if_neN (tgt := 61) d_Ct_countDone_46 (by decide) (by omega) (fun q1 => ?_) (fun q1 => ?_) | refine am_if_ne (tgt := 61) d_Ct_countDone_46 (by decide) (fun q1 => ?_) (fun q1 => ?_)
  · refine am_aload_n d_Ct_countDone_61 rfl (by first | exact am_rvR _ | exact am_rvN | assumption) ?_
    refine am_aload_n d_Ct_countDone_62 rfl (by first | exact am_rvR _ | exact am_rvN | assumption) ?_
    refine am_cV (b := a) d_Ct_countDone_63 v_Ct_141 (vs := [.ref q]) (st := []) rfl rfl (by decide) (Nat.le_of_ble_eq_true rfl) ho2 (co_begin ho2 hq) ?_
    rintro v S4 ⟨rfl, rfl⟩
    obtain ⟨s4, e4, b4, hS4, hf4⟩ := cl_setQ (st := 2) (wv := wv) (aw := aw - 1) (ld := nI (fc_wayOf ns s.1 (nI f) (nI t)).length) hS2 ha2 hk2 ho2 hq hkv2
    obtain ⟨m, hm, hx⟩ := fc_last (by assumption) hwe
    have hi : m / 4 < ns := by omega
    have hr4 : (s4.1 7)[k]? = some ([nI f, nI t, 2, wv, aw - 1, nI ((fc_wayOf ns s.1 (nI f) (nI t)).length - 1 + 1), kp, kn] ++ (fc_wayOf ns s.1 (nI f) (nI t))) := by rw [e4, fc_up_same, List.getElem?_set_self hk2, show (fc_wayOf ns s.1 (nI f) (nI t)).length - 1 + 1 = (fc_wayOf ns s.1 (nI f) (nI t)).length by omega]
    have h24 : s4.1 2 = [[x0]] := by rw [e4, fc_up_ne _ (by omega), e2, e1, fc_up_ne _ (by omega), h2]
    have hl4 : (s4.1 (30 + m / 4)).length + 2 < 60 := by
      have z := hlen _ hi
      rw [e4, fc_up_ne _ (by omega), e2, e1, fc_up_ne _ (by omega)]
      exact z
    refine am_aload_n d_Ct_countDone_66 rfl (by first | exact am_rvR _ | exact am_rvN | assumption) ?_
    refine am_aload_n d_Ct_countDone_67 rfl (by first | exact am_rvR _ | exact am_rvN | assumption) ?_
    refine am_cV (b := A 2) d_Ct_countDone_68 v_Ct_145 (vs := [.ref a]) (st := []) rfl rfl (by decide) (Nat.le_of_ble_eq_true rfl) (cl_ctl hS4) (ct_lead hn he hS4 h24 hr4 (by rw [b4]; exact ha2) hw5 hx hm hl4) ?_
    rintro v S5 ⟨rfl, s5, e5, ⟨b51, b52⟩, hS5, hf5⟩
    rw [b4] at b51 b52
    refine am_vret d_Ct_countDone_71 rfl ?_
    first
      | (refine ⟨rfl, s5, ?_, ⟨by omega, by omega⟩, hS5, (((hf1.trans hf2).trans hf4).trans hf5)⟩
         rw [ec, if_neg (fun z => z.elim hkp0 (by rw [List.isEmpty_iff_length_eq_zero]; assumption)), e5, e4, e2, ← e1]
         exact (fc_lay_row hr1 _).symm)
      | (refine ⟨rfl, _, ?_, ⟨?_, ?_⟩, hS3, (hf1.trans hf2).trans hf3⟩
         · rw [ec, if_pos (Or.inr (by rw [List.isEmpty_iff_length_eq_zero]; assumption)), ← hdel, ← e2]; rfl
         · show s2.2.2.1 + 0 ≤ _; omega
         · show s2.2.2.2 + 0 ≤ _; omega)
  · refine am_aload_n d_Ct_countDone_49 rfl (by first | exact am_rvR _ | exact am_rvN | assumption) ?_
    refine am_get d_Ct_countDone_50 f_Ct_29 (cl_ctl hS2) (by rfl) ?_
    refine am_iload_n d_Ct_countDone_53 rfl ?_
    refine am_cV (b := A 7) d_Ct_countDone_54 v_Ct_181 (vs := [.int (nI k)]) (st := []) rfl rfl (by decide) (Nat.le_of_ble_eq_true rfl) (cl_list hS2 hL).1.choose_spec.choose_spec.choose_spec.choose_spec.1 (cl_remove hn hS2 hL ha2) ?_
    rintro v S3 ⟨rfl, hS3, hf3⟩
    refine am_pop d_Ct_countDone_57 rfl ?_
    refine am_goto (tgt := 71) d_Ct_countDone_58 (by decide) ?_
    refine am_vret d_Ct_countDone_71 rfl ?_
    first
      | (refine ⟨rfl, s5, ?_, ⟨by omega, by omega⟩, hS5, (((hf1.trans hf2).trans hf4).trans hf5)⟩
         rw [ec, if_neg (fun z => z.elim hkp0 (by rw [List.isEmpty_iff_length_eq_zero]; assumption)), e5, e4, e2, ← e1]
         exact (fc_lay_row hr1 _).symm)
      | (refine ⟨rfl, _, ?_, ⟨?_, ?_⟩, hS3, (hf1.trans hf2).trans hf3⟩
         · rw [ec, if_pos (Or.inr (by rw [List.isEmpty_iff_length_eq_zero]; assumption)), ← hdel, ← e2]; rfl
         · show s2.2.2.1 + 0 ≤ _; omega
         · show s2.2.2.2 + 0 ≤ _; omega)
theorem am_pos {l : Nat} (h : l < 2 ^ 31) (h0 : 0 < l) : (0 : Int32) < nI l := by
  have h1 := nI_pos h
  have h2 := nI_ne0 h0 h
  rw [Int32.not_lt] at h1
  exact Int32.lt_of_le_of_ne h1 (Ne.symm h2)
theorem am_npos {l : Nat} (h : l ≤ 0) : ¬ (0 : Int32) < nI l := by
  have e : l = 0 := by omega
  subst e
  decide
theorem ct_done (hn : ns ≤ 5) (he : am_gE g e) (hW : am_gW g nw) (hS : cl_P e nw ns room idle A s S) (I : fc_iK ns s.1) (Io : fc_iO ns s.1) (x : Int32) (hlen : ∀ u, u < ns → (s.1 (30 + u)).length + 2 < 60) : am_M g y_Ct_handleDone "(I)V" 9 198 [.ref (A 2), .int x] S (fun v S' => v = none ∧ cl_Q e nw ns room idle A s S (fc_done ns s.1 x) 8 300 S') := by
  have hL : cl_isL ns 7 := Or.inl rfl
  have h6 := I.1
  obtain ⟨⟨x0, h2⟩, -⟩ := id Io
  have key : ∀ (m k : Nat) (o3 : Option Value), k + m = (s.1 7).length → (∀ (j : Nat) (r : List Int32), j < k → (s.1 7)[j]? = some r → (r.getD 3 0 == x) = false) → am_W g y_Ct_handleDone 9 198 (fun v S' => v = none ∧ cl_Q e nw ns room idle A s S (fc_done ns s.1 x) 8 300 S') 2 [some (.ref (A 2)), some (.int x), some (.int (nI k)), o3] [] S := by
    intro m
    induction m with
    | zero =>
      intro k o3 hk hj
      refine am_iload_n d_Ct_handleDone_2 rfl ?_
      refine am_aload_n d_Ct_handleDone_3 rfl (by first | exact am_rvR _ | exact am_rvN | assumption) ?_
      refine am_get d_Ct_handleDone_4 f_Ct_29 (cl_ctl hS) (by rfl) ?_
      refine am_cV (b := A 7) d_Ct_handleDone_7 v_Ct_123 (vs := []) (st := [.int (nI k)]) rfl rfl (by decide) (Nat.le_of_ble_eq_true rfl) (cl_list hS hL).1.choose_spec.choose_spec.choose_spec.choose_spec.1 (cl_size hS hL) ?_
      rintro v S9 ⟨rfl, hS9⟩
      rw [hS9]
      refine am_icmp_geN (tgt := 93) d_Ct_handleDone_10 (by decide) (by omega) (by omega) (fun _ => ?_) (fun q => absurd q (by omega))
      refine am_vret d_Ct_handleDone_93 rfl ?_
      refine ⟨rfl, ?_⟩
      unfold fc_done
      rw [fc_ix_none (fun j r hr => hj j r (by have := (List.getElem?_eq_some_iff.mp hr).1; omega) hr)]
      exact (cl_Q.id hS).wide (by omega) (by omega)
    | succ m ih =>
      intro k o3 hk hj
      obtain ⟨a, w, f, t, l, kv, st, wv, aw, kp, kn, way, ha, hr, ho, hw, hkv, hf6, ht6, hst, hkp, hw1, hw5, hlw, hway⟩ := cl_cr hS I (k := k) (by omega)
      have ho0 : S.1 a = some (73, .inr (am_cCo, [.int (nI f), .int (nI t), .int st, .ref w, kv, .int wv, .int aw, .int (nI l)])) := ho
      have hd : wv = x → fc_done ns s.1 x = if st = 1 then fc_cnt ns s.1 k else if st = 2 then (if 0 < nI l then fc_lead s.1 k else fc_fin s.1 k) else s.1 := by
        intro e
        unfold fc_done
        rw [fc_ix_some hr (by show (wv == x) = true; rw [e]; simp) hj]
        show (if fc_get s.1 7 k 2 = 1 then fc_cnt ns s.1 k else if fc_get s.1 7 k 2 = 2 then (if 0 < fc_get s.1 7 k 5 then fc_lead s.1 k else fc_fin s.1 k) else s.1) = _
        rw [fc_get_row hr, fc_get_row hr]
        rfl
      refine am_iload_n d_Ct_handleDone_2 rfl ?_
      refine am_aload_n d_Ct_handleDone_3 rfl (by first | exact am_rvR _ | exact am_rvN | assumption) ?_
      refine am_get d_Ct_handleDone_4 f_Ct_29 (cl_ctl hS) (by rfl) ?_
      refine am_cV (b := A 7) d_Ct_handleDone_7 v_Ct_123 (vs := []) (st := [.int (nI k)]) rfl rfl (by decide) (Nat.le_of_ble_eq_true rfl) (cl_list hS hL).1.choose_spec.choose_spec.choose_spec.choose_spec.1 (cl_size hS hL) ?_
      rintro v S9 ⟨rfl, hS9⟩
      rw [hS9]
      refine am_icmp_geN (tgt := 93) d_Ct_handleDone_10 (by decide) (by omega) (by omega) (fun q => absurd q (by omega)) (fun _ => ?_)
      refine am_aload_n d_Ct_handleDone_13 rfl (by first | exact am_rvR _ | exact am_rvN | assumption) ?_
      refine am_get d_Ct_handleDone_14 f_Ct_29 (cl_ctl hS) (by rfl) ?_
      refine am_iload_n d_Ct_handleDone_17 rfl ?_
      refine am_cV (b := A 7) d_Ct_handleDone_18 v_Ct_148 (vs := [.int (nI k)]) (st := []) rfl rfl (by decide) (Nat.le_of_ble_eq_true rfl) (cl_list hS hL).1.choose_spec.choose_spec.choose_spec.choose_spec.1 (cl_getM hS hL ha) ?_
      rintro v S9 ⟨rfl, hS9⟩
      rw [hS9]
      refine am_cast d_Ct_handleDone_21 k_Ct_99 (q := am_qCo) rfl (Or.inl rfl) ho0 ?_
      refine am_astore_n (L1 := [_, _, _, _]) d_Ct_handleDone_24 (by decide) (by first | exact am_rvR _ | exact am_rvN | assumption) rfl ?_
      refine am_aload_n d_Ct_handleDone_25 rfl (by first | exact am_rvR _ | exact am_rvN | assumption) ?_
      refine am_get d_Ct_handleDone_26 f_Ct_160 ho0 (by rfl) ?_
      refine am_iload_n d_Ct_handleDone_29 rfl ?_
      refine am_icmp_ne (tgt := 87) d_Ct_handleDone_30 (by decide) (fun qw => ?_) (fun qw => ?_)
      · first | refine am_iincN (b := 1) (L1 := [_, _, _, _]) d_Ct_handleDone_87 rfl (by decide) (by decide) rfl ?_ | refine am_iinc (L1 := [_, _, _, _]) d_Ct_handleDone_87 rfl rfl (by decide) rfl ?_
        refine am_goto (tgt := 2) d_Ct_handleDone_90 (by decide) ?_
        refine ih (k + 1) _ (by omega) (fun j r hj2 hr2 => ?_)
        by_cases ej : j = k
        · subst ej
          cases hr.symm.trans hr2
          exact beq_eq_false_iff_ne.mpr qw
        · exact hj j r (by omega) hr2
      · refine am_aload_n d_Ct_handleDone_33 rfl (by first | exact am_rvR _ | exact am_rvN | assumption) ?_
        refine am_get d_Ct_handleDone_34 f_Ct_104 ho0 (by rfl) ?_
        refine am_iconst (v := (1 : Int32)) d_Ct_handleDone_37 (by decide) ?_
        first | refine am_icmp_neN (tgt := 50) d_Ct_handleDone_38 (by decide) (by omega) (by omega) (fun q1 => ?_) (fun q1 => ?_) | refine am_icmp_ne (tgt := 50) d_Ct_handleDone_38 (by decide) (fun q1 => ?_) (fun q1 => ?_)
        · refine am_aload_n d_Ct_handleDone_50 rfl (by first | exact am_rvR _ | exact am_rvN | assumption) ?_
          refine am_get d_Ct_handleDone_51 f_Ct_104 ho0 (by rfl) ?_
          refine am_iconst (v := (2 : Int32)) d_Ct_handleDone_54 (by decide) ?_
          first | refine am_icmp_neN (tgt := 73) d_Ct_handleDone_55 (by decide) (by omega) (by omega) (fun q2 => ?_) (fun q2 => ?_) | refine am_icmp_ne (tgt := 73) d_Ct_handleDone_55 (by decide) (fun q2 => ?_) (fun q2 => ?_)
          · refine am_aload_n d_Ct_handleDone_73 rfl (by first | exact am_rvR _ | exact am_rvN | assumption) ?_
            refine am_get d_Ct_handleDone_74 f_Ct_104 ho0 (by rfl) ?_
            refine am_iconst (v := (2 : Int32)) d_Ct_handleDone_77 (by decide) ?_
            first | refine am_icmp_neN (tgt := 86) d_Ct_handleDone_78 (by decide) (by omega) (by omega) (fun q3 => ?_) (fun q3 => ?_) | refine am_icmp_ne (tgt := 86) d_Ct_handleDone_78 (by decide) (fun q3 => ?_) (fun q3 => ?_)
            · refine am_vret d_Ct_handleDone_86 rfl ?_
              refine ⟨rfl, ?_⟩
              rw [hd (by assumption)]
              first
                | (rw [if_pos (by assumption)]; exact h5)
                | (rw [if_neg (by assumption), if_neg (by assumption)]; exact (cl_Q.id hS).wide (by omega) (by omega))
                | (rw [if_neg (by assumption), if_pos (by assumption), if_pos (am_pos (by omega) (by omega))]; exact h5.wide (by omega) (by omega))
                | (rw [if_neg (by assumption), if_pos (by assumption), if_neg (am_npos (by omega))]; exact h5.wide (by omega) (by omega))
                | (exfalso; first | exact absurd (by assumption) (by assumption : ¬ st = 2))
            · refine am_aload_n d_Ct_handleDone_81 rfl (by first | exact am_rvR _ | exact am_rvN | assumption) ?_
              refine am_aload_n d_Ct_handleDone_82 rfl (by first | exact am_rvR _ | exact am_rvN | assumption) ?_
              obtain ⟨y, hy4, hy⟩ : ∃ y, y < 4 * ns ∧ way[0]? = some (nI y) := by
                obtain ⟨y, h1, h2⟩ := hway _ (List.getElem_mem (by omega : 0 < way.length))
                exact ⟨y, h1, by rw [List.getElem?_eq_getElem (by omega), h2]⟩
              refine am_cV (b := A 2) d_Ct_handleDone_83 v_Ct_170 (vs := [.ref a]) (st := []) rfl rfl (by decide) (Nat.le_of_ble_eq_true rfl) (cl_ctl hS) (ct_fin hn he hS hr ha hw5 hy hy4 (by have := hlen _ (show y / 4 < ns by omega); omega)) ?_
              rintro v S5 ⟨rfl, h5⟩
              refine am_vret d_Ct_handleDone_86 rfl ?_
              refine ⟨rfl, ?_⟩
              rw [hd (by assumption)]
              first
                | (rw [if_pos (by assumption)]; exact h5)
                | (rw [if_neg (by assumption), if_neg (by assumption)]; exact (cl_Q.id hS).wide (by omega) (by omega))
                | (rw [if_neg (by assumption), if_pos (by assumption), if_pos (am_pos (by omega) (by omega))]; exact h5.wide (by omega) (by omega))
                | (rw [if_neg (by assumption), if_pos (by assumption), if_neg (am_npos (by omega))]; exact h5.wide (by omega) (by omega))
                | (exfalso; first | exact absurd (by assumption) (by assumption : ¬ st = 2))
          · refine am_aload_n d_Ct_handleDone_58 rfl (by first | exact am_rvR _ | exact am_rvN | assumption) ?_
            refine am_get d_Ct_handleDone_59 f_Ct_167 ho0 (by rfl) ?_
            first | refine am_if_leN (tgt := 73) d_Ct_handleDone_62 (by decide) (by omega) (fun q4 => ?_) (fun q4 => ?_) | refine am_if_le (tgt := 73) d_Ct_handleDone_62 (by decide) (fun q4 => ?_) (fun q4 => ?_)
            · refine am_aload_n d_Ct_handleDone_73 rfl (by first | exact am_rvR _ | exact am_rvN | assumption) ?_
              refine am_get d_Ct_handleDone_74 f_Ct_104 ho0 (by rfl) ?_
              refine am_iconst (v := (2 : Int32)) d_Ct_handleDone_77 (by decide) ?_
              first | refine am_icmp_neN (tgt := 86) d_Ct_handleDone_78 (by decide) (by omega) (by omega) (fun q5 => ?_) (fun q5 => ?_) | refine am_icmp_ne (tgt := 86) d_Ct_handleDone_78 (by decide) (fun q5 => ?_) (fun q5 => ?_)
              · refine am_vret d_Ct_handleDone_86 rfl ?_
                refine ⟨rfl, ?_⟩
                rw [hd (by assumption)]
                first
                  | (rw [if_pos (by assumption)]; exact h5)
                  | (rw [if_neg (by assumption), if_neg (by assumption)]; exact (cl_Q.id hS).wide (by omega) (by omega))
                  | (rw [if_neg (by assumption), if_pos (by assumption), if_pos (am_pos (by omega) (by omega))]; exact h5.wide (by omega) (by omega))
                  | (rw [if_neg (by assumption), if_pos (by assumption), if_neg (am_npos (by omega))]; exact h5.wide (by omega) (by omega))
                  | (exfalso; first | exact absurd (by assumption) (by assumption : ¬ st = 2))
              · refine am_aload_n d_Ct_handleDone_81 rfl (by first | exact am_rvR _ | exact am_rvN | assumption) ?_
                refine am_aload_n d_Ct_handleDone_82 rfl (by first | exact am_rvR _ | exact am_rvN | assumption) ?_
                obtain ⟨y, hy4, hy⟩ : ∃ y, y < 4 * ns ∧ way[0]? = some (nI y) := by
                  obtain ⟨y, h1, h2⟩ := hway _ (List.getElem_mem (by omega : 0 < way.length))
                  exact ⟨y, h1, by rw [List.getElem?_eq_getElem (by omega), h2]⟩
                refine am_cV (b := A 2) d_Ct_handleDone_83 v_Ct_170 (vs := [.ref a]) (st := []) rfl rfl (by decide) (Nat.le_of_ble_eq_true rfl) (cl_ctl hS) (ct_fin hn he hS hr ha hw5 hy hy4 (by have := hlen _ (show y / 4 < ns by omega); omega)) ?_
                rintro v S5 ⟨rfl, h5⟩
                refine am_vret d_Ct_handleDone_86 rfl ?_
                refine ⟨rfl, ?_⟩
                rw [hd (by assumption)]
                first
                  | (rw [if_pos (by assumption)]; exact h5)
                  | (rw [if_neg (by assumption), if_neg (by assumption)]; exact (cl_Q.id hS).wide (by omega) (by omega))
                  | (rw [if_neg (by assumption), if_pos (by assumption), if_pos (am_pos (by omega) (by omega))]; exact h5.wide (by omega) (by omega))
                  | (rw [if_neg (by assumption), if_pos (by assumption), if_neg (am_npos (by omega))]; exact h5.wide (by omega) (by omega))
                  | (exfalso; first | exact absurd (by assumption) (by assumption : ¬ st = 2))
            · refine am_aload_n d_Ct_handleDone_65 rfl (by first | exact am_rvR _ | exact am_rvN | assumption) ?_
              refine am_aload_n d_Ct_handleDone_66 rfl (by first | exact am_rvR _ | exact am_rvN | assumption) ?_
              obtain ⟨l', rfl⟩ : ∃ l', l = l' + 1 := ⟨l - 1, by omega⟩
              obtain ⟨y, hy4, hy⟩ : ∃ y, y < 4 * ns ∧ way[l']? = some (nI y) := by
                obtain ⟨y, h1, h2⟩ := hway _ (List.getElem_mem (by omega : l' < way.length))
                exact ⟨y, h1, by rw [List.getElem?_eq_getElem (by omega), h2]⟩
              refine am_cV (b := A 2) d_Ct_handleDone_67 v_Ct_145 (vs := [.ref a]) (st := []) rfl rfl (by decide) (Nat.le_of_ble_eq_true rfl) (cl_ctl hS) (ct_lead hn he hS h2 hr ha hw5 hy hy4 (hlen _ (by omega))) ?_
              rintro v S5 ⟨rfl, h5⟩
              refine am_goto (tgt := 86) d_Ct_handleDone_70 (by decide) ?_
              refine am_vret d_Ct_handleDone_86 rfl ?_
              refine ⟨rfl, ?_⟩
              rw [hd (by assumption)]
              first
                | (rw [if_pos (by assumption)]; exact h5)
                | (rw [if_neg (by assumption), if_neg (by assumption)]; exact (cl_Q.id hS).wide (by omega) (by omega))
                | (rw [if_neg (by assumption), if_pos (by assumption), if_pos (am_pos (by omega) (by omega))]; exact h5.wide (by omega) (by omega))
                | (rw [if_neg (by assumption), if_pos (by assumption), if_neg (am_npos (by omega))]; exact h5.wide (by omega) (by omega))
                | (exfalso; first | exact absurd (by assumption) (by assumption : ¬ st = 2))
        · refine am_aload_n d_Ct_handleDone_41 rfl (by first | exact am_rvR _ | exact am_rvN | assumption) ?_
          refine am_aload_n d_Ct_handleDone_42 rfl (by first | exact am_rvR _ | exact am_rvN | assumption) ?_
          refine am_iload_n d_Ct_handleDone_43 rfl ?_
          refine am_cV (b := A 2) d_Ct_handleDone_44 v_Ct_163 (vs := [.ref a, .int (nI k)]) (st := []) rfl rfl (by decide) (Nat.le_of_ble_eq_true rfl) (cl_ctl hS) (ct_count hn he hW hS I Io ha hlen) ?_
          rintro v S5 ⟨rfl, h5⟩
          have qz := True.intro
          refine am_goto (tgt := 86) d_Ct_handleDone_47 (by decide) ?_
          refine am_vret d_Ct_handleDone_86 rfl ?_
          refine ⟨rfl, ?_⟩
          rw [hd (by assumption)]
          first
            | (rw [if_pos (by assumption)]; exact h5)
            | (rw [if_neg (by assumption), if_neg (by assumption)]; exact (cl_Q.id hS).wide (by omega) (by omega))
            | (rw [if_neg (by assumption), if_pos (by assumption), if_pos (am_pos (by omega) (by omega))]; exact h5.wide (by omega) (by omega))
            | (rw [if_neg (by assumption), if_pos (by assumption), if_neg (am_npos (by omega))]; exact h5.wide (by omega) (by omega))
            | (exfalso; first | exact absurd (by assumption) (by assumption : ¬ st = 2))
      
  refine am_Mof (L0 := [some (.ref (A 2)), some (.int x), none, none]) pl_Ct_handleDone (am_k1 rfl (am_k1 rfl am_k0)) (Nat.le_of_ble_eq_true rfl) rfl ?_
  refine am_iconst (v := nI 0) d_Ct_handleDone_0 (by decide) ?_
  refine am_istore_n (L1 := [_, _, _, _]) d_Ct_handleDone_1 (by decide) rfl ?_
  exact key _ 0 _ (Nat.zero_add _) (fun j r hj => absurd hj (Nat.not_lt_zero _))
end CTM
