/-! the class: the end that leads on -/
section CTJ
variable {g : am_G} {e nw ns room idle : Nat} {A : Nat → Nat} {s : cl_S} {S : am_S}
theorem fc_enc_iff {o : Option Nat} {k : Nat} (hk : k < 1000) (ho : ∀ j, o = some j → j < 1000) : fc_enc o = nI k ↔ o = some k := by
  cases o with
  | none => exact ⟨fun z => absurd z.symm (cl_ix_ne (by omega)), fun z => by cases z⟩
  | some j =>
    have := ho j rfl
    show nI j = nI k ↔ _
    rw [nI_eq (by omega) (by omega)]
    exact ⟨fun z => by rw [z], fun z => by cases z; rfl⟩
/-- port p leads one step nearer, to end o -/
def fc_cand (ns v k u : Nat) (s : fc_S) (p o : Nat) : Prop := p < 4 ∧ fc_oth s (4 * u + p) = some o ∧ pw_wk ns (fc_E s) k (o / 4) v = true
def fc_bI (ns v k u : Nat) (s : fc_S) (p b ob : Nat) : Prop := b < p ∧ fc_cand ns v k u s b ob ∧ ∀ p', p' < p → ∀ o', fc_cand ns v k u s p' o' → ob / 4 ≤ o' / 4 ∧ (p' < b → ob / 4 < o' / 4)
def fc_bN (ns v k u : Nat) (s : fc_S) (p : Nat) : Prop := ∀ p', p' < p → ∀ o', ¬ fc_cand ns v k u s p' o'
theorem fc_cand.one {v k u p o o' : Nat} {s : fc_S} (h : fc_cand ns v k u s p o) (h' : fc_cand ns v k u s p o') : o' = o := by
  have := h.2.1.symm.trans h'.2.1
  cases this
  rfl
theorem fc_bN.no {v k u p : Nat} {s : fc_S} (H : fc_bN ns v k u s p) (h : ∀ o, ¬ fc_cand ns v k u s p o) : fc_bN ns v k u s (p + 1) := by
  intro p' hp' o' hc
  by_cases z : p' = p
  · subst z; exact h o' hc
  · exact H p' (by omega) o' hc
theorem fc_bN.yes {v k u p o : Nat} {s : fc_S} (H : fc_bN ns v k u s p) (h : fc_cand ns v k u s p o) : fc_bI ns v k u s (p + 1) p o := by
  refine ⟨by omega, h, fun p' hp' o' hc => ?_⟩
  by_cases z : p' = p
  · subst z
    rw [h.one hc]
    exact ⟨Nat.le_refl _, fun z => absurd z (Nat.lt_irrefl _)⟩
  · exact absurd hc (H p' (by omega) o')
theorem fc_bI.no {v k u p b ob : Nat} {s : fc_S} (H : fc_bI ns v k u s p b ob) (h : ∀ o, fc_cand ns v k u s p o → ob / 4 ≤ o / 4) : fc_bI ns v k u s (p + 1) b ob := by
  refine ⟨by have := H.1; omega, H.2.1, fun p' hp' o' hc => ?_⟩
  by_cases z : p' = p
  · subst z
    exact ⟨h o' hc, fun z => absurd z (by have := H.1; omega)⟩
  · exact H.2.2 p' (by omega) o' hc
theorem fc_bI.yes {v k u p b ob o : Nat} {s : fc_S} (H : fc_bI ns v k u s p b ob) (h : fc_cand ns v k u s p o) (hl : o / 4 < ob / 4) : fc_bI ns v k u s (p + 1) p o := by
  refine ⟨by omega, h, fun p' hp' o' hc => ?_⟩
  by_cases z : p' = p
  · subst z
    rw [h.one hc]
    exact ⟨Nat.le_refl _, fun z => absurd z (Nat.lt_irrefl _)⟩
  · have := (H.2.2 p' (by omega) o' hc).1
    exact ⟨by omega, fun _ => by omega⟩
theorem fc_cand_of {v k u q : Nat} {s : fc_S} (h1 : fc_E s u q = true) (h2 : pw_wk ns (fc_E s) k q v = true) : ∃ p o, fc_cand ns v k u s p o ∧ o / 4 = q := by
  obtain ⟨p, hp, o, h3, rfl⟩ := fc_E_iff.mp h1
  exact ⟨p, o, ⟨hp, h3, h2⟩, rfl⟩
theorem fc_bN.end {v k u : Nat} {s : fc_S} (H : fc_bN ns v k u s 4) : ¬ pw_wk ns (fc_E s) (k + 1) u v = true := by
  intro h
  obtain ⟨h1, h2, h3⟩ := pw_nx_ok h
  obtain ⟨p, o, hc, -⟩ := fc_cand_of h2 h3
  exact H p hc.1 o hc
/-- the best end is that of the least switch, by the least port -/
theorem fc_bI.end {v k u b ob : Nat} {s : fc_S} (hn : ns ≤ 5) (Io : fc_iO ns s) (hu : u < ns) (H : fc_bI ns v k u s 4 b ob) (h : pw_wk ns (fc_E s) (k + 1) u v = true) : b = fc_ld s u (pw_nx ns (fc_E s) k u v) ∧ ob / 4 = pw_nx ns (fc_E s) k u v := by
  obtain ⟨h1, h2, h3⟩ := pw_nx_ok h
  obtain ⟨p, o, hc, eo⟩ := fc_cand_of h2 h3
  have hb := H.2.1
  have hbo := (fc_oth_lt hn Io (by have := hb.1; omega) hb.2.1).1
  have l1 : pw_nx ns (fc_E s) k u v ≤ ob / 4 := pw_nx_least (by omega) (fc_E_iff.mpr ⟨b, hb.1, ob, hb.2.1, rfl⟩) hb.2.2
  have l2 := (H.2.2 p hc.1 o hc).1
  have e1 : ob / 4 = pw_nx ns (fc_E s) k u v := by omega
  refine ⟨?_, e1⟩
  have l3 : fc_ld s u (pw_nx ns (fc_E s) k u v) ≤ b := pw_least_lt hb.1 (by rw [hb.2.1]; simp [e1])
  by_cases z : fc_ld s u (pw_nx ns (fc_E s) k u v) < b
  · have h4 : fc_ld s u (pw_nx ns (fc_E s) k u v) < 4 := by have := hb.1; omega
    have h5 := (pw_least_spec (fun p => (fc_oth s (4 * u + p)).any (fun e => e / 4 == pw_nx ns (fc_E s) k u v)) 4).1 h4
    rw [Option.any_eq_true] at h5
    obtain ⟨o', h6, h7⟩ := h5
    have h8 : o' / 4 = pw_nx ns (fc_E s) k u v := by simpa using h7
    have h9 := (H.2.2 _ h4 o' ⟨h4, h6, by rw [h8]; exact h3⟩).2 z
    omega
  · omega
theorem ct_next (hn : ns ≤ 5) (hS : cl_P e nw ns room idle A s S) (Io : fc_iO ns s.1) {v u k : Nat} {h : Nat → Int32} (h6 : S.1 (A 6) = some (61, .inl (am_kI, fr_ls ns h))) (hh : ∀ u, u < ns → h u = fc_enc (pw_L ns (fc_E s.1) v ns u)) (hu : u < ns) (hL : pw_L ns (fc_E s.1) v ns u = some (k + 1)) : am_M g y_Ct_nextEnd "(I)I" 1 21 [.ref (A 2), .int (nI u)] S (fun v' S' => v' = some (.int (nI (4 * u + fc_ld s.1 u (pw_nx ns (fc_E s.1) k u v)))) ∧ S' = S) := by
  have Io' := Io
  obtain ⟨-, ⟨ot, h3, h3l, h3e⟩, -⟩ := Io'
  have h3c := cl_at3 hS h3
  have hk5 := (pw_L_some.mp hL).1
  have hwk := (pw_L_some.mp hL).2.1
  have hu1 : h u = nI (k + 1) := by rw [hh u hu, hL]; rfl
  have hnear : ∀ p o, p < 4 → fc_oth s.1 (4 * u + p) = some o → (h (o / 4) = nI k ↔ pw_wk ns (fc_E s.1) k (o / 4) v = true) := by
    intro p o hp ho
    have ho4 := (fc_oth_lt hn Io (by omega) ho).1
    rw [hh _ (by omega), fc_enc_iff (by omega) (fun j hj => by have := (pw_L_some.mp hj).1; omega)]
    exact pw_near hL (by omega) (fc_E_iff.mpr ⟨p, hp, o, ho, rfl⟩)
  have key : ∀ (m p : Nat) (best : Int32) (o4 o5 o6 : Option Value), p + m = 4 → ((best = -1 ∧ fc_bN ns v k u s.1 p) ∨ ∃ b ob, best = nI (4 * u + b) ∧ fc_bI ns v k u s.1 p b ob) → am_W g y_Ct_nextEnd 1 21 (fun v' S' => v' = some (.int (nI (4 * u + fc_ld s.1 u (pw_nx ns (fc_E s.1) k u v)))) ∧ S' = S) 4 [some (.ref (A 2)), some (.int (nI u)), some (.int best), some (.int (nI p)), o4, o5, o6] [] S := by
    intro m
    induction m with
    | zero =>
      intro p best o4 o5 o6 hp H
      have ep : p = 4 := by omega
      subst ep
      refine am_iload_n d_Ct_nextEnd_4 rfl ?_
      refine am_iconst (v := nI 4) d_Ct_nextEnd_5 (by decide) ?_
      refine am_icmp_geN (tgt := 95) d_Ct_nextEnd_6 (by decide) (by omega) (by omega) (fun _ => ?_) (fun q => absurd q (by omega))
      refine am_iload_n d_Ct_nextEnd_95 rfl ?_
      refine am_iret d_Ct_nextEnd_96 rfl rfl ?_
      refine ⟨?_, rfl⟩
      rcases H with ⟨-, H⟩ | ⟨b, ob, rfl, H⟩
      · exact absurd hwk H.end
      · rw [(H.end hn Io hu hwk).1]
    | succ m ih =>
      intro p best o4 o5 o6 hp H
      have hgx := fc_get3 h3 (4 * u + p)
      have hend : fc_end ns (ot.getD (4 * u + p) 0) := h3e _ (by rw [List.getD_eq_getElem?_getD, List.getElem?_eq_getElem (by omega)]; exact List.getElem_mem _)
      rcases hend with hend | ⟨o, ho4, hend⟩
      · have hno : ∀ o, ¬ fc_cand ns v k u s.1 p o := fun o z => by
          have z2 := z.2.1
          rw [fc_oth_no (by rw [hgx]; exact hend)] at z2
          cases z2
        refine am_iload_n d_Ct_nextEnd_4 rfl ?_
        refine am_iconst (v := nI 4) d_Ct_nextEnd_5 (by decide) ?_
        refine am_icmp_geN (tgt := 95) d_Ct_nextEnd_6 (by decide) (by omega) (by omega) (fun q => absurd q (by omega)) (fun _ => ?_)
        refine am_iload_n d_Ct_nextEnd_9 rfl ?_
        refine am_iload_n d_Ct_nextEnd_10 rfl ?_
        refine am_cS d_Ct_nextEnd_11 s_Ct_62 (vs := [.int (nI u), .int (nI p)]) (st := []) rfl rfl (by decide) (Nat.le_of_ble_eq_true rfl) (ff_endOf) ?_
        rintro v S2 ⟨rfl, rfl⟩
        rw [show u * 4 + p = 4 * u + p by omega]
        refine am_istore (L1 := [_, _, _, _, _, _, _]) d_Ct_nextEnd_14 (by decide) rfl ?_
        refine am_aload_n d_Ct_nextEnd_16 rfl (by first | exact am_rvR _ | exact am_rvN | assumption) ?_
        refine am_get d_Ct_nextEnd_17 f_Ct_15 (cl_ctl hS) (by rfl) ?_
        refine am_iload d_Ct_nextEnd_20 rfl ?_
        refine am_iald (j := 4 * u + p) d_Ct_nextEnd_22 am_kI_ok h3c rfl (cl_fld (by omega)) (by simp; omega) ?_
        rw [hend]
        refine am_istore (L1 := [_, _, _, _, _, _, _]) d_Ct_nextEnd_23 (by decide) rfl ?_
        refine am_iload d_Ct_nextEnd_25 rfl ?_
        refine am_iconst (v := (-1)) d_Ct_nextEnd_27 (by decide) ?_
        refine am_icmp_eq (tgt := 56) d_Ct_nextEnd_28 (by decide) (fun _ => ?_) (fun z => absurd rfl z)
        refine am_iconst (v := nI 0) d_Ct_nextEnd_56 (by decide) ?_
        refine am_istore (L1 := [_, _, _, _, _, _, _]) d_Ct_nextEnd_57 (by decide) rfl ?_
        refine am_iload d_Ct_nextEnd_59 rfl ?_
        refine am_if_eqN (tgt := 89) d_Ct_nextEnd_61 (by decide) (by omega) (fun _ => ?_) (fun q => absurd q (by omega))
        first | refine am_iincN (b := 1) (L1 := [_, _, _, _, _, _, _]) d_Ct_nextEnd_89 rfl (by decide) (by decide) rfl ?_ | refine am_iinc (L1 := [_, _, _, _, _, _, _]) d_Ct_nextEnd_89 rfl rfl (by decide) rfl ?_
        refine am_goto (tgt := 4) d_Ct_nextEnd_92 (by decide) ?_
        refine ih (p + 1) best _ _ _ (by omega) ?_
        rcases H with ⟨hb, H⟩ | ⟨b, ob, hb, H⟩
        · exact Or.inl ⟨hb, H.no hno⟩
        · exact Or.inr ⟨b, ob, hb, H.no (fun o z => absurd z (hno o))⟩
      have hoth := fc_oth_yes (s := s.1) (x := 4 * u + p) (o := o) (by omega) (by rw [hgx]; exact hend)
      have hno : ¬ h (o / 4) = nI k → ∀ o, ¬ fc_cand ns v k u s.1 p o := fun hz o' z => by
        have z2 := z.2.1
        rw [hoth] at z2
        cases z2
        exact hz ((hnear p o (by omega) hoth).mpr z.2.2)
      have hyes : h (o / 4) = nI k → fc_cand ns v k u s.1 p o := fun hz => ⟨by omega, hoth, (hnear p o (by omega) hoth).mp hz⟩
      have hone : ∀ (j : Nat), (h (o / 4) = nI k → j ≤ o / 4) → ∀ o', fc_cand ns v k u s.1 p o' → j ≤ o' / 4 := fun j hj o' z => by
        have z2 := z.2.1
        rw [hoth] at z2
        cases z2
        exact hj ((hnear p o (by omega) hoth).mpr z.2.2)
      rcases H with ⟨rfl, H⟩ | ⟨b, ob, rfl, H⟩
      · refine am_iload_n d_Ct_nextEnd_4 rfl ?_
        refine am_iconst (v := nI 4) d_Ct_nextEnd_5 (by decide) ?_
        refine am_icmp_geN (tgt := 95) d_Ct_nextEnd_6 (by decide) (by omega) (by omega) (fun q => absurd q (by omega)) (fun _ => ?_)
        refine am_iload_n d_Ct_nextEnd_9 rfl ?_
        refine am_iload_n d_Ct_nextEnd_10 rfl ?_
        refine am_cS d_Ct_nextEnd_11 s_Ct_62 (vs := [.int (nI u), .int (nI p)]) (st := []) rfl rfl (by decide) (Nat.le_of_ble_eq_true rfl) (ff_endOf) ?_
        rintro v S2 ⟨rfl, rfl⟩
        rw [show u * 4 + p = 4 * u + p by omega]
        refine am_istore (L1 := [_, _, _, _, _, _, _]) d_Ct_nextEnd_14 (by decide) rfl ?_
        refine am_aload_n d_Ct_nextEnd_16 rfl (by first | exact am_rvR _ | exact am_rvN | assumption) ?_
        refine am_get d_Ct_nextEnd_17 f_Ct_15 (cl_ctl hS) (by rfl) ?_
        refine am_iload d_Ct_nextEnd_20 rfl ?_
        refine am_iald (j := 4 * u + p) d_Ct_nextEnd_22 am_kI_ok h3c rfl (cl_fld (by omega)) (by simp; omega) ?_
        rw [hend]
        refine am_istore (L1 := [_, _, _, _, _, _, _]) d_Ct_nextEnd_23 (by decide) rfl ?_
        refine am_iload d_Ct_nextEnd_25 rfl ?_
        refine am_iconst (v := (-1)) d_Ct_nextEnd_27 (by decide) ?_
        refine am_icmp_eq (tgt := 56) d_Ct_nextEnd_28 (by decide) (fun z => absurd z (cl_ix_ne (by omega))) (fun _ => ?_)
        refine am_aload_n d_Ct_nextEnd_31 rfl (by first | exact am_rvR _ | exact am_rvN | assumption) ?_
        refine am_get d_Ct_nextEnd_32 f_Ct_33 (cl_ctl hS) (by rfl) ?_
        refine am_iload d_Ct_nextEnd_35 rfl ?_
        refine am_cS d_Ct_nextEnd_37 s_Ct_187 (vs := [.int (nI o)]) (st := [.ref (A 6)]) rfl rfl (by decide) (Nat.le_of_ble_eq_true rfl) (ff_switchOf (by omega)) ?_
        rintro v S2 ⟨rfl, rfl⟩
        refine am_iald (j := o / 4) d_Ct_nextEnd_40 am_kI_ok h6 rfl (fr_ls_get _ (by omega)) (by rw [fr_ls_len]; omega) ?_
        refine am_aload_n d_Ct_nextEnd_41 rfl (by first | exact am_rvR _ | exact am_rvN | assumption) ?_
        refine am_get d_Ct_nextEnd_42 f_Ct_33 (cl_ctl hS) (by rfl) ?_
        refine am_iload_n d_Ct_nextEnd_45 rfl ?_
        refine am_iald (j := u) d_Ct_nextEnd_46 am_kI_ok h6 rfl (fr_ls_get _ (by omega)) (by rw [fr_ls_len]; omega) ?_
        rw [hu1]
        refine am_iconst (v := nI 1) d_Ct_nextEnd_47 (by decide) ?_
        refine am_isubN d_Ct_nextEnd_48 (by omega) ?_
        rw [show k + 1 - 1 = k from rfl]
        refine am_icmp_ne (tgt := 56) d_Ct_nextEnd_49 (by decide) (fun qn => ?_) (fun qn => ?_)
        · refine am_iconst (v := nI 0) d_Ct_nextEnd_56 (by decide) ?_
          refine am_istore (L1 := [_, _, _, _, _, _, _]) d_Ct_nextEnd_57 (by decide) rfl ?_
          refine am_iload d_Ct_nextEnd_59 rfl ?_
          refine am_if_eqN (tgt := 89) d_Ct_nextEnd_61 (by decide) (by omega) (fun _ => ?_) (fun q => absurd q (by omega))
          first | refine am_iincN (b := 1) (L1 := [_, _, _, _, _, _, _]) d_Ct_nextEnd_89 rfl (by decide) (by decide) rfl ?_ | refine am_iinc (L1 := [_, _, _, _, _, _, _]) d_Ct_nextEnd_89 rfl rfl (by decide) rfl ?_
          refine am_goto (tgt := 4) d_Ct_nextEnd_92 (by decide) ?_
          refine ih (p + 1) _ _ _ _ (by omega) ?_
          first
            | exact Or.inl ⟨rfl, H.no (hno qn)⟩
            | exact Or.inr ⟨p, o, rfl, H.yes (hyes qn)⟩
        · refine am_iconst (v := nI 1) d_Ct_nextEnd_52 (by decide) ?_
          refine am_goto (tgt := 57) d_Ct_nextEnd_53 (by decide) ?_
          refine am_istore (L1 := [_, _, _, _, _, _, _]) d_Ct_nextEnd_57 (by decide) rfl ?_
          refine am_iload d_Ct_nextEnd_59 rfl ?_
          refine am_if_eqN (tgt := 89) d_Ct_nextEnd_61 (by decide) (by omega) (fun q => absurd q (by omega)) (fun _ => ?_)
          refine am_iload_n d_Ct_nextEnd_64 rfl ?_
          refine am_iconst (v := (-1)) d_Ct_nextEnd_65 (by decide) ?_
          refine am_icmp_eq (tgt := 86) d_Ct_nextEnd_66 (by decide) (fun _ => ?_) (fun z => absurd rfl z)
          refine am_iload d_Ct_nextEnd_86 rfl ?_
          refine am_istore_n (L1 := [_, _, _, _, _, _, _]) d_Ct_nextEnd_88 (by decide) rfl ?_
          first | refine am_iincN (b := 1) (L1 := [_, _, _, _, _, _, _]) d_Ct_nextEnd_89 rfl (by decide) (by decide) rfl ?_ | refine am_iinc (L1 := [_, _, _, _, _, _, _]) d_Ct_nextEnd_89 rfl rfl (by decide) rfl ?_
          refine am_goto (tgt := 4) d_Ct_nextEnd_92 (by decide) ?_
          refine ih (p + 1) _ _ _ _ (by omega) ?_
          first
            | exact Or.inl ⟨rfl, H.no (hno qn)⟩
            | exact Or.inr ⟨p, o, rfl, H.yes (hyes qn)⟩
        
      have hb4 := H.2.1.1
      have hob := fc_oth_lt hn Io (by omega) H.2.1.2.1
      have hgb : ot.getD (4 * u + b) 0 = nI ob := by rw [← fc_get3 h3]; exact hob.2
      have hob4 := hob.1
      refine am_iload_n d_Ct_nextEnd_4 rfl ?_
      refine am_iconst (v := nI 4) d_Ct_nextEnd_5 (by decide) ?_
      refine am_icmp_geN (tgt := 95) d_Ct_nextEnd_6 (by decide) (by omega) (by omega) (fun q => absurd q (by omega)) (fun _ => ?_)
      refine am_iload_n d_Ct_nextEnd_9 rfl ?_
      refine am_iload_n d_Ct_nextEnd_10 rfl ?_
      refine am_cS d_Ct_nextEnd_11 s_Ct_62 (vs := [.int (nI u), .int (nI p)]) (st := []) rfl rfl (by decide) (Nat.le_of_ble_eq_true rfl) (ff_endOf) ?_
      rintro v S2 ⟨rfl, rfl⟩
      rw [show u * 4 + p = 4 * u + p by omega]
      refine am_istore (L1 := [_, _, _, _, _, _, _]) d_Ct_nextEnd_14 (by decide) rfl ?_
      refine am_aload_n d_Ct_nextEnd_16 rfl (by first | exact am_rvR _ | exact am_rvN | assumption) ?_
      refine am_get d_Ct_nextEnd_17 f_Ct_15 (cl_ctl hS) (by rfl) ?_
      refine am_iload d_Ct_nextEnd_20 rfl ?_
      refine am_iald (j := 4 * u + p) d_Ct_nextEnd_22 am_kI_ok h3c rfl (cl_fld (by omega)) (by simp; omega) ?_
      rw [hend]
      refine am_istore (L1 := [_, _, _, _, _, _, _]) d_Ct_nextEnd_23 (by decide) rfl ?_
      refine am_iload d_Ct_nextEnd_25 rfl ?_
      refine am_iconst (v := (-1)) d_Ct_nextEnd_27 (by decide) ?_
      refine am_icmp_eq (tgt := 56) d_Ct_nextEnd_28 (by decide) (fun z => absurd z (cl_ix_ne (by omega))) (fun _ => ?_)
      refine am_aload_n d_Ct_nextEnd_31 rfl (by first | exact am_rvR _ | exact am_rvN | assumption) ?_
      refine am_get d_Ct_nextEnd_32 f_Ct_33 (cl_ctl hS) (by rfl) ?_
      refine am_iload d_Ct_nextEnd_35 rfl ?_
      refine am_cS d_Ct_nextEnd_37 s_Ct_187 (vs := [.int (nI o)]) (st := [.ref (A 6)]) rfl rfl (by decide) (Nat.le_of_ble_eq_true rfl) (ff_switchOf (by omega)) ?_
      rintro v S2 ⟨rfl, rfl⟩
      refine am_iald (j := o / 4) d_Ct_nextEnd_40 am_kI_ok h6 rfl (fr_ls_get _ (by omega)) (by rw [fr_ls_len]; omega) ?_
      refine am_aload_n d_Ct_nextEnd_41 rfl (by first | exact am_rvR _ | exact am_rvN | assumption) ?_
      refine am_get d_Ct_nextEnd_42 f_Ct_33 (cl_ctl hS) (by rfl) ?_
      refine am_iload_n d_Ct_nextEnd_45 rfl ?_
      refine am_iald (j := u) d_Ct_nextEnd_46 am_kI_ok h6 rfl (fr_ls_get _ (by omega)) (by rw [fr_ls_len]; omega) ?_
      rw [hu1]
      refine am_iconst (v := nI 1) d_Ct_nextEnd_47 (by decide) ?_
      refine am_isubN d_Ct_nextEnd_48 (by omega) ?_
      rw [show k + 1 - 1 = k from rfl]
      refine am_icmp_ne (tgt := 56) d_Ct_nextEnd_49 (by decide) (fun qn => ?_) (fun qn => ?_)
      · refine am_iconst (v := nI 0) d_Ct_nextEnd_56 (by decide) ?_
        refine am_istore (L1 := [_, _, _, _, _, _, _]) d_Ct_nextEnd_57 (by decide) rfl ?_
        refine am_iload d_Ct_nextEnd_59 rfl ?_
        refine am_if_eqN (tgt := 89) d_Ct_nextEnd_61 (by decide) (by omega) (fun _ => ?_) (fun q => absurd q (by omega))
        first | refine am_iincN (b := 1) (L1 := [_, _, _, _, _, _, _]) d_Ct_nextEnd_89 rfl (by decide) (by decide) rfl ?_ | refine am_iinc (L1 := [_, _, _, _, _, _, _]) d_Ct_nextEnd_89 rfl rfl (by decide) rfl ?_
        refine am_goto (tgt := 4) d_Ct_nextEnd_92 (by decide) ?_
        refine ih (p + 1) _ _ _ _ (by omega) ?_
        first
          | exact Or.inr ⟨p, o, rfl, H.yes (hyes qn) (by omega)⟩
          | exact Or.inr ⟨b, ob, rfl, H.no (hone _ (fun z => by first | exact absurd z qn | omega))⟩
      · refine am_iconst (v := nI 1) d_Ct_nextEnd_52 (by decide) ?_
        refine am_goto (tgt := 57) d_Ct_nextEnd_53 (by decide) ?_
        refine am_istore (L1 := [_, _, _, _, _, _, _]) d_Ct_nextEnd_57 (by decide) rfl ?_
        refine am_iload d_Ct_nextEnd_59 rfl ?_
        refine am_if_eqN (tgt := 89) d_Ct_nextEnd_61 (by decide) (by omega) (fun q => absurd q (by omega)) (fun _ => ?_)
        refine am_iload_n d_Ct_nextEnd_64 rfl ?_
        refine am_iconst (v := (-1)) d_Ct_nextEnd_65 (by decide) ?_
        refine am_icmp_eq (tgt := 86) d_Ct_nextEnd_66 (by decide) (fun z => absurd z (cl_ix_ne (by omega))) (fun _ => ?_)
        refine am_iload d_Ct_nextEnd_69 rfl ?_
        refine am_cS d_Ct_nextEnd_71 s_Ct_187 (vs := [.int (nI o)]) (st := []) rfl rfl (by decide) (Nat.le_of_ble_eq_true rfl) (ff_switchOf (by omega)) ?_
        rintro v S2 ⟨rfl, rfl⟩
        refine am_aload_n d_Ct_nextEnd_74 rfl (by first | exact am_rvR _ | exact am_rvN | assumption) ?_
        refine am_get d_Ct_nextEnd_75 f_Ct_15 (cl_ctl hS) (by rfl) ?_
        refine am_iload_n d_Ct_nextEnd_78 rfl ?_
        refine am_iald (j := 4 * u + b) d_Ct_nextEnd_79 am_kI_ok h3c rfl (cl_fld (by omega)) (by simp; omega) ?_
        rw [hgb]
        refine am_cS d_Ct_nextEnd_80 s_Ct_187 (vs := [.int (nI ob)]) (st := [.int (nI (o / 4))]) rfl rfl (by decide) (Nat.le_of_ble_eq_true rfl) (ff_switchOf (by omega)) ?_
        rintro v S2 ⟨rfl, rfl⟩
        first | refine am_icmp_geN (tgt := 89) d_Ct_nextEnd_83 (by decide) (by omega) (by omega) (fun q1 => ?_) (fun q1 => ?_) | refine am_icmp_ge (tgt := 89) d_Ct_nextEnd_83 (by decide) (fun q1 => ?_) (fun q1 => ?_)
        · first | refine am_iincN (b := 1) (L1 := [_, _, _, _, _, _, _]) d_Ct_nextEnd_89 rfl (by decide) (by decide) rfl ?_ | refine am_iinc (L1 := [_, _, _, _, _, _, _]) d_Ct_nextEnd_89 rfl rfl (by decide) rfl ?_
          refine am_goto (tgt := 4) d_Ct_nextEnd_92 (by decide) ?_
          refine ih (p + 1) _ _ _ _ (by omega) ?_
          first
            | exact Or.inr ⟨p, o, rfl, H.yes (hyes qn) (by omega)⟩
            | exact Or.inr ⟨b, ob, rfl, H.no (hone _ (fun z => by first | exact absurd z qn | omega))⟩
        · refine am_iload d_Ct_nextEnd_86 rfl ?_
          refine am_istore_n (L1 := [_, _, _, _, _, _, _]) d_Ct_nextEnd_88 (by decide) rfl ?_
          first | refine am_iincN (b := 1) (L1 := [_, _, _, _, _, _, _]) d_Ct_nextEnd_89 rfl (by decide) (by decide) rfl ?_ | refine am_iinc (L1 := [_, _, _, _, _, _, _]) d_Ct_nextEnd_89 rfl rfl (by decide) rfl ?_
          refine am_goto (tgt := 4) d_Ct_nextEnd_92 (by decide) ?_
          refine ih (p + 1) _ _ _ _ (by omega) ?_
          first
            | exact Or.inr ⟨p, o, rfl, H.yes (hyes qn) (by omega)⟩
            | exact Or.inr ⟨b, ob, rfl, H.no (hone _ (fun z => by first | exact absurd z qn | omega))⟩
      
  refine am_Mof (L0 := [some (.ref (A 2)), some (.int (nI u)), none, none, none, none, none]) pl_Ct_nextEnd (am_k1 rfl (am_k1 rfl am_k0)) (Nat.le_of_ble_eq_true rfl) rfl ?_
  refine am_iconst (v := (-1)) d_Ct_nextEnd_0 (by decide) ?_
  refine am_istore_n (L1 := [_, _, _, _, _, _, _]) d_Ct_nextEnd_1 (by decide) rfl ?_
  refine am_iconst (v := nI 0) d_Ct_nextEnd_2 (by decide) ?_
  refine am_istore_n (L1 := [_, _, _, _, _, _, _]) d_Ct_nextEnd_3 (by decide) rfl ?_
  exact key 4 0 _ _ _ _ rfl (Or.inl ⟨rfl, fun p' hp' => absurd hp' (by omega)⟩)
end CTJ
