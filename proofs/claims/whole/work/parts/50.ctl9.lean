/-! the class: steps are counted -/
section CTI
variable {g : am_G} {e nw ns room idle : Nat} {A : Nat → Nat} {s : cl_S} {S : am_S}
/-- a static of the nest that nobody writes -/
theorem am_getsN {y : am_N} {d lo pc pc1 : Nat} {post : Option Value → am_S → Prop} {L : List (Option Value)} {st : List Value} {idx : Nat} {C nm ds host : String} {v : Value} (hd : am_D y.2.2.1 pc (.getstatic idx) 3 pc1) (hl : (y.1, idx, C, nm, ds, host) ∈ am_nF) (hz : (C, nm, ds, v) ∈ g.sta) (h : am_W g y d lo post pc1 L (v :: st) S) : am_W g y d lo post pc L st S := by
  obtain ⟨hd, rfl⟩ := hd
  refine am_lift (by rfl) (fun k n rv RS h => ?_) h
  intro p e s m args below meth c H locs cells slots mc ms ls Y
  have W1 := h p e s m args below meth c H locs cells slots mc ms ls Y
  obtain ⟨y1, y2, -, -, -, y6, -, hT, -, -, -, hR, -⟩ := Y
  obtain ⟨cf, kf, fi, f, a, cell, h1, h2, h3, h4, h5, h6, h7, h8⟩ := hT.2.2.2.2.2.2.2.1 _ hz
  exact va_WgetsN y1 y2 y6 (va_Nw.use rfl (hT.2.1 _ hl)) h1 h2 h3 h4 (by rw [hR.2.2.1 a (Nat.not_le.mp h8)]; exact h5) (fun z => by rw [z] at h6; cases h6) h7 rfl hd W1
def am_gW (g : am_G) (nw : Nat) : Prop := ("FlowFabric", "NO_WAY", "[I", Value.ref nw) ∈ g.sta
def fc_enc (o : Option Nat) : Int32 := match o with | none => -1 | some k => nI k
theorem fc_oth_no {s : fc_S} {x : Nat} (h : fc_get s 3 0 x = -1) : fc_oth s x = none := if_pos h
theorem fc_oth_yes {s : fc_S} {x o : Nat} (ho : o < 1000) (h : fc_get s 3 0 x = nI o) : fc_oth s x = some o := by
  unfold fc_oth
  rw [h, if_neg (cl_ix_ne (by omega)), nI_clamp (by omega)]
theorem fc_oth_lt {s : fc_S} (hn : ns ≤ 5) (Io : fc_iO ns s) {x o : Nat} (hx : x < 4 * ns) (h : fc_oth s x = some o) : o < 4 * ns ∧ fc_get s 3 0 x = nI o := by
  obtain ⟨-, ⟨ot, h3, h3l, h3e⟩, -⟩ := Io
  have hg := fc_get3 h3 x
  have hm := h3e (ot.getD x 0) (by rw [List.getD_eq_getElem?_getD, List.getElem?_eq_getElem (by omega)]; exact List.getElem_mem _)
  rw [← hg] at hm
  rcases hm with hm | ⟨m, hm4, hm⟩
  · rw [fc_oth_no hm] at h; cases h
  · rw [fc_oth_yes (by omega) hm] at h
    cases h
    exact ⟨hm4, hm⟩
theorem fc_E_iff {s : fc_S} {u q : Nat} : fc_E s u q = true ↔ ∃ p, p < 4 ∧ ∃ o, fc_oth s (4 * u + p) = some o ∧ o / 4 = q := by
  unfold fc_E
  rw [List.any_eq_true]
  constructor
  · rintro ⟨p, hp, h⟩
    rw [Option.any_eq_true] at h
    obtain ⟨o, h1, h2⟩ := h
    exact ⟨p, List.mem_range.mp hp, o, h1, of_decide_eq_true (by simpa using h2)⟩
  · rintro ⟨p, hp, o, h1, h2⟩
    refine ⟨p, List.mem_range.mpr hp, ?_⟩
    rw [Option.any_eq_true]
    exact ⟨o, h1, by simp [h2]⟩
def fc_hop (ns v r : Nat) (s : fc_S) (x : Nat) : Prop := ∃ o, fc_oth s x = some o ∧ pw_L ns (fc_E s) v r (o / 4) = some r
theorem fc_hop_iff {s : fc_S} (hn : ns ≤ 5) (Io : fc_iO ns s) {u v r : Nat} (hu : u < ns) : (∃ p, p < 4 ∧ fc_hop ns v r s (4 * u + p)) ↔ ∃ q, q < ns ∧ fc_E s u q = true ∧ pw_L ns (fc_E s) v r q = some r := by
  constructor
  · rintro ⟨p, hp, o, h1, h2⟩
    have := (fc_oth_lt hn Io (by omega) h1).1
    exact ⟨o / 4, by omega, fc_E_iff.mpr ⟨p, hp, o, h1, rfl⟩, h2⟩
  · rintro ⟨q, hq, h1, h2⟩
    obtain ⟨p, hp, o, h3, rfl⟩ := fc_E_iff.mp h1
    exact ⟨p, hp, o, h3, h2⟩
/-- how far the steps are counted: round r, ends below x -/
def fc_stI (ns v r x : Nat) (s : fc_S) (h : Nat → Int32) : Prop := ∀ u, u < ns → (∀ k, pw_L ns (fc_E s) v r u = some k → h u = nI k) ∧ (pw_L ns (fc_E s) v r u = none → ((∃ p, p < 4 ∧ 4 * u + p < x ∧ fc_hop ns v r s (4 * u + p)) → h u = nI (r + 1)) ∧ ((¬ ∃ p, p < 4 ∧ 4 * u + p < x ∧ fc_hop ns v r s (4 * u + p)) → h u = -1))
theorem fc_stI.at {v r x q : Nat} {s : fc_S} {h : Nat → Int32} (H : fc_stI ns v r x s h) (hq : q < ns) (hr : r < 1000) : h q = nI r ↔ pw_L ns (fc_E s) v r q = some r := by
  cases hL : pw_L ns (fc_E s) v r q with
  | none =>
    refine ⟨fun z => ?_, fun z => by cases z⟩
    by_cases hP : ∃ p, p < 4 ∧ 4 * q + p < x ∧ fc_hop ns v r s (4 * q + p)
    · rw [((H q hq).2 hL).1 hP, nI_eq (by omega) (by omega)] at z
      omega
    · rw [((H q hq).2 hL).2 hP] at z
      exact absurd z.symm (cl_ix_ne (by omega))
  | some k =>
    have hk := (pw_L_some.mp hL).1
    rw [(H q hq).1 k hL, nI_eq (by omega) (by omega)]
    exact ⟨fun z => by rw [z], fun z => by cases z; rfl⟩
theorem fc_stI.no {v r x : Nat} {s : fc_S} {h : Nat → Int32} (H : fc_stI ns v r x s h) (hn : ns ≤ 5) (Io : fc_iO ns s) (hx : x < 4 * ns) (hr : r < 1000) (hc : ¬ (h (x / 4) = -1 ∧ ∃ o, fc_oth s x = some o ∧ h (o / 4) = nI r)) : fc_stI ns v r (x + 1) s h := by
  intro u hu
  refine ⟨(H u hu).1, fun hL => ⟨?_, fun hP => ((H u hu).2 hL).2 (fun ⟨p, hp, h1, h2⟩ => hP ⟨p, hp, by omega, h2⟩)⟩⟩
  rintro ⟨p, hp, h1, h2⟩
  by_cases hP : ∃ p, p < 4 ∧ 4 * u + p < x ∧ fc_hop ns v r s (4 * u + p)
  · exact ((H u hu).2 hL).1 hP
  · have ex : 4 * u + p = x := by
      by_cases z : 4 * u + p < x
      · exact absurd ⟨p, hp, z, h2⟩ hP
      · omega
    have eu : x / 4 = u := by omega
    rw [ex] at h2
    obtain ⟨o, h3, h4⟩ := h2
    have ho := (fc_oth_lt hn Io hx h3).1
    exact absurd ⟨by rw [eu]; exact ((H u hu).2 hL).2 hP, o, h3, (H.at (by omega) hr).mpr h4⟩ hc
theorem fc_stI.yes {v r x o : Nat} {s : fc_S} {h : Nat → Int32} (H : fc_stI ns v r x s h) (hn : ns ≤ 5) (Io : fc_iO ns s) (hx : x < 4 * ns) (hr : r < 1000) (h1 : h (x / 4) = -1) (h2 : fc_oth s x = some o) (h3 : h (o / 4) = nI r) : fc_stI ns v r (x + 1) s (fun i => if i = x / 4 then nI (r + 1) else h i) := by
  have ho := (fc_oth_lt hn Io hx h2).1
  intro u hu
  by_cases eu : u = x / 4
  · refine ⟨fun k hk => ?_, fun hL => ⟨fun _ => if_pos eu, fun hP => absurd ⟨x % 4, by omega, by omega, ?_⟩ hP⟩⟩
    · have hk5 := (pw_L_some.mp hk).1
      have z := (H u hu).1 k hk
      rw [eu, h1] at z
      exact absurd z.symm (cl_ix_ne (by omega))
    · rw [show 4 * u + x % 4 = x by omega]
      exact ⟨o, h2, (H.at (by omega) hr).mp h3⟩
  · have hP : (∃ p, p < 4 ∧ 4 * u + p < x + 1 ∧ fc_hop ns v r s (4 * u + p)) ↔ ∃ p, p < 4 ∧ 4 * u + p < x ∧ fc_hop ns v r s (4 * u + p) := ⟨fun ⟨p, hp, h1, h2⟩ => ⟨p, hp, by omega, h2⟩, fun ⟨p, hp, h1, h2⟩ => ⟨p, hp, by omega, h2⟩⟩
    have e2 : (fun i => if i = x / 4 then nI (r + 1) else h i) u = h u := if_neg eu
    rw [e2, hP]
    exact H u hu
theorem fc_stI.zero {v r : Nat} {s : fc_S} {h : Nat → Int32} (H : ∀ u, u < ns → h u = fc_enc (pw_L ns (fc_E s) v r u)) : fc_stI ns v r 0 s h := by
  intro u hu
  rw [H u hu]
  refine ⟨fun k hk => by rw [hk]; rfl, fun hL => ⟨fun ⟨p, _, h1, _⟩ => absurd h1 (by omega), fun _ => by rw [hL]; rfl⟩⟩
theorem fc_stI.all {v r : Nat} {s : fc_S} {h : Nat → Int32} (H : fc_stI ns v r (4 * ns) s h) (hn : ns ≤ 5) (Io : fc_iO ns s) : ∀ u, u < ns → h u = fc_enc (pw_L ns (fc_E s) v (r + 1) u) := by
  intro u hu
  cases hL : pw_L ns (fc_E s) v r u with
  | some k => rw [pw_L_keep hL, (H u hu).1 k hL]; rfl
  | none =>
    by_cases hP : ∃ p, p < 4 ∧ fc_hop ns v r s (4 * u + p)
    · rw [(pw_L_succ hL).mp ((fc_hop_iff hn Io hu).mp hP)]
      obtain ⟨p, hp, h1⟩ := hP
      exact ((H u hu).2 hL).1 ⟨p, hp, by omega, h1⟩
    · rw [pw_L_still hL (fun z => hP ((fc_hop_iff hn Io hu).mpr z))]
      exact ((H u hu).2 hL).2 (fun ⟨p, hp, _, h1⟩ => hP ⟨p, hp, h1⟩)
def fc_e0 (v u : Nat) : Int32 := if u = v then nI 0 else -1
theorem fc_e0_L {v u : Nat} {s : fc_S} : fc_e0 v u = fc_enc (pw_L ns (fc_E s) v 0 u) := by
  unfold fc_e0
  split
  · rw [pw_L_some.mpr ⟨Nat.le_refl 0, pw_wk_zero.mpr (by assumption), fun j hj => absurd hj (by omega)⟩]
    rfl
  · rw [pw_L_none.mpr (fun j hj => ?_)]
    · rfl
    · cases hz : pw_wk ns (fc_E s) j u v with
      | false => rfl
      | true =>
        have ej : j = 0 := by omega
        subst ej
        exact absurd (pw_wk_zero.mp hz) (by assumption)
theorem ct_steps (hn : ns ≤ 5) (hS : cl_P e nw ns room idle A s S) (Io : fc_iO ns s.1) {v : Nat} (hv : v < ns) : am_M g y_Ct_countSteps "(I)V" 1 20 [.ref (A 2), .int (nI v)] S (fun v' S' => v' = none ∧ ∃ h : Nat → Int32, S' = (am_up S (A 6) 61 (.inl (am_kI, fr_ls ns h))) ∧ ∀ u, u < ns → h u = fc_enc (pw_L ns (fc_E s.1) v ns u)) := by
  have Io' := Io
  obtain ⟨-, ⟨ot, h3, h3l, h3e⟩, -⟩ := Io'
  have h3c := cl_at3 hS h3
  obtain ⟨f0, h6⟩ := cl_a6 hS
  have hctl : ∀ h : Nat → Int32, (am_up S (A 6) 61 (.inl (am_kI, fr_ls ns h))).1 (A 2) = _ := fun h => am_up_tag (cl_ctl hS) h6 (by decide)
  have h3u : ∀ h : Nat → Int32, (am_up S (A 6) 61 (.inl (am_kI, fr_ls ns h))).1 (A 3) = _ := fun h => am_up_tag h3c h6 (by decide)
  have h6u : ∀ h : Nat → Int32, (am_up S (A 6) 61 (.inl (am_kI, fr_ls ns h))).1 (A 6) = _ := fun h => am_up_at _ _ _ _
  have two : ∀ (m r : Nat) (h : Nat → Int32) (o3 o4 : Option Value), r + m = ns → (∀ u, u < ns → h u = fc_enc (pw_L ns (fc_E s.1) v r u)) → am_W g y_Ct_countSteps 1 20 (fun v' S' => v' = none ∧ ∃ h : Nat → Int32, S' = (am_up S (A 6) 61 (.inl (am_kI, fr_ls ns h))) ∧ ∀ u, u < ns → h u = fc_enc (pw_L ns (fc_E s.1) v ns u)) 35 [some (.ref (A 2)), some (.int (nI v)), some (.int (nI r)), o3, o4] [] (am_up S (A 6) 61 (.inl (am_kI, fr_ls ns h))) := by
    intro m
    induction m with
    | zero =>
      intro r h o3 o4 hr hh
      have er : r = ns := by omega
      subst er
      refine am_iload_n d_Ct_countSteps_35 rfl ?_
      refine am_aload_n d_Ct_countSteps_36 rfl (by first | exact am_rvR _ | exact am_rvN | assumption) ?_
      refine am_get d_Ct_countSteps_37 f_Ct_33 (hctl _) (by rfl) ?_
      refine am_alen (v := nI r) d_Ct_countSteps_40 am_kI_ok (h6u _) (by rw [fr_ls_len]; rfl) ?_
      refine am_icmp_geN (tgt := 120) d_Ct_countSteps_41 (by decide) (by omega) (by omega) (fun _ => ?_) (fun q => absurd q (by omega))
      refine am_vret d_Ct_countSteps_120 rfl ?_
      exact ⟨rfl, h, rfl, hh⟩
    | succ m ih =>
      intro r h o3 o4 hr hh
      have inn : ∀ (m' x : Nat) (h : Nat → Int32) (o4 : Option Value), x + m' = 4 * ns → fc_stI ns v r x s.1 h → am_W g y_Ct_countSteps 1 20 (fun v' S' => v' = none ∧ ∃ h : Nat → Int32, S' = (am_up S (A 6) 61 (.inl (am_kI, fr_ls ns h))) ∧ ∀ u, u < ns → h u = fc_enc (pw_L ns (fc_E s.1) v ns u)) 46 [some (.ref (A 2)), some (.int (nI v)), some (.int (nI r)), some (.int (nI x)), o4] [] (am_up S (A 6) 61 (.inl (am_kI, fr_ls ns h))) := by
        intro m'
        induction m' with
        | zero =>
          intro x h o4 hx H
          have ex : x = 4 * ns := by omega
          subst ex
          refine am_iload_n d_Ct_countSteps_46 rfl ?_
          refine am_aload_n d_Ct_countSteps_47 rfl (by first | exact am_rvR _ | exact am_rvN | assumption) ?_
          refine am_get d_Ct_countSteps_48 f_Ct_15 (hctl _) (by rfl) ?_
          refine am_alen (v := nI (4 * ns)) d_Ct_countSteps_51 am_kI_ok (h3u _) (by rw [List.length_map, h3l]; rfl) ?_
          refine am_icmp_geN (tgt := 114) d_Ct_countSteps_52 (by decide) (by omega) (by omega) (fun _ => ?_) (fun q => absurd q (by omega))
          first | refine am_iincN (b := 1) (L1 := [_, _, _, _, _]) d_Ct_countSteps_114 rfl (by decide) (by decide) rfl ?_ | refine am_iinc (L1 := [_, _, _, _, _]) d_Ct_countSteps_114 rfl rfl (by decide) rfl ?_
          refine am_goto (tgt := 35) d_Ct_countSteps_117 (by decide) ?_
          exact ih (r + 1) h _ _ (by omega) (H.all hn Io)
        | succ m' ih' =>
          intro x h o4 hx H
          have hgx := fc_get3 h3 x
          have hend : fc_end ns (ot.getD x 0) := h3e _ (by rw [List.getD_eq_getElem?_getD, List.getElem?_eq_getElem (by omega)]; exact List.getElem_mem _)
          rcases hend with hend | ⟨o, ho4, hend⟩
          · refine am_iload_n d_Ct_countSteps_46 rfl ?_
            refine am_aload_n d_Ct_countSteps_47 rfl (by first | exact am_rvR _ | exact am_rvN | assumption) ?_
            refine am_get d_Ct_countSteps_48 f_Ct_15 (hctl _) (by rfl) ?_
            refine am_alen (v := nI (4 * ns)) d_Ct_countSteps_51 am_kI_ok (h3u _) (by rw [List.length_map, h3l]; rfl) ?_
            refine am_icmp_geN (tgt := 114) d_Ct_countSteps_52 (by decide) (by omega) (by omega) (fun q => absurd q (by omega)) (fun _ => ?_)
            refine am_aload_n d_Ct_countSteps_55 rfl (by first | exact am_rvR _ | exact am_rvN | assumption) ?_
            refine am_get d_Ct_countSteps_56 f_Ct_15 (hctl _) (by rfl) ?_
            refine am_iload_n d_Ct_countSteps_59 rfl ?_
            refine am_iald (j := x) d_Ct_countSteps_60 am_kI_ok (h3u _) rfl (cl_fld (by omega)) (by simp; omega) ?_
            rw [hend]
            refine am_istore (L1 := [_, _, _, _, _]) d_Ct_countSteps_61 (by decide) rfl ?_
            refine am_aload_n d_Ct_countSteps_63 rfl (by first | exact am_rvR _ | exact am_rvN | assumption) ?_
            refine am_get d_Ct_countSteps_64 f_Ct_33 (hctl _) (by rfl) ?_
            refine am_iload_n d_Ct_countSteps_67 rfl ?_
            refine am_cS d_Ct_countSteps_68 s_Ct_187 (vs := [.int (nI x)]) (st := [.ref (A 6)]) rfl rfl (by decide) (Nat.le_of_ble_eq_true rfl) (ff_switchOf (by omega)) ?_
            rintro v S2 ⟨rfl, rfl⟩
            refine am_iald (j := x / 4) d_Ct_countSteps_71 am_kI_ok (h6u _) rfl (fr_ls_get _ (by omega)) (by rw [fr_ls_len]; omega) ?_
            refine am_iconst (v := (-1)) d_Ct_countSteps_72 (by decide) ?_
            first | refine am_icmp_neN (tgt := 108) d_Ct_countSteps_73 (by decide) (by omega) (by omega) (fun q1 => ?_) (fun q1 => ?_) | refine am_icmp_ne (tgt := 108) d_Ct_countSteps_73 (by decide) (fun q1 => ?_) (fun q1 => ?_)
            · first | refine am_iincN (b := 1) (L1 := [_, _, _, _, _]) d_Ct_countSteps_108 rfl (by decide) (by decide) rfl ?_ | refine am_iinc (L1 := [_, _, _, _, _]) d_Ct_countSteps_108 rfl rfl (by decide) rfl ?_
              refine am_goto (tgt := 46) d_Ct_countSteps_111 (by decide) ?_
              exact ih' (x + 1) h _ (by omega) (H.no hn Io (by omega) (by omega) (fun ⟨_, o, z, _⟩ => by rw [fc_oth_no (by rw [hgx]; exact hend)] at z; cases z))
            · refine am_iload d_Ct_countSteps_76 rfl ?_
              refine am_iconst (v := (-1)) d_Ct_countSteps_78 (by decide) ?_
              refine am_icmp_eq (tgt := 108) d_Ct_countSteps_79 (by decide) (fun _ => ?_) (fun z => absurd rfl z)
              first | refine am_iincN (b := 1) (L1 := [_, _, _, _, _]) d_Ct_countSteps_108 rfl (by decide) (by decide) rfl ?_ | refine am_iinc (L1 := [_, _, _, _, _]) d_Ct_countSteps_108 rfl rfl (by decide) rfl ?_
              refine am_goto (tgt := 46) d_Ct_countSteps_111 (by decide) ?_
              exact ih' (x + 1) h _ (by omega) (H.no hn Io (by omega) (by omega) (fun ⟨_, o, z, _⟩ => by rw [fc_oth_no (by rw [hgx]; exact hend)] at z; cases z))
          have hoth := fc_oth_yes (s := s.1) (x := x) (o := o) (by omega) (by rw [hgx]; exact hend)
          refine am_iload_n d_Ct_countSteps_46 rfl ?_
          refine am_aload_n d_Ct_countSteps_47 rfl (by first | exact am_rvR _ | exact am_rvN | assumption) ?_
          refine am_get d_Ct_countSteps_48 f_Ct_15 (hctl _) (by rfl) ?_
          refine am_alen (v := nI (4 * ns)) d_Ct_countSteps_51 am_kI_ok (h3u _) (by rw [List.length_map, h3l]; rfl) ?_
          refine am_icmp_geN (tgt := 114) d_Ct_countSteps_52 (by decide) (by omega) (by omega) (fun q => absurd q (by omega)) (fun _ => ?_)
          refine am_aload_n d_Ct_countSteps_55 rfl (by first | exact am_rvR _ | exact am_rvN | assumption) ?_
          refine am_get d_Ct_countSteps_56 f_Ct_15 (hctl _) (by rfl) ?_
          refine am_iload_n d_Ct_countSteps_59 rfl ?_
          refine am_iald (j := x) d_Ct_countSteps_60 am_kI_ok (h3u _) rfl (cl_fld (by omega)) (by simp; omega) ?_
          rw [hend]
          refine am_istore (L1 := [_, _, _, _, _]) d_Ct_countSteps_61 (by decide) rfl ?_
          refine am_aload_n d_Ct_countSteps_63 rfl (by first | exact am_rvR _ | exact am_rvN | assumption) ?_
          refine am_get d_Ct_countSteps_64 f_Ct_33 (hctl _) (by rfl) ?_
          refine am_iload_n d_Ct_countSteps_67 rfl ?_
          refine am_cS d_Ct_countSteps_68 s_Ct_187 (vs := [.int (nI x)]) (st := [.ref (A 6)]) rfl rfl (by decide) (Nat.le_of_ble_eq_true rfl) (ff_switchOf (by omega)) ?_
          rintro v S2 ⟨rfl, rfl⟩
          refine am_iald (j := x / 4) d_Ct_countSteps_71 am_kI_ok (h6u _) rfl (fr_ls_get _ (by omega)) (by rw [fr_ls_len]; omega) ?_
          refine am_iconst (v := (-1)) d_Ct_countSteps_72 (by decide) ?_
          first | refine am_icmp_neN (tgt := 108) d_Ct_countSteps_73 (by decide) (by omega) (by omega) (fun q1 => ?_) (fun q1 => ?_) | refine am_icmp_ne (tgt := 108) d_Ct_countSteps_73 (by decide) (fun q1 => ?_) (fun q1 => ?_)
          · first | refine am_iincN (b := 1) (L1 := [_, _, _, _, _]) d_Ct_countSteps_108 rfl (by decide) (by decide) rfl ?_ | refine am_iinc (L1 := [_, _, _, _, _]) d_Ct_countSteps_108 rfl rfl (by decide) rfl ?_
            refine am_goto (tgt := 46) d_Ct_countSteps_111 (by decide) ?_
            first
              | exact ih' (x + 1) h _ (by omega) (H.no hn Io (by omega) (by omega) (fun ⟨z1, o', z2, z3⟩ => by first | exact absurd z1 (by assumption) | (rw [hoth] at z2; cases z2; exact absurd z3 (by assumption))))
              | exact ih' (x + 1) _ _ (by omega) (H.yes hn Io (by omega) (by omega) (by assumption) hoth (by assumption))
          · refine am_iload d_Ct_countSteps_76 rfl ?_
            refine am_iconst (v := (-1)) d_Ct_countSteps_78 (by decide) ?_
            refine am_icmp_eq (tgt := 108) d_Ct_countSteps_79 (by decide) (fun z => absurd z (cl_ix_ne (by omega))) (fun _ => ?_)
            refine am_aload_n d_Ct_countSteps_82 rfl (by first | exact am_rvR _ | exact am_rvN | assumption) ?_
            refine am_get d_Ct_countSteps_83 f_Ct_33 (hctl _) (by rfl) ?_
            refine am_iload d_Ct_countSteps_86 rfl ?_
            refine am_cS d_Ct_countSteps_88 s_Ct_187 (vs := [.int (nI o)]) (st := [.ref (A 6)]) rfl rfl (by decide) (Nat.le_of_ble_eq_true rfl) (ff_switchOf (by omega)) ?_
            rintro v S2 ⟨rfl, rfl⟩
            refine am_iald (j := o / 4) d_Ct_countSteps_91 am_kI_ok (h6u _) rfl (fr_ls_get _ (by omega)) (by rw [fr_ls_len]; omega) ?_
            refine am_iload_n d_Ct_countSteps_92 rfl ?_
            first | refine am_icmp_neN (tgt := 108) d_Ct_countSteps_93 (by decide) (by omega) (by omega) (fun q2 => ?_) (fun q2 => ?_) | refine am_icmp_ne (tgt := 108) d_Ct_countSteps_93 (by decide) (fun q2 => ?_) (fun q2 => ?_)
            · first | refine am_iincN (b := 1) (L1 := [_, _, _, _, _]) d_Ct_countSteps_108 rfl (by decide) (by decide) rfl ?_ | refine am_iinc (L1 := [_, _, _, _, _]) d_Ct_countSteps_108 rfl rfl (by decide) rfl ?_
              refine am_goto (tgt := 46) d_Ct_countSteps_111 (by decide) ?_
              first
                | exact ih' (x + 1) h _ (by omega) (H.no hn Io (by omega) (by omega) (fun ⟨z1, o', z2, z3⟩ => by first | exact absurd z1 (by assumption) | (rw [hoth] at z2; cases z2; exact absurd z3 (by assumption))))
                | exact ih' (x + 1) _ _ (by omega) (H.yes hn Io (by omega) (by omega) (by assumption) hoth (by assumption))
            · refine am_aload_n d_Ct_countSteps_96 rfl (by first | exact am_rvR _ | exact am_rvN | assumption) ?_
              refine am_get d_Ct_countSteps_97 f_Ct_33 (hctl _) (by rfl) ?_
              refine am_iload_n d_Ct_countSteps_100 rfl ?_
              refine am_cS d_Ct_countSteps_101 s_Ct_187 (vs := [.int (nI x)]) (st := [.ref (A 6)]) rfl rfl (by decide) (Nat.le_of_ble_eq_true rfl) (ff_switchOf (by omega)) ?_
              rintro v S2 ⟨rfl, rfl⟩
              refine am_iload_n d_Ct_countSteps_104 rfl ?_
              refine am_iconst (v := nI 1) d_Ct_countSteps_105 (by decide) ?_
              first | refine am_iaddN d_Ct_countSteps_106 ?_ | refine am_iadd d_Ct_countSteps_106 ?_
              refine am_iast (j := x / 4) d_Ct_countSteps_107 am_kI_ok (h6u _) (by decide) rfl (by rw [fr_ls_len]; omega) (by rw [fr_ls_len]; omega) ?_
              rw [fr_ls_set, am_up_up]
              first | refine am_iincN (b := 1) (L1 := [_, _, _, _, _]) d_Ct_countSteps_108 rfl (by decide) (by decide) rfl ?_ | refine am_iinc (L1 := [_, _, _, _, _]) d_Ct_countSteps_108 rfl rfl (by decide) rfl ?_
              refine am_goto (tgt := 46) d_Ct_countSteps_111 (by decide) ?_
              first
                | exact ih' (x + 1) h _ (by omega) (H.no hn Io (by omega) (by omega) (fun ⟨z1, o', z2, z3⟩ => by first | exact absurd z1 (by assumption) | (rw [hoth] at z2; cases z2; exact absurd z3 (by assumption))))
                | exact ih' (x + 1) _ _ (by omega) (H.yes hn Io (by omega) (by omega) (by assumption) hoth (by assumption))
      refine am_iload_n d_Ct_countSteps_35 rfl ?_
      refine am_aload_n d_Ct_countSteps_36 rfl (by first | exact am_rvR _ | exact am_rvN | assumption) ?_
      refine am_get d_Ct_countSteps_37 f_Ct_33 (hctl _) (by rfl) ?_
      refine am_alen (v := nI ns) d_Ct_countSteps_40 am_kI_ok (h6u _) (by rw [fr_ls_len]; rfl) ?_
      refine am_icmp_geN (tgt := 120) d_Ct_countSteps_41 (by decide) (by omega) (by omega) (fun q => absurd q (by omega)) (fun _ => ?_)
      refine am_iconst (v := nI 0) d_Ct_countSteps_44 (by decide) ?_
      refine am_istore_n (L1 := [_, _, _, _, _]) d_Ct_countSteps_45 (by decide) rfl ?_
      exact inn (4 * ns) 0 h _ (Nat.zero_add _) (fc_stI.zero hh)
  have one : ∀ (m k : Nat) (h : Nat → Int32), k + m = ns → (∀ u, u < k → h u = fc_e0 v u) → am_W g y_Ct_countSteps 1 20 (fun v' S' => v' = none ∧ ∃ h : Nat → Int32, S' = (am_up S (A 6) 61 (.inl (am_kI, fr_ls ns h))) ∧ ∀ u, u < ns → h u = fc_enc (pw_L ns (fc_E s.1) v ns u)) 2 [some (.ref (A 2)), some (.int (nI v)), some (.int (nI k)), none, none] [] (am_up S (A 6) 61 (.inl (am_kI, fr_ls ns h))) := by
    intro m
    induction m with
    | zero =>
      intro k h hk hh
      have ek : k = ns := by omega
      subst ek
      refine am_iload_n d_Ct_countSteps_2 rfl ?_
      refine am_aload_n d_Ct_countSteps_3 rfl (by first | exact am_rvR _ | exact am_rvN | assumption) ?_
      refine am_get d_Ct_countSteps_4 f_Ct_33 (hctl _) (by rfl) ?_
      refine am_alen (v := nI k) d_Ct_countSteps_7 am_kI_ok (h6u _) (by rw [fr_ls_len]; rfl) ?_
      refine am_icmp_geN (tgt := 33) d_Ct_countSteps_8 (by decide) (by omega) (by omega) (fun _ => ?_) (fun q => absurd q (by omega))
      refine am_iconst (v := nI 0) d_Ct_countSteps_33 (by decide) ?_
      refine am_istore_n (L1 := [_, _, _, _, _]) d_Ct_countSteps_34 (by decide) rfl ?_
      exact two k 0 h _ _ (Nat.zero_add _) (fun u hu => by rw [hh u hu]; exact fc_e0_L)
    | succ m ih =>
      intro k h hk hh
      refine am_iload_n d_Ct_countSteps_2 rfl ?_
      refine am_aload_n d_Ct_countSteps_3 rfl (by first | exact am_rvR _ | exact am_rvN | assumption) ?_
      refine am_get d_Ct_countSteps_4 f_Ct_33 (hctl _) (by rfl) ?_
      refine am_alen (v := nI ns) d_Ct_countSteps_7 am_kI_ok (h6u _) (by rw [fr_ls_len]; rfl) ?_
      refine am_icmp_geN (tgt := 33) d_Ct_countSteps_8 (by decide) (by omega) (by omega) (fun q => absurd q (by omega)) (fun _ => ?_)
      refine am_aload_n d_Ct_countSteps_11 rfl (by first | exact am_rvR _ | exact am_rvN | assumption) ?_
      refine am_get d_Ct_countSteps_12 f_Ct_33 (hctl _) (by rfl) ?_
      refine am_iload_n d_Ct_countSteps_15 rfl ?_
      refine am_iload_n d_Ct_countSteps_16 rfl ?_
      refine am_iload_n d_Ct_countSteps_17 rfl ?_
      first | refine am_icmp_neN (tgt := 25) d_Ct_countSteps_18 (by decide) (by omega) (by omega) (fun q1 => ?_) (fun q1 => ?_) | refine am_icmp_ne (tgt := 25) d_Ct_countSteps_18 (by decide) (fun q1 => ?_) (fun q1 => ?_)
      · refine am_iconst (v := (-1)) d_Ct_countSteps_25 (by decide) ?_
        refine am_iast (j := k) d_Ct_countSteps_26 am_kI_ok (h6u _) (by decide) rfl (by rw [fr_ls_len]; omega) (by rw [fr_ls_len]; omega) ?_
        rw [fr_ls_set, am_up_up]
        first | refine am_iincN (b := 1) (L1 := [_, _, _, _, _]) d_Ct_countSteps_27 rfl (by decide) (by decide) rfl ?_ | refine am_iinc (L1 := [_, _, _, _, _]) d_Ct_countSteps_27 rfl rfl (by decide) rfl ?_
        refine am_goto (tgt := 2) d_Ct_countSteps_30 (by decide) ?_
        refine ih (k + 1) _ (by omega) (fun u hu => ?_)
        by_cases z : u = k
        · subst z
          refine (if_pos rfl).trans ?_
          unfold fc_e0
          first | rw [if_neg (by assumption)] | rw [if_pos (by assumption)]
        · exact (if_neg z).trans (hh u (by omega))
      · refine am_iconst (v := nI 0) d_Ct_countSteps_21 (by decide) ?_
        refine am_goto (tgt := 26) d_Ct_countSteps_22 (by decide) ?_
        refine am_iast (j := k) d_Ct_countSteps_26 am_kI_ok (h6u _) (by decide) rfl (by rw [fr_ls_len]; omega) (by rw [fr_ls_len]; omega) ?_
        rw [fr_ls_set, am_up_up]
        first | refine am_iincN (b := 1) (L1 := [_, _, _, _, _]) d_Ct_countSteps_27 rfl (by decide) (by decide) rfl ?_ | refine am_iinc (L1 := [_, _, _, _, _]) d_Ct_countSteps_27 rfl rfl (by decide) rfl ?_
        refine am_goto (tgt := 2) d_Ct_countSteps_30 (by decide) ?_
        refine ih (k + 1) _ (by omega) (fun u hu => ?_)
        by_cases z : u = k
        · subst z
          refine (if_pos rfl).trans ?_
          unfold fc_e0
          first | rw [if_neg (by assumption)] | rw [if_pos (by assumption)]
        · exact (if_neg z).trans (hh u (by omega))
  refine am_Mof (L0 := [some (.ref (A 2)), some (.int (nI v)), none, none, none]) pl_Ct_countSteps (am_k1 rfl (am_k1 rfl am_k0)) (Nat.le_of_ble_eq_true rfl) rfl ?_
  refine am_iconst (v := nI 0) d_Ct_countSteps_0 (by decide) ?_
  refine am_istore_n (L1 := [_, _, _, _, _]) d_Ct_countSteps_1 (by decide) rfl ?_
  have z := one ns 0 f0 (Nat.zero_add _) (fun u hu => absurd hu (by omega))
  rw [am_up_id h6] at z
  exact z
end CTI
