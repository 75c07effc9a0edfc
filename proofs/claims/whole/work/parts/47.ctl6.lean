/-! the class: links are seen, go down -/
section CTF
variable {g : am_G} {e nw ns room idle : Nat} {A : Nat → Nat} {s : cl_S} {S : am_S}
/-- an array of the controller changes -/
theorem cl_setA (hS : cl_P e nw ns room idle A s S) {c kd : Nat} (hc : (c = 3 ∧ kd = am_kI) ∨ (c = 4 ∧ kd = am_kZ) ∨ (c = 5 ∧ kd = am_kI)) {row row' : List Int32} (hr : S.1 (A c) = some (10 * c + 1, .inl (kd, row.map Value.int))) :
    ∃ s' : cl_S, s'.1 = fc_up s.1 c [row'] ∧ s'.2 = s.2 ∧ cl_P e nw ns room idle A s' (am_up S (A c) (10 * c + 1) (.inl (kd, row'.map Value.int))) ∧ am_fr cl_X S (am_up S (A c) (10 * c + 1) (.inl (kd, row'.map Value.int))) := by
  refine ⟨cl_st s (fc_up s.1 c [row']), rfl, rfl, ?_, am_fr.up hr (by unfold cl_X; omega)⟩
  refine cl_P.upd c hS (am_fr.up hr (by unfold cl_Xc; omega)) hS.1.2.1 hS.1.2.2 (fun q hq => ⟨fc_up_ne _ hq, rfl⟩) (fun _ _ _ => rfl) ?_
  have hat : cl_arr A (cl_st s (fc_up s.1 c [row'])) c kd (am_up S (A c) (10 * c + 1) (.inl (kd, row'.map Value.int))) := by
    show (am_up S _ _ _).1 (A c) = some (10 * c + 1, Sum.inl (kd, ((fc_up s.1 c [row'] c).getD 0 []).map Value.int))
    rw [am_up_at, fc_up_same]
    rfl
  rcases hc with ⟨rfl, rfl⟩ | ⟨rfl, rfl⟩ | ⟨rfl, rfl⟩
  · refine ⟨fun z => ?_, fun z => ?_, fun z => ?_, fun _ => hat, fun z => ?_, fun z => ?_, fun z => ?_, fun q' hq' z => ?_, fun z => ?_⟩
    rotate_left 7
    · unfold cl_isL at z; omega
    all_goals omega
  · refine ⟨fun z => ?_, fun z => ?_, fun z => ?_, fun z => ?_, fun _ => hat, fun z => ?_, fun z => ?_, fun q' hq' z => ?_, fun z => ?_⟩
    rotate_left 7
    · unfold cl_isL at z; omega
    all_goals omega
  · refine ⟨fun z => ?_, fun z => ?_, fun z => ?_, fun z => ?_, fun z => ?_, fun _ => hat, fun z => ?_, fun q' hq' z => ?_, fun z => ?_⟩
    rotate_left 7
    · unfold cl_isL at z; omega
    all_goals omega
theorem fc_fold_ne {ws : List Int32} {r1 r2 : List Int32} {c : Nat} (hc : c < 30) : ∀ u : fc_S, (ws.foldl (fun u e => fc_ord (fc_ord u e r1) e r2) u) c = u c := by
  induction ws with
  | nil => intro u; rfl
  | cons x ws ih =>
    intro u
    rw [List.foldl_cons, ih]
    unfold fc_ord fc_add
    rw [fc_up_ne _ (by omega), fc_up_ne _ (by omega)]
theorem fc_fold_le {ws : List Int32} {r1 r2 : List Int32} {c : Nat} : ∀ u : fc_S, (u c).length ≤ ((ws.foldl (fun u e => fc_ord (fc_ord u e r1) e r2) u) c).length := by
  induction ws with
  | nil => intro u; exact Nat.le_refl _
  | cons x ws ih =>
    intro u
    rw [List.foldl_cons]
    exact Nat.le_trans (Nat.le_trans (fc_ord_len _ _ _ c) (fc_ord_len _ _ _ c)) (ih _)
theorem fc_clr_ne {s : fc_S} {k c : Nat} (hc : c < 30) : fc_clr s k c = fc_cb s k c := fc_fold_ne hc _
theorem fc_cb_ne {s : fc_S} {k c : Nat} (h2 : c ≠ 2) (h7 : c ≠ 7) : fc_cb s k c = s c := by
  unfold fc_cb
  rw [fc_put_ne _ _ _ h7, fc_put_ne _ _ _ h7, fc_put_ne _ _ _ h7, fc_put_ne _ _ _ h2]
theorem fc_clr_le {s : fc_S} {k c : Nat} (hc : 30 ≤ c) : (s c).length ≤ (fc_clr s k c).length := by
  rw [← fc_cb_ne (s := s) (k := k) (c := c) (by omega) (by omega)]
  exact fc_fold_le _
/-- a cleared course -/
theorem fc_clr_7 {s : fc_S} {k : Nat} {f t st wv aw ld kp kn x0 : Int32} {way : List Int32} (hr : (s 7)[k]? = some ([f, t, st, wv, aw, ld, kp, kn] ++ way)) (h2 : s 2 = [[x0]]) : fc_clr s k 7 = (s 7).set k ([f, t, 1, x0 + 1, nI way.length, ld, kp, kn] ++ way) ∧ fc_clr s k 2 = [[x0 + 1]] := by
  rw [fc_clr_ne (by omega), fc_clr_ne (by omega), (fc_cb_eq hr h2).1, fc_up_same, fc_up_ne _ (by omega)]
  refine ⟨rfl, ?_⟩
  unfold fc_put
  rw [fc_up_same, h2]
  rfl
theorem fc_iK.clr {s : fc_S} (I : fc_iK ns s) (Io : fc_iO ns s) {k : Nat} (hk : k < (s 7).length) : fc_iK ns (fc_clr s k) ∧ fc_iO ns (fc_clr s k) := by
  obtain ⟨⟨x0, h2⟩, h3, h4, h5⟩ := Io
  obtain ⟨f, t, l, st, wv, aw, kp, kn, way, g1, g2, hrow, g3, g4, g5, g6, g7, g8⟩ := I.2 _ (List.getElem_mem hk)
  have hr : (s 7)[k]? = some ([nI f, nI t, st, wv, aw, nI l, kp, kn] ++ way) := by rw [List.getElem?_eq_getElem hk, hrow]
  obtain ⟨e7, e2⟩ := fc_clr_7 hr h2
  constructor
  · have h := I.set (k := k) (row' := [nI f, nI t, 1, x0 + 1, nI way.length, nI l, kp, kn] ++ way) ⟨f, t, l, 1, x0 + 1, nI way.length, kp, kn, way, g1, g2, rfl, Or.inl rfl, g4, g5, g6, g7, g8⟩
    unfold fc_iK at h ⊢
    rw [fc_up_same] at h
    rw [e7]
    exact h
  · refine ⟨⟨x0 + 1, e2⟩, ?_, ?_, ?_⟩
    · rw [fc_clr_ne (by omega), fc_cb_ne (by omega) (by omega)]; exact h3
    · rw [fc_clr_ne (by omega), fc_cb_ne (by omega) (by omega)]; exact h4
    · rw [fc_clr_ne (by omega), fc_cb_ne (by omega) (by omega)]; exact h5
theorem am_hno1 {a b : Bool} {p : Prop} (h1 : a = false) (h2 : b = false) : ¬ ((a || b) = true ∧ p) := by
  subst h1 h2
  exact fun z => absurd z.1 (by decide)
theorem am_hno2 {a b : Bool} {p : Prop} {dp : Decidable p} (h : decide p = false) : ¬ ((a || b) = true ∧ p) := fun z => of_decide_eq_false h z.2
theorem am_hy1 {a b : Bool} {p : Prop} {dp : Decidable p} (h1 : a = true) (h : decide p = true) : (a || b) = true ∧ p := ⟨by subst h1; rfl, of_decide_eq_true h⟩
theorem am_hy2 {a b : Bool} {p : Prop} {dp : Decidable p} (h1 : b = true) (h : decide p = true) : (a || b) = true ∧ p := ⟨by subst h1; cases a <;> rfl, of_decide_eq_true h⟩
/-- what hurts courses -/
theorem fc_hurt_s (s : fc_S) (hurt : List Int32 → Bool) (k : Nat) : fc_hurt s hurt (k + 1) = if hurt (fc_way s k) = true ∧ (fc_get s 7 k 2 = 2 ∨ fc_get s 7 k 2 = 3) then fc_clr (fc_hurt s hurt k) k else fc_hurt s hurt k := rfl
theorem fc_hurt_ok {s : fc_S} (I : fc_iK ns s) (Io : fc_iO ns s) (hurt : List Int32 → Bool) : ∀ k, k ≤ (s 7).length → fc_iK ns (fc_hurt s hurt k) ∧ fc_iO ns (fc_hurt s hurt k) ∧ (fc_hurt s hurt k 7).length = (s 7).length ∧ ∀ j, k ≤ j → (fc_hurt s hurt k 7)[j]? = (s 7)[j]?
  | 0, _ => ⟨I, Io, rfl, fun _ _ => rfl⟩
  | k + 1, hk => by
    obtain ⟨J, Jo, hl, hj⟩ := fc_hurt_ok I Io hurt k (by omega)
    rw [fc_hurt_s]
    split
    · have hk' : k < (fc_hurt s hurt k 7).length := by omega
      have h := J.clr Jo hk'
      obtain ⟨⟨x0, h2⟩, -⟩ := Jo
      obtain ⟨f, t, l, st, wv, aw, kp, kn, way, -, -, hrow, -⟩ := J.2 _ (List.getElem_mem hk')
      have hr : (fc_hurt s hurt k 7)[k]? = some ([nI f, nI t, st, wv, aw, nI l, kp, kn] ++ way) := by rw [List.getElem?_eq_getElem hk', hrow]
      obtain ⟨e7, -⟩ := fc_clr_7 hr h2
      refine ⟨h.1, h.2, by rw [e7, List.length_set]; exact hl, fun j hjk => ?_⟩
      rw [e7, List.getElem?_set_ne (by omega)]
      exact hj j (by omega)
    · exact ⟨J, Jo, hl, fun j hjk => hj j (by omega)⟩
theorem fc_hurt_le {s : fc_S} {hurt : List Int32 → Bool} {c : Nat} (hc : 30 ≤ c) : ∀ {m k : Nat}, (fc_hurt s hurt k c).length ≤ (fc_hurt s hurt (k + m) c).length
  | 0, _ => Nat.le_refl _
  | m + 1, k => by
    refine Nat.le_trans (fc_hurt_le hc (m := m) (k := k)) ?_
    show _ ≤ (fc_hurt s hurt (k + m + 1) c).length
    rw [fc_hurt_s]
    split
    · exact fc_clr_le hc
    · exact Nat.le_refl _
theorem ct_down (hn : ns ≤ 5) (he : am_gE g e) (hS : cl_P e nw ns room idle A s S) (I : fc_iK ns s.1) (Io : fc_iO ns s.1) {q : Nat} (hq : q < 4 * ns) (hlen0 : ∀ i, i < ns → (fc_down s.1 q (30 + i)).length ≤ 59) : am_M g y_Ct_handleDown "(I)V" 8 179 [.ref (A 2), .int (nI q)] S (fun v S' => v = none ∧ cl_Q e nw ns room idle A s S (fc_down s.1 q) 72 5460 S') := by
  have hid : cl_Q e nw ns room idle A s S s.1 72 5460 S := (cl_Q.id hS).wide (by omega) (by omega)
  have Io' := Io
  obtain ⟨-, ⟨ot, hot, hol, hoe⟩, -⟩ := Io'
  have h3 : S.1 (A 3) = some (31, .inl (am_kI, ot.map Value.int)) := by
    have h1 := cl_a3 hS
    unfold cl_arr at h1
    rw [hot] at h1
    exact h1
  have hgq : fc_get s.1 3 0 q = ot.getD q 0 := by unfold fc_get; rw [hot]; rfl
  have hend : fc_end ns (ot.getD q 0) := hoe _ (by rw [List.getD_eq_getElem?_getD, List.getElem?_eq_getElem (by omega)]; exact List.getElem_mem _)
  rcases hend with hend | ⟨o, ho4, hend⟩
  · refine am_Mof (L0 := [some (.ref (A 2)), some (.int (nI q)), none, none, none, none]) pl_Ct_handleDown (am_k1 rfl (am_k1 rfl am_k0)) (Nat.le_of_ble_eq_true rfl) rfl ?_
    refine am_aload_n d_Ct_handleDown_0 rfl (by first | exact am_rvR _ | exact am_rvN | assumption) ?_
    refine am_get d_Ct_handleDown_1 f_Ct_15 (cl_ctl hS) (by rfl) ?_
    refine am_iload_n d_Ct_handleDown_4 rfl ?_
    refine am_iald (j := q) d_Ct_handleDown_5 am_kI_ok h3 rfl (cl_fld (by omega)) (by simp; omega) ?_
    rw [hend]
    refine am_istore_n (L1 := [_, _, _, _, _, _]) d_Ct_handleDown_6 (by decide) rfl ?_
    refine am_iload_n d_Ct_handleDown_7 rfl ?_
    refine am_iconst (v := (-1)) d_Ct_handleDown_8 (by decide) ?_
    refine am_icmp_ne (tgt := 13) d_Ct_handleDown_9 (by decide) (fun q => absurd rfl q) (fun _ => ?_)
    refine am_vret d_Ct_handleDown_12 rfl ?_
    refine ⟨rfl, ?_⟩
    unfold fc_down
    rw [hgq, if_pos hend]
    exact hid
  have ed : fc_down s.1 q = fc_hurt (fc_up s.1 3 [(ot.set q (-1)).set o (-1)]) (fun w => w.any (fun x => x == nI q) || w.any (fun x => x == nI o)) (s.1 7).length := by
    unfold fc_down fc_len
    rw [hgq, hend, if_neg (cl_ix_ne (by omega)), nI_clamp (by omega), hot]
    rfl
  obtain ⟨s0a, e0a, b0a, hS0a, hf0a⟩ := cl_setA (row' := ot.set q (-1)) hS (Or.inl ⟨rfl, rfl⟩) h3
  have h3a := am_up_at S (A 3) 31 (.inl (am_kI, (ot.set q (-1)).map Value.int))
  obtain ⟨s0, e0, b0, hS0, hf0⟩ := cl_setA (row' := (ot.set q (-1)).set o (-1)) hS0a (Or.inl ⟨rfl, rfl⟩) h3a
  have e00 : s0.1 = fc_up s.1 3 [(ot.set q (-1)).set o (-1)] := by
    rw [e0, e0a]
    funext c
    simp only [fc_up_at]
    by_cases c3 : c = 3 <;> simp [c3]
  have I0 : fc_iK ns s0.1 := I.same (by rw [e00, fc_up_ne _ (by omega)])
  have Io0 : fc_iO ns s0.1 := by
    obtain ⟨g2, g3, g4, g5⟩ := Io
    rw [e00]
    refine ⟨by rw [fc_up_ne _ (by omega)]; exact g2, ⟨_, fc_up_same _ _ _, by rw [List.length_set, List.length_set]; exact hol, fun x hx => ?_⟩, by rw [fc_up_ne _ (by omega)]; exact g4, by rw [fc_up_ne _ (by omega)]; exact g5⟩
    rcases List.mem_or_eq_of_mem_set hx with h1 | h1
    · rcases List.mem_or_eq_of_mem_set h1 with h2 | h2
      · exact hoe x h2
      · exact Or.inl h2
    · exact Or.inl h1
  have hlen : ∀ i, i < ns → (fc_hurt s0.1 (fun w => w.any (fun x => x == nI q) || w.any (fun x => x == nI o)) (s0.1 7).length (30 + i)).length ≤ 59 := fun i hi => by
    have h := hlen0 i hi
    rw [ed, ← e00, show (s.1 7).length = (s0.1 7).length from by rw [e00, fc_up_ne _ (by omega)]] at h
    exact h
  have key : ∀ (m k : Nat) (s1 : cl_S) (S1 : am_S) (o4 o5 : Option Value), k + m = (s0.1 7).length → s1.1 = fc_hurt s0.1 (fun w => w.any (fun x => x == nI q) || w.any (fun x => x == nI o)) k → s1.2.2.1 ≤ s.2.2.1 + 12 * k → s1.2.2.2 ≤ s.2.2.2 + 910 * k → cl_P e nw ns room idle A s1 S1 → am_fr cl_X S S1 → am_W g y_Ct_handleDown 8 179 (fun v S' => v = none ∧ cl_Q e nw ns room idle A s S (fc_down s.1 q) 72 5460 S') 29 [some (.ref (A 2)), some (.int (nI q)), some (.int (nI o)), some (.int (nI k)), o4, o5] [] S1 := by
    intro m
    induction m with
    | zero =>
      intro k s1 S1 o4 o5 hk e1 b1 b2 hS1 hf1
      obtain ⟨J, Jo, hl, hj⟩ := fc_hurt_ok I0 Io0 (fun w => w.any (fun x => x == nI q) || w.any (fun x => x == nI o)) k (by omega)
      rw [← e1] at J Jo hl hj
      have h6 := J.1
      have hL : cl_isL ns 7 := Or.inl rfl
      have ek : k = (s0.1 7).length := by omega
      refine am_iload_n d_Ct_handleDown_29 rfl ?_
      refine am_aload_n d_Ct_handleDown_30 rfl (by first | exact am_rvR _ | exact am_rvN | assumption) ?_
      refine am_get d_Ct_handleDown_31 f_Ct_29 (cl_ctl hS1) (by rfl) ?_
      refine am_cV (b := A 7) d_Ct_handleDown_34 v_Ct_123 (vs := []) (st := [.int (nI k)]) rfl rfl (by decide) (Nat.le_of_ble_eq_true rfl) (cl_list hS1 hL).1.choose_spec.choose_spec.choose_spec.choose_spec.1 (cl_size hS1 hL) ?_
      rintro v S1 ⟨rfl, rfl⟩
      refine am_icmp_geN (tgt := 103) d_Ct_handleDown_37 (by decide) (by omega) (by omega) (fun _ => ?_) (fun q => absurd q (by omega))
      refine am_vret d_Ct_handleDown_103 rfl ?_
      refine ⟨rfl, s1, ?_, ⟨by have := I.1; rw [show (s0.1 7).length = (s.1 7).length from by rw [e00, fc_up_ne _ (by omega)]] at ek; omega, by have := I.1; rw [show (s0.1 7).length = (s.1 7).length from by rw [e00, fc_up_ne _ (by omega)]] at ek; omega⟩, hS1, hf1⟩
      rw [e1, ed, ← e00, ek, show (s.1 7).length = (s0.1 7).length from by rw [e00, fc_up_ne _ (by omega)]]
    | succ m ih =>
      intro k s1 S1 o4 o5 hk e1 b1 b2 hS1 hf1
      obtain ⟨J, Jo, hl, hj⟩ := fc_hurt_ok I0 Io0 (fun w => w.any (fun x => x == nI q) || w.any (fun x => x == nI o)) k (by omega)
      rw [← e1] at J Jo hl hj
      have h6 := J.1
      have hL : cl_isL ns 7 := Or.inl rfl
      obtain ⟨a, w, f, t, l, kv, st, wv, aw, kp, kn, way, ha, hr, ho, hw, hkv, hf6, ht6, hst, hkp, hw1, hw5, hlw, hway⟩ := cl_cr hS1 J (k := k) (by omega)
      have hr0 : (s0.1 7)[k]? = some ([nI f, nI t, st, wv, aw, nI l, kp, kn] ++ way) := by rw [← hj k (Nat.le_refl _)]; exact hr
      have ho0 : S1.1 a = some (73, .inr (am_cCo, [.int (nI f), .int (nI t), .int st, .ref w, kv, .int wv, .int aw, .int (nI l)])) := ho
      have es := fc_hurt_s s0.1 (fun w => w.any (fun x => x == nI q) || w.any (fun x => x == nI o)) k
      rw [fc_way_row hr0, fc_get_row hr0, ← e1, show ([nI f, nI t, st, wv, aw, nI l, kp, kn] ++ way).getD 2 0 = st from rfl] at es
      refine am_iload_n d_Ct_handleDown_29 rfl ?_
      refine am_aload_n d_Ct_handleDown_30 rfl (by first | exact am_rvR _ | exact am_rvN | assumption) ?_
      refine am_get d_Ct_handleDown_31 f_Ct_29 (cl_ctl hS1) (by rfl) ?_
      refine am_cV (b := A 7) d_Ct_handleDown_34 v_Ct_123 (vs := []) (st := [.int (nI k)]) rfl rfl (by decide) (Nat.le_of_ble_eq_true rfl) (cl_list hS1 hL).1.choose_spec.choose_spec.choose_spec.choose_spec.1 (cl_size hS1 hL) ?_
      rintro v S1 ⟨rfl, rfl⟩
      refine am_icmp_geN (tgt := 103) d_Ct_handleDown_37 (by decide) (by omega) (by omega) (fun q => absurd q (by omega)) (fun _ => ?_)
      refine am_aload_n d_Ct_handleDown_40 rfl (by first | exact am_rvR _ | exact am_rvN | assumption) ?_
      refine am_get d_Ct_handleDown_41 f_Ct_29 (cl_ctl hS1) (by rfl) ?_
      refine am_iload_n d_Ct_handleDown_44 rfl ?_
      refine am_cV (b := A 7) d_Ct_handleDown_45 v_Ct_148 (vs := [.int (nI k)]) (st := []) rfl rfl (by decide) (Nat.le_of_ble_eq_true rfl) (cl_list hS1 hL).1.choose_spec.choose_spec.choose_spec.choose_spec.1 (cl_getM hS1 hL ha) ?_
      rintro v S1 ⟨rfl, rfl⟩
      refine am_cast d_Ct_handleDown_48 k_Ct_99 (q := am_qCo) rfl (Or.inl rfl) ho0 ?_
      refine am_astore (L1 := [_, _, _, _, _, _]) d_Ct_handleDown_51 (by decide) (by first | exact am_rvR _ | exact am_rvN | assumption) rfl ?_
      refine am_aload d_Ct_handleDown_53 rfl (by first | exact am_rvR _ | exact am_rvN | assumption) ?_
      refine am_iload_n d_Ct_handleDown_55 rfl ?_
      refine am_cV (b := a) d_Ct_handleDown_56 v_Ct_194 (vs := [.int (nI q)]) (st := []) rfl rfl (by decide) (Nat.le_of_ble_eq_true rfl) ho0 (co_out ho hw hw5 _) ?_
      rintro v S2 ⟨rfl, rfl⟩
      first | refine am_if_neB (tgt := 71) d_Ct_handleDown_59 (by decide) (fun q1 => ?_) (fun q1 => ?_) | refine am_if_neN (tgt := 71) d_Ct_handleDown_59 (by decide) (by omega) (fun q1 => ?_) (fun q1 => ?_) | refine am_if_ne (tgt := 71) d_Ct_handleDown_59 (by decide) (fun q1 => ?_) (fun q1 => ?_)
      · refine am_iconst (v := nI 1) d_Ct_handleDown_71 (by decide) ?_
        refine am_goto (tgt := 76) d_Ct_handleDown_72 (by decide) ?_
        refine am_istore (L1 := [_, _, _, _, _, _]) d_Ct_handleDown_76 (by decide) rfl ?_
        refine am_iload d_Ct_handleDown_78 rfl ?_
        refine am_if_eqN (tgt := 97) d_Ct_handleDown_80 (by decide) (by omega) (fun q => absurd q (by omega)) (fun _ => ?_)
        refine am_aload d_Ct_handleDown_83 rfl (by first | exact am_rvR _ | exact am_rvN | assumption) ?_
        refine am_cV (b := a) d_Ct_handleDown_85 v_Ct_156 (vs := []) (st := []) rfl rfl (by decide) (Nat.le_of_ble_eq_true rfl) ho0 (co_lay ho) ?_
        rintro v S2 ⟨rfl, rfl⟩
        first | refine am_if_eqB (tgt := 97) d_Ct_handleDown_88 (by decide) (fun q2 => ?_) (fun q2 => ?_) | refine am_if_eqN (tgt := 97) d_Ct_handleDown_88 (by decide) (by omega) (fun q2 => ?_) (fun q2 => ?_) | refine am_if_eq (tgt := 97) d_Ct_handleDown_88 (by decide) (fun q2 => ?_) (fun q2 => ?_)
        · first | refine am_iincN (b := 1) (L1 := [_, _, _, _, _, _]) d_Ct_handleDown_97 rfl (by decide) (by decide) rfl ?_ | refine am_iinc (L1 := [_, _, _, _, _, _]) d_Ct_handleDown_97 rfl rfl (by decide) rfl ?_
          refine am_goto (tgt := 29) d_Ct_handleDown_100 (by decide) ?_
          first
            | (rw [if_neg (by first | exact am_hno1 (by assumption) (by assumption) | exact am_hno2 (by assumption))] at es
               exact ih (k + 1) s1 _ _ _ (by omega) es.symm (by omega) (by omega) hS1 hf1)
            | (rw [if_pos (by first | exact am_hy1 (by assumption) (by assumption) | exact am_hy2 (by assumption) (by assumption))] at es
               have d1 : s3.2.2.1 ≤ s.2.2.1 + (12 * k + 12) := by omega
               have d2 : s3.2.2.2 ≤ s.2.2.2 + (910 * k + 910) := Nat.le_trans c2 (by rw [← Nat.add_assoc]; exact Nat.add_le_add_right b2 910)
               exact ih (k + 1) s3 _ _ _ (by omega) (by rw [es]; exact e3) d1 d2 hS3 (hf1.trans hf3))
        · refine am_aload_n d_Ct_handleDown_91 rfl (by first | exact am_rvR _ | exact am_rvN | assumption) ?_
          refine am_aload d_Ct_handleDown_92 rfl (by first | exact am_rvR _ | exact am_rvN | assumption) ?_
          refine am_cV (b := A 2) d_Ct_handleDown_94 v_Ct_107 (vs := [.ref a]) (st := []) rfl rfl (by decide) (Nat.le_of_ble_eq_true rfl) (cl_ctl hS1) (ct_clr hn he hS1 J Jo ha (fun i hi => by
              rw [if_pos (by first | exact am_hy1 (by assumption) (by assumption) | exact am_hy2 (by assumption) (by assumption))] at es
              have h59 := hlen i hi
              have hmono := fc_hurt_le (s := s0.1) (hurt := (fun w => w.any (fun x => x == nI q) || w.any (fun x => x == nI o))) (c := 30 + i) (by omega) (m := m) (k := k + 1)
              rw [show k + 1 + m = (s0.1 7).length by omega, es] at hmono
              omega)) ?_
          rintro v S3 ⟨rfl, s3, e3, ⟨c1, c2⟩, hS3, hf3⟩
          first | refine am_iincN (b := 1) (L1 := [_, _, _, _, _, _]) d_Ct_handleDown_97 rfl (by decide) (by decide) rfl ?_ | refine am_iinc (L1 := [_, _, _, _, _, _]) d_Ct_handleDown_97 rfl rfl (by decide) rfl ?_
          refine am_goto (tgt := 29) d_Ct_handleDown_100 (by decide) ?_
          first
            | (rw [if_neg (by first | exact am_hno1 (by assumption) (by assumption) | exact am_hno2 (by assumption))] at es
               exact ih (k + 1) s1 _ _ _ (by omega) es.symm (by omega) (by omega) hS1 hf1)
            | (rw [if_pos (by first | exact am_hy1 (by assumption) (by assumption) | exact am_hy2 (by assumption) (by assumption))] at es
               have d1 : s3.2.2.1 ≤ s.2.2.1 + (12 * k + 12) := by omega
               have d2 : s3.2.2.2 ≤ s.2.2.2 + (910 * k + 910) := Nat.le_trans c2 (by rw [← Nat.add_assoc]; exact Nat.add_le_add_right b2 910)
               exact ih (k + 1) s3 _ _ _ (by omega) (by rw [es]; exact e3) d1 d2 hS3 (hf1.trans hf3))
      · refine am_aload d_Ct_handleDown_62 rfl (by first | exact am_rvR _ | exact am_rvN | assumption) ?_
        refine am_iload_n d_Ct_handleDown_64 rfl ?_
        refine am_cV (b := a) d_Ct_handleDown_65 v_Ct_194 (vs := [.int (nI o)]) (st := []) rfl rfl (by decide) (Nat.le_of_ble_eq_true rfl) ho0 (co_out ho hw hw5 _) ?_
        rintro v S2 ⟨rfl, rfl⟩
        first | refine am_if_eqB (tgt := 75) d_Ct_handleDown_68 (by decide) (fun q3 => ?_) (fun q3 => ?_) | refine am_if_eqN (tgt := 75) d_Ct_handleDown_68 (by decide) (by omega) (fun q3 => ?_) (fun q3 => ?_) | refine am_if_eq (tgt := 75) d_Ct_handleDown_68 (by decide) (fun q3 => ?_) (fun q3 => ?_)
        · refine am_iconst (v := nI 0) d_Ct_handleDown_75 (by decide) ?_
          refine am_istore (L1 := [_, _, _, _, _, _]) d_Ct_handleDown_76 (by decide) rfl ?_
          refine am_iload d_Ct_handleDown_78 rfl ?_
          refine am_if_eqN (tgt := 97) d_Ct_handleDown_80 (by decide) (by omega) (fun _ => ?_) (fun q => absurd q (by omega))
          first | refine am_iincN (b := 1) (L1 := [_, _, _, _, _, _]) d_Ct_handleDown_97 rfl (by decide) (by decide) rfl ?_ | refine am_iinc (L1 := [_, _, _, _, _, _]) d_Ct_handleDown_97 rfl rfl (by decide) rfl ?_
          refine am_goto (tgt := 29) d_Ct_handleDown_100 (by decide) ?_
          first
            | (rw [if_neg (by first | exact am_hno1 (by assumption) (by assumption) | exact am_hno2 (by assumption))] at es
               exact ih (k + 1) s1 _ _ _ (by omega) es.symm (by omega) (by omega) hS1 hf1)
            | (rw [if_pos (by first | exact am_hy1 (by assumption) (by assumption) | exact am_hy2 (by assumption) (by assumption))] at es
               have d1 : s3.2.2.1 ≤ s.2.2.1 + (12 * k + 12) := by omega
               have d2 : s3.2.2.2 ≤ s.2.2.2 + (910 * k + 910) := Nat.le_trans c2 (by rw [← Nat.add_assoc]; exact Nat.add_le_add_right b2 910)
               exact ih (k + 1) s3 _ _ _ (by omega) (by rw [es]; exact e3) d1 d2 hS3 (hf1.trans hf3))
        · refine am_iconst (v := nI 1) d_Ct_handleDown_71 (by decide) ?_
          refine am_goto (tgt := 76) d_Ct_handleDown_72 (by decide) ?_
          refine am_istore (L1 := [_, _, _, _, _, _]) d_Ct_handleDown_76 (by decide) rfl ?_
          refine am_iload d_Ct_handleDown_78 rfl ?_
          refine am_if_eqN (tgt := 97) d_Ct_handleDown_80 (by decide) (by omega) (fun q => absurd q (by omega)) (fun _ => ?_)
          refine am_aload d_Ct_handleDown_83 rfl (by first | exact am_rvR _ | exact am_rvN | assumption) ?_
          refine am_cV (b := a) d_Ct_handleDown_85 v_Ct_156 (vs := []) (st := []) rfl rfl (by decide) (Nat.le_of_ble_eq_true rfl) ho0 (co_lay ho) ?_
          rintro v S2 ⟨rfl, rfl⟩
          first | refine am_if_eqB (tgt := 97) d_Ct_handleDown_88 (by decide) (fun q4 => ?_) (fun q4 => ?_) | refine am_if_eqN (tgt := 97) d_Ct_handleDown_88 (by decide) (by omega) (fun q4 => ?_) (fun q4 => ?_) | refine am_if_eq (tgt := 97) d_Ct_handleDown_88 (by decide) (fun q4 => ?_) (fun q4 => ?_)
          · first | refine am_iincN (b := 1) (L1 := [_, _, _, _, _, _]) d_Ct_handleDown_97 rfl (by decide) (by decide) rfl ?_ | refine am_iinc (L1 := [_, _, _, _, _, _]) d_Ct_handleDown_97 rfl rfl (by decide) rfl ?_
            refine am_goto (tgt := 29) d_Ct_handleDown_100 (by decide) ?_
            first
              | (rw [if_neg (by first | exact am_hno1 (by assumption) (by assumption) | exact am_hno2 (by assumption))] at es
                 exact ih (k + 1) s1 _ _ _ (by omega) es.symm (by omega) (by omega) hS1 hf1)
              | (rw [if_pos (by first | exact am_hy1 (by assumption) (by assumption) | exact am_hy2 (by assumption) (by assumption))] at es
                 have d1 : s3.2.2.1 ≤ s.2.2.1 + (12 * k + 12) := by omega
                 have d2 : s3.2.2.2 ≤ s.2.2.2 + (910 * k + 910) := Nat.le_trans c2 (by rw [← Nat.add_assoc]; exact Nat.add_le_add_right b2 910)
                 exact ih (k + 1) s3 _ _ _ (by omega) (by rw [es]; exact e3) d1 d2 hS3 (hf1.trans hf3))
          · refine am_aload_n d_Ct_handleDown_91 rfl (by first | exact am_rvR _ | exact am_rvN | assumption) ?_
            refine am_aload d_Ct_handleDown_92 rfl (by first | exact am_rvR _ | exact am_rvN | assumption) ?_
            refine am_cV (b := A 2) d_Ct_handleDown_94 v_Ct_107 (vs := [.ref a]) (st := []) rfl rfl (by decide) (Nat.le_of_ble_eq_true rfl) (cl_ctl hS1) (ct_clr hn he hS1 J Jo ha (fun i hi => by
                rw [if_pos (by first | exact am_hy1 (by assumption) (by assumption) | exact am_hy2 (by assumption) (by assumption))] at es
                have h59 := hlen i hi
                have hmono := fc_hurt_le (s := s0.1) (hurt := (fun w => w.any (fun x => x == nI q) || w.any (fun x => x == nI o))) (c := 30 + i) (by omega) (m := m) (k := k + 1)
                rw [show k + 1 + m = (s0.1 7).length by omega, es] at hmono
                omega)) ?_
            rintro v S3 ⟨rfl, s3, e3, ⟨c1, c2⟩, hS3, hf3⟩
            first | refine am_iincN (b := 1) (L1 := [_, _, _, _, _, _]) d_Ct_handleDown_97 rfl (by decide) (by decide) rfl ?_ | refine am_iinc (L1 := [_, _, _, _, _, _]) d_Ct_handleDown_97 rfl rfl (by decide) rfl ?_
            refine am_goto (tgt := 29) d_Ct_handleDown_100 (by decide) ?_
            first
              | (rw [if_neg (by first | exact am_hno1 (by assumption) (by assumption) | exact am_hno2 (by assumption))] at es
                 exact ih (k + 1) s1 _ _ _ (by omega) es.symm (by omega) (by omega) hS1 hf1)
              | (rw [if_pos (by first | exact am_hy1 (by assumption) (by assumption) | exact am_hy2 (by assumption) (by assumption))] at es
                 have d1 : s3.2.2.1 ≤ s.2.2.1 + (12 * k + 12) := by omega
                 have d2 : s3.2.2.2 ≤ s.2.2.2 + (910 * k + 910) := Nat.le_trans c2 (by rw [← Nat.add_assoc]; exact Nat.add_le_add_right b2 910)
                 exact ih (k + 1) s3 _ _ _ (by omega) (by rw [es]; exact e3) d1 d2 hS3 (hf1.trans hf3))
  refine am_Mof (L0 := [some (.ref (A 2)), some (.int (nI q)), none, none, none, none]) pl_Ct_handleDown (am_k1 rfl (am_k1 rfl am_k0)) (Nat.le_of_ble_eq_true rfl) rfl ?_
  refine am_aload_n d_Ct_handleDown_0 rfl (by first | exact am_rvR _ | exact am_rvN | assumption) ?_
  refine am_get d_Ct_handleDown_1 f_Ct_15 (cl_ctl hS) (by rfl) ?_
  refine am_iload_n d_Ct_handleDown_4 rfl ?_
  refine am_iald (j := q) d_Ct_handleDown_5 am_kI_ok h3 rfl (cl_fld (by omega)) (by simp; omega) ?_
  rw [hend]
  refine am_istore_n (L1 := [_, _, _, _, _, _]) d_Ct_handleDown_6 (by decide) rfl ?_
  refine am_iload_n d_Ct_handleDown_7 rfl ?_
  refine am_iconst (v := (-1)) d_Ct_handleDown_8 (by decide) ?_
  refine am_icmp_ne (tgt := 13) d_Ct_handleDown_9 (by decide) (fun _ => ?_) (fun q => absurd q (cl_ix_ne (by omega)))
  refine am_aload_n d_Ct_handleDown_13 rfl (by first | exact am_rvR _ | exact am_rvN | assumption) ?_
  refine am_get d_Ct_handleDown_14 f_Ct_15 (cl_ctl hS) (by rfl) ?_
  refine am_iload_n d_Ct_handleDown_17 rfl ?_
  refine am_iconst (v := (-1)) d_Ct_handleDown_18 (by decide) ?_
  refine am_iast (j := q) d_Ct_handleDown_19 am_kI_ok h3 (by decide) rfl (by simp; omega) (by simp; omega) ?_
  rw [show (ot.map Value.int).set q (.int (-1)) = (ot.set q (-1)).map Value.int from (List.map_set).symm]
  refine am_aload_n d_Ct_handleDown_20 rfl (by first | exact am_rvR _ | exact am_rvN | assumption) ?_
  refine am_get d_Ct_handleDown_21 f_Ct_15 (cl_ctl hS0a) (by rfl) ?_
  refine am_iload_n d_Ct_handleDown_24 rfl ?_
  refine am_iconst (v := (-1)) d_Ct_handleDown_25 (by decide) ?_
  refine am_iast (j := o) d_Ct_handleDown_26 am_kI_ok h3a (by decide) rfl (by simp; omega) (by simp; omega) ?_
  rw [show ((ot.set q (-1)).map Value.int).set o (.int (-1)) = ((ot.set q (-1)).set o (-1)).map Value.int from (List.map_set).symm]
  refine am_iconst (v := nI 0) d_Ct_handleDown_27 (by decide) ?_
  refine am_istore_n (L1 := [_, _, _, _, _, _]) d_Ct_handleDown_28 (by decide) rfl ?_
  exact key _ 0 s0 _ none none (Nat.zero_add _) rfl (by rw [b0, b0a]; omega) (by rw [b0, b0a]; omega) hS0 (hf0a.trans hf0)
end CTF
