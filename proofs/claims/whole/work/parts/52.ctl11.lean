/-! the class: ways are found -/
section CTK
variable {g : am_G} {e nw ns room idle : Nat} {A : Nat → Nat} {s : cl_S} {S : am_S}
theorem am_ac {s : State} {cA : ClassId} {ty : FieldType} (args : Array Value) (h1 : ArrOfT s cA ty) (h2 : s.vm.findClass ("[" ++ ty.toString) = some cA) : (Cond.arrayClass ty).before args s = true := by
  obtain ⟨-, k, hk, comp, hkind⟩ := h1 0 (fun _ => .null)
  have hk' : s.vm.classes[cA]? = some k := hk
  show ((Cond.arrayClass ty).holds args s none s []) = true
  simp [Cond.holds, Cond.value, h2, hk', hkind]
/-- a new array of numbers -/
theorem am_newi {y : am_N} {d lo pc pc1 : Nat} {post : Option Value → am_S → Prop} {L : List (Option Value)} {st : List Value} {t : Nat} (tg : Nat) {atype : ArrayType} {x : Int32} {N : Nat} {v : Value} (hd : am_D y.2.2.1 pc (.newarray atype) 2 pc1) (ht : am_ak[t]? = some (newarray.typeOf atype)) (hx : ¬ x < 0) (hN : x.toNatClampNeg = N) (hbytes : N * componentBytes (newarray.typeOf atype) ≤ 536870912) (hv : defaultValue (newarray.typeOf atype) = v)
    (h : am_W g y d lo post pc1 L (.ref S.2.1 :: st) (am_mk S tg N (.inl (t, List.replicate N v)))) : am_W g y d lo post pc L (.int x :: st) S := by
  obtain ⟨hd, rfl⟩ := hd
  refine am_liftN (by rfl) (by rfl) (fun k n rv RS h => ?_) h
  intro p e s m args below meth c H locs cells slots mc ms ls Y
  obtain ⟨y1, y2, y3, y4, y5, y6, y7, hT, y9, y10, y11, hR, hL⟩ := Y
  subst hv
  have h2 : s.vm.findClass ("[" ++ (newarray.typeOf atype).toString) = some (g.arr t) := by
    have h1 := (hT.2.2.2.2.2.2.1 t _ ht).2
    cases atype <;> exact h1
  refine va_newaK y1 y2 (am_ac args (hT.2.2.2.2.2.2.1 t _ ht).1 h2) rfl hd rfl hx hN hbytes (by show cells + 1 ≤ mc; omega) (by show slots + N ≤ ms; omega) (h := S.2.1) hR.1 fun H1 cA e1 z1 o1 hAr hNm => ?_
  have hcA : cA = g.arr t := Option.some.inj (hNm.symm.trans h2)
  refine h p e s m args below meth c H1 locs (cells + 1) (slots + N) mc ms ls ⟨y1, y2, y3, y4, y5, y6, y7, hT, by omega, by omega, y11, ?_, hL⟩
  refine hR.push _ _ (by rw [hR.1]; exact z1) (fun x hx => o1 x (by rw [← hR.1]; exact hx)) ?_
  refine Or.inl ?_
  show H1[S.2.1]? = some (am_cell (g.arr t) (List.replicate N _))
  rw [← hcA, ← am_newcell]
  exact e1
theorem cl_set6 (hS : cl_P e nw ns room idle A s S) {f f' : Nat → Int32} (h6 : S.1 (A 6) = some (61, .inl (am_kI, fr_ls ns f))) : cl_P e nw ns room idle A s (am_up S (A 6) 61 (.inl (am_kI, fr_ls ns f'))) ∧ am_fr cl_X S (am_up S (A 6) 61 (.inl (am_kI, fr_ls ns f'))) := by
  refine ⟨?_, am_fr.up h6 (by unfold cl_X; omega)⟩
  refine cl_P.upd 6 hS (am_fr.up h6 (by unfold cl_Xc; omega)) hS.1.2.1 hS.1.2.2 (fun q hq => ⟨rfl, rfl⟩) (fun _ _ _ => rfl) ?_
  refine ⟨fun z => ?_, fun z => ?_, fun z => ?_, fun z => ?_, fun z => ?_, fun z => ?_, fun _ => ⟨f', am_up_at _ _ _ _⟩, fun q' hq' z => ?_, fun z => ?_⟩
  rotate_left 7
  · unfold cl_isL at z; omega
  all_goals omega
theorem pw_at_z {n : Nat} {E : Nat → Nat → Bool} {v d u : Nat} : pw_at n E v d u 0 = u := by cases d <;> rfl
theorem pw_at_s {n : Nat} {E : Nat → Nat → Bool} {v : Nat} : ∀ {d u k : Nat}, k < d → pw_at n E v d u (k + 1) = pw_nx n E (d - k - 1) (pw_at n E v d u k) v
  | 0, _, _, h => absurd h (Nat.not_lt_zero _)
  | d + 1, u, 0, _ => by
    rw [pw_at_z]
    show pw_at n E v d (pw_nx n E d u v) 0 = _
    rw [pw_at_z]
    rfl
  | d + 1, u, k + 1, h => by
    show pw_at n E v d (pw_nx n E d u v) (k + 1) = pw_nx n E (d + 1 - (k + 1) - 1) (pw_at n E v d (pw_nx n E d u v) k) v
    rw [pw_at_s (by omega)]
    congr 1
    omega
theorem pw_at_L {n : Nat} {E : Nat → Nat → Bool} {v r : Nat} : ∀ {d u k : Nat}, pw_L n E v r u = some d → k ≤ d → pw_L n E v r (pw_at n E v d u k) = some (d - k)
  | d, u, 0, h, _ => by rw [pw_at_z]; exact h
  | 0, _, k + 1, _, hk => absurd hk (by omega)
  | d + 1, u, k + 1, h, hk => by
    obtain ⟨h1, h2, h3⟩ := pw_nx_ok (pw_L_some.mp h).2.1
    show pw_L n E v r (pw_at n E v d (pw_nx n E d u v) k) = some (d + 1 - (k + 1))
    rw [pw_at_L ((pw_near h h1 h2).mpr h3) (by omega), show d + 1 - (k + 1) = d - k by omega]
theorem fc_ld_ok {s : fc_S} {u q : Nat} (h : fc_E s u q = true) : fc_ld s u q < 4 ∧ ∃ o, fc_oth s (4 * u + fc_ld s u q) = some o ∧ o / 4 = q := by
  obtain ⟨p, hp, o, h1, h2⟩ := fc_E_iff.mp h
  have l : fc_ld s u q ≤ p := pw_least_lt hp (by rw [h1]; simp [h2])
  have l4 : fc_ld s u q < 4 := by omega
  refine ⟨l4, ?_⟩
  have h5 := (pw_least_spec (fun p => (fc_oth s (4 * u + p)).any (fun e => e / 4 == q)) 4).1 l4
  rw [Option.any_eq_true] at h5
  obtain ⟨o', h6, h7⟩ := h5
  exact ⟨o', h6, by simpa using h7⟩
/-- the ends of a way but the last -/
def fc_wF (ns : Nat) (s : fc_S) (v d u i : Nat) : Int32 := nI (4 * pw_at ns (fc_E s) v d u i + fc_ld s (pw_at ns (fc_E s) v d u i) (pw_at ns (fc_E s) v d u (i + 1)))
theorem fc_wayOf_no {s : fc_S} {f t : Nat} (hf : f < 1000) (ht : t < 1000) (h : fc_get s 5 0 f = -1 ∨ fc_get s 5 0 t = -1) : fc_wayOf ns s (nI f) (nI t) = [] := by
  unfold fc_wayOf
  rw [nI_clamp (by omega), nI_clamp (by omega), if_pos h]
theorem fc_wayOf_yes {s : fc_S} {f t a b : Nat} (hf : f < 1000) (ht : t < 1000) (ha : a < 1000) (hb : b < 1000) (h5f : fc_get s 5 0 f = nI a) (h5t : fc_get s 5 0 t = nI b) : fc_wayOf ns s (nI f) (nI t) = match pw_L ns (fc_E s) (b / 4) ns (a / 4) with | none => [] | some d => (List.range d).map (fc_wF ns s (b / 4) d (a / 4)) ++ [nI b] := by
  unfold fc_wayOf
  rw [nI_clamp (n := f) (by omega), nI_clamp (n := t) (by omega), h5f, h5t, if_neg (fun z => z.elim (cl_ix_ne (by omega)) (cl_ix_ne (by omega))), nI_clamp (n := a) (by omega), nI_clamp (n := b) (by omega)]
  rfl
theorem fc_wF_ok {s : fc_S} {v d u i : Nat} (hu : u < ns) (hL : pw_wk ns (fc_E s) d u v = true) (hi : i < d) : ∃ m, m < 4 * ns ∧ fc_wF ns s v d u i = nI m := by
  have h1 := pw_at_lt (i := i) hu hL (by omega)
  have h2 := (fc_ld_ok (pw_at_edge hL hi)).1
  exact ⟨_, by omega, rfl⟩
theorem fc_plc {s : fc_S} (Io : fc_iO ns s) {f : Nat} (hf : f < 6) : fc_end ns (fc_get s 5 0 f) := by
  obtain ⟨-, -, -, ⟨p, h5, h5l, h5e⟩⟩ := Io
  rw [fc_get3 h5]
  exact h5e _ (by rw [List.getD_eq_getElem?_getD, List.getElem?_eq_getElem (by omega)]; exact List.getElem_mem _)
/-- a way: at most five ends -/
theorem fc_wayOf_ok {s : fc_S} (hn : ns ≤ 5) (Io : fc_iO ns s) {f t : Nat} (hf : f < 6) (ht : t < 6) : (fc_wayOf ns s (nI f) (nI t)).length ≤ 5 ∧ ∀ x ∈ fc_wayOf ns s (nI f) (nI t), ∃ m, m < 4 * ns ∧ x = nI m := by
  have nil : ([] : List Int32).length ≤ 5 ∧ ∀ x ∈ ([] : List Int32), ∃ m, m < 4 * ns ∧ x = nI m := ⟨by decide, fun x hx => by cases hx⟩
  rcases fc_plc Io hf with h1 | ⟨a, ha, h1⟩
  · rw [fc_wayOf_no (by omega) (by omega) (Or.inl h1)]; exact nil
  rcases fc_plc Io ht with h2 | ⟨b, hb, h2⟩
  · rw [fc_wayOf_no (by omega) (by omega) (Or.inr h2)]; exact nil
  rw [fc_wayOf_yes (by omega) (by omega) (by omega) (by omega) h1 h2]
  cases hL : pw_L ns (fc_E s) (b / 4) ns (a / 4) with
  | none => exact nil
  | some d =>
    have hw := pw_L_some.mp hL
    have hd := pw_short (by omega) hw.2.1 hw.2.2
    refine ⟨by simp; omega, fun x hx => ?_⟩
    rcases List.mem_append.mp hx with hx | hx
    · obtain ⟨i, hi, rfl⟩ := List.mem_map.mp hx
      exact fc_wF_ok (by omega) hw.2.1 (List.mem_range.mp hi)
    · exact ⟨b, hb, by simpa using hx⟩
/-- a way under way -/
def fc_ys (F : Nat → Int32) (n k : Nat) : List Int32 := (List.range k).map F ++ List.replicate (n - k) 0
theorem fc_ys_len {F : Nat → Int32} {n k : Nat} (h : k ≤ n) : (fc_ys F n k).length = n := by unfold fc_ys; simp; omega
theorem fc_ys_set {F : Nat → Int32} {n k : Nat} (x : Int32) (h : k < n) : (fc_ys F n k).set k x = (List.range k).map F ++ [x] ++ List.replicate (n - (k + 1)) 0 := by
  unfold fc_ys
  rw [List.set_append_right _ _ (by simp), show n - k = (n - (k + 1)) + 1 by omega, List.replicate_succ]
  simp
theorem fc_ys_s {F : Nat → Int32} {n k : Nat} (h : k < n) : (fc_ys F n k).set k (F k) = fc_ys F n (k + 1) := by
  rw [fc_ys_set _ h]
  unfold fc_ys
  rw [List.range_succ, List.map_append]
  rfl
theorem ct_findWay (hn : ns ≤ 5) (hW : am_gW g nw) (hS : cl_P e nw ns room idle A s S) (Io : fc_iO ns s.1) {f t : Nat} (hf : f < 6) (ht : t < 6) : am_M g y_Ct_findWay "(II)[I" 2 47 [.ref (A 2), .int (nI f), .int (nI t)] S (fun v' S' => ∃ q, v' = some (.ref q) ∧ S'.1 q = some (0, .inl (am_kI, (fc_wayOf ns s.1 (nI f) (nI t)).map Value.int)) ∧ ∃ s' : cl_S, s'.1 = s.1 ∧ (s'.2.1 = s.2.1 ∧ s'.2.2.1 ≤ s.2.2.1 + 1 ∧ s'.2.2.2 ≤ s.2.2.2 + 5) ∧ cl_P e nw ns room idle A s' S' ∧ am_fr cl_X S S') := by
  have Io' := Io
  obtain ⟨-, ⟨ot, h3, h3l, h3e⟩, -, ⟨pl, h5, h5l, h5e⟩⟩ := Io'
  have h3c := cl_at3 hS h3
  have h5c := cl_at5 hS h5
  have hgf := fc_get3 h5 f
  have hgt := fc_get3 h5 t
  have hpf := fc_plc Io hf
  have hpt := fc_plc Io ht
  rcases hpf with hpf | ⟨a, ha, hpf⟩
  · have enil := fc_wayOf_no (ns := ns) (f := f) (t := t) (by omega) (by omega) (Or.inl hpf)
    refine am_Mof (L0 := [some (.ref (A 2)), some (.int (nI f)), some (.int (nI t)), none, none, none, none]) pl_Ct_findWay (am_k1 rfl (am_k1 rfl (am_k1 rfl am_k0))) (Nat.le_of_ble_eq_true rfl) rfl ?_
    refine am_aload_n d_Ct_findWay_0 rfl (by first | exact am_rvR _ | exact am_rvN | assumption) ?_
    refine am_get d_Ct_findWay_1 f_Ct_23 (cl_ctl hS) (by rfl) ?_
    refine am_iload_n d_Ct_findWay_4 rfl ?_
    refine am_iald (j := f) d_Ct_findWay_5 am_kI_ok h5c rfl (cl_fld (by omega)) (by simp; omega) ?_
    rw [← hgf, hpf]
    refine am_iconst (v := (-1)) d_Ct_findWay_6 (by decide) ?_
    refine am_icmp_eq (tgt := 20) d_Ct_findWay_7 (by decide) (fun _ => ?_) (fun z => absurd rfl z)
    refine am_getsN (v := .ref nw) d_Ct_findWay_20 (by exact List.mem_cons_self) hW ?_
    refine am_aret d_Ct_findWay_23 rfl (by first | exact Or.inl ⟨_, rfl⟩ | exact Or.inr ⟨_, rfl⟩) (by first | exact am_rvR _ | exact am_rvN | assumption) ?_
    exact ⟨nw, rfl, by rw [enil]; exact (hS).2.1.2.1, s, rfl, ⟨rfl, by omega, by omega⟩, hS, am_fr.refl _ _⟩
  rcases hpt with hpt | ⟨b, hb, hpt⟩
  · have enil := fc_wayOf_no (ns := ns) (f := f) (t := t) (by omega) (by omega) (Or.inr hpt)
    refine am_Mof (L0 := [some (.ref (A 2)), some (.int (nI f)), some (.int (nI t)), none, none, none, none]) pl_Ct_findWay (am_k1 rfl (am_k1 rfl (am_k1 rfl am_k0))) (Nat.le_of_ble_eq_true rfl) rfl ?_
    refine am_aload_n d_Ct_findWay_0 rfl (by first | exact am_rvR _ | exact am_rvN | assumption) ?_
    refine am_get d_Ct_findWay_1 f_Ct_23 (cl_ctl hS) (by rfl) ?_
    refine am_iload_n d_Ct_findWay_4 rfl ?_
    refine am_iald (j := f) d_Ct_findWay_5 am_kI_ok h5c rfl (cl_fld (by omega)) (by simp; omega) ?_
    rw [← hgf, hpf]
    refine am_iconst (v := (-1)) d_Ct_findWay_6 (by decide) ?_
    refine am_icmp_eq (tgt := 20) d_Ct_findWay_7 (by decide) (fun z => absurd z (cl_ix_ne (by omega))) (fun _ => ?_)
    refine am_aload_n d_Ct_findWay_10 rfl (by first | exact am_rvR _ | exact am_rvN | assumption) ?_
    refine am_get d_Ct_findWay_11 f_Ct_23 (cl_ctl hS) (by rfl) ?_
    refine am_iload_n d_Ct_findWay_14 rfl ?_
    refine am_iald (j := t) d_Ct_findWay_15 am_kI_ok h5c rfl (cl_fld (by omega)) (by simp; omega) ?_
    rw [← hgt, hpt]
    refine am_iconst (v := (-1)) d_Ct_findWay_16 (by decide) ?_
    refine am_icmp_ne (tgt := 24) d_Ct_findWay_17 (by decide) (fun z => absurd rfl z) (fun _ => ?_)
    refine am_getsN (v := .ref nw) d_Ct_findWay_20 (by exact List.mem_cons_self) hW ?_
    refine am_aret d_Ct_findWay_23 rfl (by first | exact Or.inl ⟨_, rfl⟩ | exact Or.inr ⟨_, rfl⟩) (by first | exact am_rvR _ | exact am_rvN | assumption) ?_
    exact ⟨nw, rfl, by rw [enil]; exact (hS).2.1.2.1, s, rfl, ⟨rfl, by omega, by omega⟩, hS, am_fr.refl _ _⟩
  have ew := fc_wayOf_yes (ns := ns) (by omega) (by omega) (by omega) (by omega) hpf hpt
  obtain ⟨f0, h6⟩ := cl_a6 hS
  refine am_Mof (L0 := [some (.ref (A 2)), some (.int (nI f)), some (.int (nI t)), none, none, none, none]) pl_Ct_findWay (am_k1 rfl (am_k1 rfl (am_k1 rfl am_k0))) (Nat.le_of_ble_eq_true rfl) rfl ?_
  refine am_aload_n d_Ct_findWay_0 rfl (by first | exact am_rvR _ | exact am_rvN | assumption) ?_
  refine am_get d_Ct_findWay_1 f_Ct_23 (cl_ctl hS) (by rfl) ?_
  refine am_iload_n d_Ct_findWay_4 rfl ?_
  refine am_iald (j := f) d_Ct_findWay_5 am_kI_ok h5c rfl (cl_fld (by omega)) (by simp; omega) ?_
  rw [← hgf, hpf]
  refine am_iconst (v := (-1)) d_Ct_findWay_6 (by decide) ?_
  refine am_icmp_eq (tgt := 20) d_Ct_findWay_7 (by decide) (fun z => absurd z (cl_ix_ne (by omega))) (fun _ => ?_)
  refine am_aload_n d_Ct_findWay_10 rfl (by first | exact am_rvR _ | exact am_rvN | assumption) ?_
  refine am_get d_Ct_findWay_11 f_Ct_23 (cl_ctl hS) (by rfl) ?_
  refine am_iload_n d_Ct_findWay_14 rfl ?_
  refine am_iald (j := t) d_Ct_findWay_15 am_kI_ok h5c rfl (cl_fld (by omega)) (by simp; omega) ?_
  rw [← hgt, hpt]
  refine am_iconst (v := (-1)) d_Ct_findWay_16 (by decide) ?_
  refine am_icmp_ne (tgt := 24) d_Ct_findWay_17 (by decide) (fun _ => ?_) (fun z => absurd z (cl_ix_ne (by omega)))
  refine am_aload_n d_Ct_findWay_24 rfl (by first | exact am_rvR _ | exact am_rvN | assumption) ?_
  refine am_aload_n d_Ct_findWay_25 rfl (by first | exact am_rvR _ | exact am_rvN | assumption) ?_
  refine am_get d_Ct_findWay_26 f_Ct_23 (cl_ctl hS) (by rfl) ?_
  refine am_iload_n d_Ct_findWay_29 rfl ?_
  refine am_iald (j := t) d_Ct_findWay_30 am_kI_ok h5c rfl (cl_fld (by omega)) (by simp; omega) ?_
  rw [← hgt, hpt]
  refine am_cS d_Ct_findWay_31 s_Ct_187 (vs := [.int (nI b)]) (st := [.ref (A 2)]) rfl rfl (by decide) (Nat.le_of_ble_eq_true rfl) (ff_switchOf (by omega)) ?_
  rintro v S2 ⟨rfl, hS2⟩
  rw [hS2]
  refine am_cV (b := A 2) d_Ct_findWay_34 v_Ct_208 (vs := [.int (nI (b / 4))]) (st := []) rfl rfl (by decide) (Nat.le_of_ble_eq_true rfl) (cl_ctl hS) (ct_steps hn hS Io (v := b / 4) (by omega)) ?_
  rintro v S2 ⟨rfl, h, rfl, hh⟩
  skip
  obtain ⟨hS1, hf1⟩ := cl_set6 (f' := h) hS h6
  have h61 := am_up_at S (A 6) 61 (.inl (am_kI, fr_ls ns h))
  have h5c1 := cl_at5 hS1 h5
  have h3c1 := cl_at3 hS1 h3
  cases hL : pw_L ns (fc_E s.1) (b / 4) ns (a / 4) with
  | none =>
    have enil : fc_wayOf ns s.1 (nI f) (nI t) = [] := by rw [ew, hL]
    have eh : h (a / 4) = -1 := by rw [hh _ (by omega), hL]; rfl
    refine am_aload_n d_Ct_findWay_37 rfl (by first | exact am_rvR _ | exact am_rvN | assumption) ?_
    refine am_get d_Ct_findWay_38 f_Ct_23 (cl_ctl hS1) (by rfl) ?_
    refine am_iload_n d_Ct_findWay_41 rfl ?_
    refine am_iald (j := f) d_Ct_findWay_42 am_kI_ok h5c1 rfl (cl_fld (by omega)) (by simp; omega) ?_
    rw [← hgf, hpf]
    refine am_cS d_Ct_findWay_43 s_Ct_187 (vs := [.int (nI a)]) (st := []) rfl rfl (by decide) (Nat.le_of_ble_eq_true rfl) (ff_switchOf (by omega)) ?_
    rintro v S2 ⟨rfl, rfl⟩
    refine am_istore_n (L1 := [_, _, _, _, _, _, _]) d_Ct_findWay_46 (by decide) rfl ?_
    refine am_aload_n d_Ct_findWay_47 rfl (by first | exact am_rvR _ | exact am_rvN | assumption) ?_
    refine am_get d_Ct_findWay_48 f_Ct_33 (cl_ctl hS1) (by rfl) ?_
    refine am_iload_n d_Ct_findWay_51 rfl ?_
    refine am_iald (j := a / 4) d_Ct_findWay_52 am_kI_ok h61 rfl (fr_ls_get _ (by omega)) (by rw [fr_ls_len]; omega) ?_
    rw [eh]
    refine am_iconst (v := (-1)) d_Ct_findWay_53 (by decide) ?_
    refine am_icmp_ne (tgt := 61) d_Ct_findWay_54 (by decide) (fun z => absurd rfl z) (fun _ => ?_)
    refine am_getsN (v := .ref nw) d_Ct_findWay_57 (by exact List.mem_cons_self) hW ?_
    refine am_aret d_Ct_findWay_60 rfl (by first | exact Or.inl ⟨_, rfl⟩ | exact Or.inr ⟨_, rfl⟩) (by first | exact am_rvR _ | exact am_rvN | assumption) ?_
    exact ⟨nw, rfl, by rw [enil]; exact (hS1).2.1.2.1, s, rfl, ⟨rfl, by omega, by omega⟩, hS1, hf1⟩
  | some d =>
    have eh : h (a / 4) = nI d := by rw [hh _ (by omega), hL]; rfl
    have hwk := pw_L_some.mp hL
    have hd5 := pw_short (by omega) hwk.2.1 hwk.2.2
    have ew2 : fc_wayOf ns s.1 (nI f) (nI t) = (List.range d).map (fc_wF ns s.1 (b / 4) d (a / 4)) ++ [nI b] := by rw [ew, hL]
    obtain ⟨S1, eS1⟩ : ∃ S1, S1 = am_up S (A 6) 61 (.inl (am_kI, fr_ls ns h)) := ⟨_, rfl⟩
    rw [← eS1] at hS1 hf1 h61 h5c1 h3c1 ⊢
    have o1 : am_ok S1 := hS1.1.1
    have hSk : ∀ (tg : Nat) (x : am_K), cl_P e nw ns room idle A (cl_bg s 1 (d + 1)) (am_mk S1 tg (d + 1) x) := fun tg x => hS1.more (am_fr.mk _ _ _ _ o1) (am_co.mk _ _ _ _)
    have h6k : ∀ (tg : Nat) (x : am_K), (am_mk S1 tg (d + 1) x).1 (A 6) = _ := fun tg x => am_mk_old h61 o1
    have h5k : ∀ (tg : Nat) (x : am_K), (am_mk S1 tg (d + 1) x).1 (A 5) = _ := fun tg x => am_mk_old h5c1 o1
    have h3k : ∀ (tg : Nat) (x : am_K), (am_mk S1 tg (d + 1) x).1 (A 3) = _ := fun tg x => am_mk_old h3c1 o1
    have key : ∀ (m k : Nat) (o6 : Option Value), k + m = d → am_W g y_Ct_findWay 2 47 (fun v' S' => ∃ q, v' = some (.ref q) ∧ S'.1 q = some (0, .inl (am_kI, (fc_wayOf ns s.1 (nI f) (nI t)).map Value.int)) ∧ ∃ s' : cl_S, s'.1 = s.1 ∧ (s'.2.1 = s.2.1 ∧ s'.2.2.1 ≤ s.2.2.1 + 1 ∧ s'.2.2.2 ≤ s.2.2.2 + 5) ∧ cl_P e nw ns room idle A s' S' ∧ am_fr cl_X S S') 76 [some (.ref (A 2)), some (.int (nI f)), some (.int (nI t)), some (.int (nI (pw_at ns (fc_E s.1) (b / 4) d (a / 4) k))), some (.ref S1.2.1), some (.int (nI k)), o6] [] (am_mk S1 20000 (d + 1) (.inl (am_kI, (fc_ys (fc_wF ns s.1 (b / 4) d (a / 4)) (d + 1) k).map Value.int))) := by
      intro m
      induction m with
      | zero =>
        intro k o6 hk
        have ek : k = d := by omega
        subst ek
        refine am_iload d_Ct_findWay_76 rfl ?_
        refine am_aload d_Ct_findWay_78 rfl (by first | exact am_rvR _ | exact am_rvN | assumption) ?_
        refine am_alen (v := nI (k + 1)) d_Ct_findWay_80 am_kI_ok (am_mk_at _ _ _ _) (by rw [List.length_map, fc_ys_len (by omega)]; rfl) ?_
        refine am_iconst (v := nI 1) d_Ct_findWay_81 (by decide) ?_
        refine am_isubN d_Ct_findWay_82 (by omega) ?_
        rw [show k + 1 - 1 = k from rfl]
        refine am_icmp_geN (tgt := 127) d_Ct_findWay_83 (by decide) (by omega) (by omega) (fun _ => ?_) (fun q => absurd q (by omega))
        refine am_aload d_Ct_findWay_127 rfl (by first | exact am_rvR _ | exact am_rvN | assumption) ?_
        refine am_aload d_Ct_findWay_129 rfl (by first | exact am_rvR _ | exact am_rvN | assumption) ?_
        refine am_alen (v := nI (k + 1)) d_Ct_findWay_131 am_kI_ok (am_mk_at _ _ _ _) (by rw [List.length_map, fc_ys_len (by omega)]; rfl) ?_
        refine am_iconst (v := nI 1) d_Ct_findWay_132 (by decide) ?_
        refine am_isubN d_Ct_findWay_133 (by omega) ?_
        rw [show k + 1 - 1 = k from rfl]
        refine am_aload_n d_Ct_findWay_134 rfl (by first | exact am_rvR _ | exact am_rvN | assumption) ?_
        refine am_get d_Ct_findWay_135 f_Ct_23 (cl_ctl (hSk _ _)) (by rfl) ?_
        refine am_iload_n d_Ct_findWay_138 rfl ?_
        refine am_iald (j := t) d_Ct_findWay_139 am_kI_ok (h5k _ _) rfl (cl_fld (by omega)) (by simp; omega) ?_
        rw [← hgt, hpt]
        refine am_iast (j := k) d_Ct_findWay_140 am_kI_ok (am_mk_at _ _ _ _) (by decide) rfl (by rw [List.length_map, fc_ys_len (by omega)]; omega) (by rw [List.length_map, fc_ys_len (by omega)]; omega) ?_
        rw [am_setmap, fc_ys_set _ (by omega), am_up_mk]
        refine am_retag 0 (am_mk_at _ _ _ _) (by decide) ?_
        rw [am_up_mk, show k + 1 - (k + 1) = 0 by omega, List.replicate_zero, List.append_nil, ← ew2]
        refine am_aload d_Ct_findWay_141 rfl (by first | exact am_rvR _ | exact am_rvN | assumption) ?_
        refine am_aret d_Ct_findWay_143 rfl (by first | exact Or.inl ⟨_, rfl⟩ | exact Or.inr ⟨_, rfl⟩) (by first | exact am_rvR _ | exact am_rvN | assumption) ?_
        exact ⟨S1.2.1, rfl, am_mk_at _ _ _ _, cl_bg s 1 (k + 1), rfl, ⟨rfl, Nat.le_refl _, by show s.2.2.2 + (k + 1) ≤ _; omega⟩, hSk _ _, hf1.trans (am_fr.mk _ _ _ _ o1)⟩
      | succ m ih =>
        intro k o6 hk
        have hLk := pw_at_L (k := k) hL (by omega)
        rw [show d - k = (d - k - 1) + 1 by omega] at hLk
        have huk := pw_at_lt (i := k) (by omega) hwk.2.1 (by omega)
        have hes := pw_at_s (n := ns) (E := fc_E s.1) (v := b / 4) (d := d) (u := a / 4) (k := k) (by omega)
        have hed := pw_at_edge (i := k) hwk.2.1 (by omega)
        obtain ⟨hld, o, ho1, ho2⟩ := fc_ld_ok hed
        have ho4 := fc_oth_lt hn Io (by omega) ho1
        have ho5 := ho4.1
        have hgo : ot.getD (4 * pw_at ns (fc_E s.1) (b / 4) d (a / 4) k + fc_ld s.1 (pw_at ns (fc_E s.1) (b / 4) d (a / 4) k) (pw_at ns (fc_E s.1) (b / 4) d (a / 4) (k + 1))) 0 = nI o := by rw [← fc_get3 h3]; exact ho4.2
        refine am_iload d_Ct_findWay_76 rfl ?_
        refine am_aload d_Ct_findWay_78 rfl (by first | exact am_rvR _ | exact am_rvN | assumption) ?_
        refine am_alen (v := nI (d + 1)) d_Ct_findWay_80 am_kI_ok (am_mk_at _ _ _ _) (by rw [List.length_map, fc_ys_len (by omega)]; rfl) ?_
        refine am_iconst (v := nI 1) d_Ct_findWay_81 (by decide) ?_
        refine am_isubN d_Ct_findWay_82 (by omega) ?_
        rw [show d + 1 - 1 = d from rfl]
        refine am_icmp_geN (tgt := 127) d_Ct_findWay_83 (by decide) (by omega) (by omega) (fun q => absurd q (by omega)) (fun _ => ?_)
        refine am_aload_n d_Ct_findWay_86 rfl (by first | exact am_rvR _ | exact am_rvN | assumption) ?_
        refine am_iload_n d_Ct_findWay_87 rfl ?_
        refine am_cV (b := A 2) d_Ct_findWay_88 v_Ct_211 (vs := [.int (nI _)]) (st := []) rfl rfl (by decide) (Nat.le_of_ble_eq_true rfl) (cl_ctl (hSk _ _)) (ct_next hn (hSk _ _) Io (h6k _ _) hh huk hLk) ?_
        rintro v S2 ⟨rfl, rfl⟩
        rw [show (cl_bg s 1 (d + 1)).1 = s.1 from rfl, ← hes]
        refine am_istore (L1 := [_, _, _, _, _, _, _]) d_Ct_findWay_91 (by decide) rfl ?_
        refine am_iload d_Ct_findWay_93 rfl ?_
        refine am_iconst (v := (-1)) d_Ct_findWay_95 (by decide) ?_
        refine am_icmp_ne (tgt := 103) d_Ct_findWay_96 (by decide) (fun _ => ?_) (fun z => absurd z (cl_ix_ne (by omega)))
        refine am_aload d_Ct_findWay_103 rfl (by first | exact am_rvR _ | exact am_rvN | assumption) ?_
        refine am_iload d_Ct_findWay_105 rfl ?_
        refine am_iload d_Ct_findWay_107 rfl ?_
        refine am_iast (j := k) d_Ct_findWay_109 am_kI_ok (am_mk_at _ _ _ _) (by decide) rfl (by rw [List.length_map, fc_ys_len (by omega)]; omega) (by rw [List.length_map, fc_ys_len (by omega)]; omega) ?_
        rw [am_setmap, show nI (4 * pw_at ns (fc_E s.1) (b / 4) d (a / 4) k + fc_ld s.1 (pw_at ns (fc_E s.1) (b / 4) d (a / 4) k) (pw_at ns (fc_E s.1) (b / 4) d (a / 4) (k + 1))) = fc_wF ns s.1 (b / 4) d (a / 4) k from rfl, fc_ys_s (by omega), am_up_mk]
        refine am_aload_n d_Ct_findWay_110 rfl (by first | exact am_rvR _ | exact am_rvN | assumption) ?_
        refine am_get d_Ct_findWay_111 f_Ct_15 (cl_ctl (hSk _ _)) (by rfl) ?_
        refine am_iload d_Ct_findWay_114 rfl ?_
        refine am_iald (j := 4 * pw_at ns (fc_E s.1) (b / 4) d (a / 4) k + fc_ld s.1 (pw_at ns (fc_E s.1) (b / 4) d (a / 4) k) (pw_at ns (fc_E s.1) (b / 4) d (a / 4) (k + 1))) d_Ct_findWay_116 am_kI_ok (h3k _ _) rfl (cl_fld (by omega)) (by simp; omega) ?_
        rw [hgo]
        refine am_cS d_Ct_findWay_117 s_Ct_187 (vs := [.int (nI o)]) (st := []) rfl rfl (by decide) (Nat.le_of_ble_eq_true rfl) (ff_switchOf (by omega)) ?_
        rintro v S2 ⟨rfl, rfl⟩
        rw [ho2]
        refine am_istore_n (L1 := [_, _, _, _, _, _, _]) d_Ct_findWay_120 (by decide) rfl ?_
        first | refine am_iincN (b := 1) (L1 := [_, _, _, _, _, _, _]) d_Ct_findWay_121 rfl (by decide) (by decide) rfl ?_ | refine am_iinc (L1 := [_, _, _, _, _, _, _]) d_Ct_findWay_121 rfl rfl (by decide) rfl ?_
        refine am_goto (tgt := 76) d_Ct_findWay_124 (by decide) ?_
        exact ih (k + 1) _ (by omega)
    refine am_aload_n d_Ct_findWay_37 rfl (by first | exact am_rvR _ | exact am_rvN | assumption) ?_
    refine am_get d_Ct_findWay_38 f_Ct_23 (cl_ctl hS1) (by rfl) ?_
    refine am_iload_n d_Ct_findWay_41 rfl ?_
    refine am_iald (j := f) d_Ct_findWay_42 am_kI_ok h5c1 rfl (cl_fld (by omega)) (by simp; omega) ?_
    rw [← hgf, hpf]
    refine am_cS d_Ct_findWay_43 s_Ct_187 (vs := [.int (nI a)]) (st := []) rfl rfl (by decide) (Nat.le_of_ble_eq_true rfl) (ff_switchOf (by omega)) ?_
    rintro v S2 ⟨rfl, rfl⟩
    refine am_istore_n (L1 := [_, _, _, _, _, _, _]) d_Ct_findWay_46 (by decide) rfl ?_
    refine am_aload_n d_Ct_findWay_47 rfl (by first | exact am_rvR _ | exact am_rvN | assumption) ?_
    refine am_get d_Ct_findWay_48 f_Ct_33 (cl_ctl hS1) (by rfl) ?_
    refine am_iload_n d_Ct_findWay_51 rfl ?_
    refine am_iald (j := a / 4) d_Ct_findWay_52 am_kI_ok h61 rfl (fr_ls_get _ (by omega)) (by rw [fr_ls_len]; omega) ?_
    rw [eh]
    refine am_iconst (v := (-1)) d_Ct_findWay_53 (by decide) ?_
    refine am_icmp_ne (tgt := 61) d_Ct_findWay_54 (by decide) (fun _ => ?_) (fun z => absurd z (cl_ix_ne (by omega)))
    refine am_aload_n d_Ct_findWay_61 rfl (by first | exact am_rvR _ | exact am_rvN | assumption) ?_
    refine am_get d_Ct_findWay_62 f_Ct_33 (cl_ctl hS1) (by rfl) ?_
    refine am_iload_n d_Ct_findWay_65 rfl ?_
    refine am_iald (j := a / 4) d_Ct_findWay_66 am_kI_ok h61 rfl (fr_ls_get _ (by omega)) (by rw [fr_ls_len]; omega) ?_
    rw [eh]
    refine am_iconst (v := nI 1) d_Ct_findWay_67 (by decide) ?_
    first | refine am_iaddN d_Ct_findWay_68 ?_ | refine am_iadd d_Ct_findWay_68 ?_
    refine am_newi (t := am_kI) (N := d + 1) (v := .int 0) 20000 d_Ct_findWay_69 am_kI_ok (nI_pos (by omega)) (nI_clamp (by omega)) (by show (d + 1) * 4 ≤ 536870912; omega) rfl ?_
    refine am_astore (L1 := [_, _, _, _, _, _, _]) d_Ct_findWay_71 (by decide) (by first | exact am_rvR _ | exact am_rvN | assumption) rfl ?_
    refine am_iconst (v := nI 0) d_Ct_findWay_73 (by decide) ?_
    refine am_istore (L1 := [_, _, _, _, _, _, _]) d_Ct_findWay_74 (by decide) rfl ?_
    have z := key d 0 none (Nat.zero_add _)
    rw [pw_at_z] at z
    rw [show List.replicate (d + 1) (Value.int 0) = (fc_ys (fc_wF ns s.1 (b / 4) d (a / 4)) (d + 1) 0).map Value.int from by unfold fc_ys; simp]
    exact z
end CTK
