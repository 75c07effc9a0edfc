/-! the class: tick, probe -/
section CFF
variable {g : am_G} {e nw ns room idle : Nat} {A : Nat → Nat} {s : cl_S} {S : am_S}
/-- the fabric's own object: now, or how many hosts -/
theorem cl_putF (hS : cl_P e nw ns room idle A s S) {x0 x1 : Int32} (hr : s.1 0 = [[x0, x1]]) (j : Nat) (hj : j = 0 ∨ j = 1) (x : Int32) :
    cl_P e nw ns room idle A (cl_st s (fc_put s.1 0 0 j x)) (am_up S (A 0) 1 (.inr (am_cFF, [Value.int (nI idle), .ref (A 8), .ref (A 1), .ref (A 2), .int x1, .int x0].set (5 - j) (.int x)))) ∧ am_fr cl_X S (am_up S (A 0) 1 (.inr (am_cFF, [Value.int (nI idle), .ref (A 8), .ref (A 1), .ref (A 2), .int x1, .int x0].set (5 - j) (.int x)))) := by
  have hp := cl_fab hS
  have g0 : ∀ j', fc_get s.1 0 0 j' = ([x0, x1] : List Int32).getD j' 0 := fun j' => by unfold fc_get; rw [hr]; rfl
  have gp : ∀ j', fc_get (fc_put s.1 0 0 j x) 0 0 j' = if j' = j then x else ([x0, x1] : List Int32).getD j' 0 := fun j' => by
    rw [fc_get_put (row := [x0, x1]) (by rw [hr]; rfl) j x (by show j < 2; omega), g0]
  refine ⟨?_, am_fr.up hp (by unfold cl_X; omega)⟩
  refine cl_P.upd 0 hS (am_fr.up hp (by unfold cl_Xc; omega)) hS.1.2.1 hS.1.2.2 (fun c hc => ⟨fc_put_ne _ _ _ hc, rfl⟩) (fun _ _ _ => rfl) ?_
  refine ⟨fun _ => ?_, fun z => ?_, fun z => ?_, fun z => ?_, fun z => ?_, fun z => ?_, fun z => ?_, fun q' hq' z => ?_, fun z => ?_⟩
  · show (am_up S _ _ _).1 (A 0) = some (1, Sum.inr (am_cFF, [_, _, _, _, .int (fc_get (fc_put s.1 0 0 j x) 0 0 1), .int (fc_get (fc_put s.1 0 0 j x) 0 0 0)]))
    rw [am_up_at, gp, gp]
    rcases hj with rfl | rfl <;> rfl
  rotate_left 7
  · unfold cl_isL at z
    omega
  all_goals omega
theorem fc_iD.now {s : fc_S} (I : fc_iD ns room s) (x : Int32) : fc_iD ns room (fc_put s 0 0 0 x) := by
  obtain ⟨I0, IH, IP, IW, IG, IR, IL, Io, IK⟩ := I
  have e1 : fc_put s 0 0 0 x 1 = s 1 := fc_put_ne _ _ _ (by omega)
  refine ⟨I0, ?_, fun e he => ?_, fun e he => ?_, IG.same (fun i hi => fc_put_ne _ _ _ (by omega)), IR.same (fun i hi => fc_put_ne _ _ _ (by omega)), IL.same (fun i hi => ⟨fc_put_ne _ _ _ (by omega), fc_put_ne _ _ _ (by omega)⟩), Io.same (fun q h1 h2 => fc_put_ne _ _ _ (by omega)), IK.same (fc_put_ne _ _ _ (by omega))⟩
  · obtain ⟨⟨now, h0⟩, h1⟩ := IH
    refine ⟨⟨x, ?_⟩, by rw [e1]; exact h1⟩
    rw [e1]
    unfold fc_put
    rw [fc_up_same, h0]
    rfl
  · rw [e1, fc_put_ne _ _ _ (by omega)]
    exact IP e he
  · rw [fc_put_ne _ _ _ (by omega)]
    exact IW e he
theorem fc_iD.drop {s : fc_S} (I : fc_iD ns room s) {i : Nat} (hi : i < ns) (hl : (s (40 + i)).length + (s (20 + i)).length < 60) : fc_iD ns room (fc_drop idle s i) := by
  obtain ⟨I0, IH, IP, IW, IG, IR, IL, Io, IK⟩ := I
  have h5 := I0.2.1
  have en : ∀ c, c ≠ 20 + i → c ≠ 40 + i → fc_drop idle s i c = s c := fun c h1 h2 => by unfold fc_drop; rw [if_neg h1, if_neg h2]
  have e2 : fc_drop idle s i (20 + i) = (s (20 + i)).filter (fun r => !fc_old idle (fc_now s) r) := if_pos rfl
  have e4 : fc_drop idle s i (40 + i) = s (40 + i) ++ ((s (20 + i)).filter (fc_old idle (fc_now s))).map (fun r => [4, -1, r.getD 0 0, r.getD 1 0, 0]) := by unfold fc_drop; rw [if_neg (by omega), if_pos rfl]
  have hs : fc_eqP s (fc_drop idle s i) := fun c hc => en c (by omega) (by omega)
  refine ⟨I0, IH.same hs, IP.same hs, IW.same hs, IG.same (fun j hj => en _ (by omega) (by omega)), fun j hj => ?_, fun j hj => ?_, Io.same (fun q h1 h2 => en _ (by omega) (by omega)), IK.same (en _ (by omega) (by omega))⟩
  · by_cases e : j = i
    · subst e
      rw [e2]
      exact ⟨Nat.le_trans (List.length_filter_le _ _) (IR j hj).1, fun row hr => (IR j hj).2 row (List.mem_filter.mp hr).1⟩
    · rw [en _ (by omega) (by omega)]
      exact IR j hj
  · refine ⟨by rw [en (30 + j) (by omega) (by omega)]; exact (IL j hj).1, ?_⟩
    by_cases e : j = i
    · subst e
      rw [e4]
      have h1 := List.length_filter_le (fc_old idle (fc_now s)) (s (20 + j))
      refine ⟨by rw [List.length_append, List.length_map]; omega, fun row hr => ?_⟩
      rcases List.mem_append.mp hr with h2 | h2
      · exact (IL j hj).2.2 row h2
      · obtain ⟨r, hr2, rfl⟩ := List.mem_map.mp h2
        obtain ⟨f, t, p, m, l, u, hf, ht, hp, rfl⟩ := (IR j hj).2 r (List.mem_filter.mp hr2).1
        exact Or.inr (Or.inr (Or.inr (Or.inr (Or.inl ⟨f, t, hf, ht, rfl⟩))))
    · rw [en _ (by omega) (by omega)]
      exact (IL j hj).2
theorem fc_drops_ne {s : fc_S} : ∀ {k c : Nat}, (∀ i, i < k → c ≠ 20 + i ∧ c ≠ 40 + i) → fc_drops idle s k c = s c
  | 0, _, _ => rfl
  | k + 1, c, h => by
    show fc_drop idle (fc_drops idle s k) k c = s c
    unfold fc_drop
    rw [if_neg (h k (by omega)).1, if_neg (h k (by omega)).2]
    exact fc_drops_ne (fun i hi => h i (by omega))
theorem fc_drops_now {s : fc_S} (k : Nat) : fc_now (fc_drops idle s k) = fc_now s := by
  unfold fc_now fc_get
  rw [fc_drops_ne (fun i hi => by omega)]
theorem ff_tick (hn : ns ≤ 5) (hS : cl_P e nw ns room idle A s S) (he : am_gE g e) (I : fc_iD ns room s.1) (hl : ∀ i, i < ns → (s.1 (40 + i)).length + (s.1 (20 + i)).length < 60) : am_M g y_FF_tick "()I" 8 178 [.ref (A 0)] S (fun v S' => v = some (.int (fc_tick ns idle s.1).1) ∧ cl_Q e nw ns room idle A s S (fc_tick ns idle s.1).2 80 4000 S') := by
  obtain ⟨⟨now, h0⟩, -⟩ := I.2.1
  have hnow : fc_now s.1 = now := by unfold fc_now fc_get; rw [h0]; rfl
  have I1 := I.now (fc_now s.1 + 1)
  have h8 := I.1.2.2.2
  have hnow1 : fc_now (fc_put s.1 0 0 0 (fc_now s.1 + 1)) = fc_now s.1 + 1 := by
    unfold fc_now
    rw [fc_get_put (row := [now, nI (s.1 1).length]) (by rw [h0]; rfl) 0 _ (by show 0 < 2; omega)]
    rfl
  have hgone : ∀ k, k ≤ ns → fc_gone idle (fc_put s.1 0 0 0 (fc_now s.1 + 1)) k ≤ 8 * k := by
    intro k
    induction k with
    | zero => intro _; exact Nat.le_refl _
    | succ k ih =>
      intro hk
      have h1 := ih (by omega)
      have h2 := List.length_filter_le (fc_old idle (fc_now (fc_put s.1 0 0 0 (fc_now s.1 + 1)))) ((fc_put s.1 0 0 0 (fc_now s.1 + 1)) (20 + k))
      have h3 := (I1.2.2.2.2.2.1 k (by omega)).1
      show fc_gone idle (fc_put s.1 0 0 0 (fc_now s.1 + 1)) k + _ ≤ _
      omega
  have key : ∀ (m k : Nat) (s1 : cl_S) (S1 : am_S) (o5 : Option Value), k + m = ns → s1.1 = fc_drops idle (fc_put s.1 0 0 0 (fc_now s.1 + 1)) k → s1.2.2.1 ≤ s.2.2.1 + 16 * k → s1.2.2.2 ≤ s.2.2.2 + 800 * k → fc_iD ns room s1.1 → cl_P e nw ns room idle A s1 S1 → am_fr cl_X S S1 → am_W g y_FF_tick 8 178 (fun v S' => v = some (.int (fc_tick ns idle s.1).1) ∧ cl_Q e nw ns room idle A s S (fc_tick ns idle s.1).2 80 4000 S') 23 [some (.ref (A 0)), some (.int (nI (fc_gone idle (fc_put s.1 0 0 0 (fc_now s.1 + 1)) k))), some (.ref (A 8)), some (.int (nI ns)), some (.int (nI k)), o5] [] S1 := by
    intro m
    induction m with
    | zero =>
      intro k s1 S1 o5 hk e1 b1 b2 J hS1 hf1
      have ek : k = ns := by omega
      subst ek
      refine am_iload d_FF_tick_23 rfl ?_
      refine am_iload_n d_FF_tick_25 rfl ?_
      refine am_icmp_geN (tgt := 57) d_FF_tick_26 (by decide) (by omega) (by omega) (fun _ => ?_) (fun q => absurd q (by omega))
      refine am_iload_n d_FF_tick_57 rfl ?_
      refine am_iret d_FF_tick_58 rfl (by first | rfl | exact am_b_nar _) ?_
      exact ⟨rfl, s1, e1, ⟨by omega, by omega⟩, hS1, hf1⟩
    | succ m ih =>
      intro k s1 S1 o5 hk e1 b1 b2 J hS1 hf1
      have hi : k < ns := by omega
      have en : fc_now s1.1 = fc_now s.1 + 1 := by rw [e1, fc_drops_now, hnow1]
      have er : s1.1 (20 + k) = s.1 (20 + k) := by rw [e1, fc_drops_ne (fun i hi => by omega), fc_put_ne _ _ _ (by omega)]
      have eq : s1.1 (40 + k) = s.1 (40 + k) := by rw [e1, fc_drops_ne (fun i hi => by omega), fc_put_ne _ _ _ (by omega)]
      have hlk : (s1.1 (40 + k)).length + (s1.1 (20 + k)).length < 60 := by rw [er, eq]; exact hl k hi
      have hg := hgone k (by omega)
      have hfab1 := cl_fab hS1
      rw [show fc_get s1.1 0 0 0 = fc_now s1.1 from rfl] at hfab1
      have eg : fc_gone idle (fc_put s.1 0 0 0 (fc_now s.1 + 1)) (k + 1) = fc_gone idle (fc_put s.1 0 0 0 (fc_now s.1 + 1)) k + ((s1.1 (20 + k)).filter (fc_old idle (fc_now s1.1))).length := by
        show fc_gone idle (fc_put s.1 0 0 0 (fc_now s.1 + 1)) k + (((fc_put s.1 0 0 0 (fc_now s.1 + 1)) (20 + k)).filter (fc_old idle (fc_now (fc_put s.1 0 0 0 (fc_now s.1 + 1))))).length = _
        rw [er, en, hnow1, fc_put_ne _ _ _ (by omega)]
      refine am_iload d_FF_tick_23 rfl ?_
      refine am_iload_n d_FF_tick_25 rfl ?_
      refine am_icmp_geN (tgt := 57) d_FF_tick_26 (by decide) (by omega) (by omega) (fun q => absurd q (by omega)) (fun _ => ?_)
      refine am_aload_n d_FF_tick_29 rfl (by first | exact am_rvR _ | exact am_rvN | assumption) ?_
      refine am_iload d_FF_tick_30 rfl ?_
      refine am_aald d_FF_tick_32 am_kN_ok rfl (cl_nodes hS1) rfl (cl_nodes_at hi) (by simp; omega) ?_
      refine am_astore (L1 := [_, _, _, _, _, _]) d_FF_tick_33 (by decide) (by first | exact am_rvR _ | exact am_rvN | assumption) rfl ?_
      refine am_iload_n d_FF_tick_35 rfl ?_
      refine am_aload d_FF_tick_36 rfl (by first | exact am_rvR _ | exact am_rvN | assumption) ?_
      refine am_aload_n d_FF_tick_38 rfl (by first | exact am_rvR _ | exact am_rvN | assumption) ?_
      refine am_get d_FF_tick_39 f_FF_44 hfab1 (by rfl) ?_
      refine am_aload_n d_FF_tick_42 rfl (by first | exact am_rvR _ | exact am_rvN | assumption) ?_
      refine am_get d_FF_tick_43 f_FF_22 hfab1 (by rfl) ?_
      refine am_cV (b := A (50 + k)) d_FF_tick_46 v_FF_188 (vs := [.int (fc_now s1.1), .int (nI idle)]) (st := [.int (nI (fc_gone idle (fc_put s.1 0 0 0 (fc_now s.1 + 1)) k))]) rfl rfl (by decide) (Nat.le_of_ble_eq_true rfl) (cl_node hS1 hi) (nd_drop hn hS1 hi he J hlk) ?_
      rintro v S2 ⟨rfl, s2, e2, ⟨c1, c2⟩, hS2, hf2⟩
      first | refine am_iaddN d_FF_tick_49 ?_ | refine am_iadd d_FF_tick_49 ?_
      refine am_istore_n (L1 := [_, _, _, _, _, _]) d_FF_tick_50 (by decide) rfl ?_
      first | refine am_iincN (b := 1) (L1 := [_, _, _, _, _, _]) d_FF_tick_51 rfl (by decide) (by decide) rfl ?_ | refine am_iinc (L1 := [_, _, _, _, _, _]) d_FF_tick_51 rfl rfl (by decide) rfl ?_
      refine am_goto (tgt := 23) d_FF_tick_54 (by decide) ?_
      rw [← eg]
      have d1 : s2.2.2.1 ≤ s.2.2.1 + (16 * k + 16) := by omega
      have d2 : s2.2.2.2 ≤ s.2.2.2 + (800 * k + 800) := Nat.le_trans c2 (by rw [← Nat.add_assoc]; exact Nat.add_le_add_right b2 800)
      refine ih (k + 1) s2 S2 _ (by omega) ?_ d1 d2 ?_ hS2 (hf1.trans hf2)
      · rw [e2, e1]
        rfl
      · rw [e2]
        exact J.drop hi hlk
  refine am_Mof (L0 := [some (.ref (A 0)), none, none, none, none, none]) pl_FF_tick (am_k1 rfl am_k0) (Nat.le_of_ble_eq_true rfl) rfl ?_
  have hfab : S.1 (A 0) = some (1, .inr (am_cFF, [.int (nI idle), .ref (A 8), .ref (A 1), .ref (A 2), .int (nI (s.1 1).length), .int (fc_now s.1)])) := by
    have h1 := cl_fab hS
    rw [show fc_get s.1 0 0 1 = nI (s.1 1).length from by unfold fc_get; rw [h0]; rfl] at h1
    exact h1
  subst hnow
  refine am_aload_n d_FF_tick_0 rfl (by first | exact am_rvR _ | exact am_rvN | assumption) ?_
  refine am_dup d_FF_tick_1 rfl ?_
  refine am_get d_FF_tick_2 f_FF_44 hfab (by rfl) ?_
  refine am_iconst (v := 1) d_FF_tick_5 (by decide) ?_
  refine am_iadd d_FF_tick_6 ?_
  refine am_put _ d_FF_tick_7 f_FF_44 (p_FF_44 _) hfab (by omega) rfl rfl ?_
  obtain ⟨hS1, hf1⟩ := cl_putF hS h0 0 (Or.inl rfl) (fc_now s.1 + 1)
  refine am_iconst (v := nI 0) d_FF_tick_10 (by decide) ?_
  refine am_istore_n (L1 := [_, _, _, _, _, _]) d_FF_tick_11 (by decide) rfl ?_
  refine am_aload_n d_FF_tick_12 rfl (by first | exact am_rvR _ | exact am_rvN | assumption) ?_
  refine am_get d_FF_tick_13 f_FF_18 (am_up_at _ _ _ _) (by rfl) ?_
  refine am_astore_n (L1 := [_, _, _, _, _, _]) d_FF_tick_16 (by decide) (by first | exact am_rvR _ | exact am_rvN | assumption) rfl ?_
  refine am_aload_n d_FF_tick_17 rfl (by first | exact am_rvR _ | exact am_rvN | assumption) ?_
  refine am_alen (v := nI ns) d_FF_tick_18 am_kN_ok (cl_nodes hS1) (by simp; rfl) ?_
  refine am_istore_n (L1 := [_, _, _, _, _, _]) d_FF_tick_19 (by decide) rfl ?_
  refine am_iconst (v := nI 0) d_FF_tick_20 (by decide) ?_
  refine am_istore (L1 := [_, _, _, _, _, _]) d_FF_tick_21 (by decide) rfl ?_
  exact key ns 0 _ _ none (Nat.zero_add _) rfl (by show s.2.2.1 ≤ _; omega) (by show s.2.2.2 ≤ _; omega) I1 hS1 hf1
theorem fc_all_at (k : Nat) (s : fc_S) (row : List Int32) (q : Nat) : fc_all k s row q = if 30 ≤ q ∧ q < 30 + k then s q ++ [row] else s q := rfl
theorem fc_all_0 (s : fc_S) (row : List Int32) : fc_all 0 s row = s := by
  funext q
  rw [fc_all_at, if_neg (by omega)]
theorem fc_all_s (k : Nat) (s : fc_S) (row : List Int32) : fc_all (k + 1) s row = fc_add (fc_all k s row) (30 + k) row := by
  funext q
  unfold fc_add
  rw [fc_up_at, fc_all_at]
  by_cases h : q = 30 + k
  · subst h
    rw [if_pos (by omega), if_pos rfl, fc_all_at, if_neg (by omega)]
  · rw [if_neg h, fc_all_at]
    by_cases h2 : 30 ≤ q ∧ q < 30 + k
    · rw [if_pos h2, if_pos (by omega)]
    · rw [if_neg h2, if_neg (by omega)]
theorem ff_probe (hn : ns ≤ 5) (hS : cl_P e nw ns room idle A s S) (he : am_gE g e) (I : fc_iD ns room s.1) : am_M g y_FF_probe "()Z" 7 152 [.ref (A 0)] S (fun v S' => v = some (.int (am_b (fc_probe ns s.1).1)) ∧ cl_Q e nw ns room idle A s S (fc_probe ns s.1).2 6 500 S') := by
  have hid : cl_Q e nw ns room idle A s S s.1 6 500 S := (cl_Q.id hS).wide (by omega) (by omega)
  have IL := I.2.2.2.2.2.2.1
  have key2 : ∀ (m k : Nat) (s1 : cl_S) (S1 : am_S) (o5 : Option Value) (ma : Nat), k + m = ns → (List.range ns).all (fun i => decide (fc_len s.1 (30 + i) < 16)) = true → s1.1 = fc_all k s.1 [5, -1, -1, -1, 0] → s1.2.2.1 ≤ s.2.2.1 + 1 + k → s1.2.2.2 ≤ s.2.2.2 + 5 + 90 * k → S1.1 ma = some (0, .inr (am_cMs, [.int 5, .int (-1), .int (-1), .int (-1), .int 0])) → cl_P e nw ns room idle A s1 S1 → am_fr cl_X S S1 → am_W g y_FF_probe 7 152 (fun v S' => v = some (.int (am_b (fc_probe ns s.1).1)) ∧ cl_Q e nw ns room idle A s S (fc_probe ns s.1).2 6 500 S') 58 [some (.ref (A 0)), some (.ref ma), some (.ref (A 8)), some (.int (nI ns)), some (.int (nI k)), o5] [] S1 := by
    intro m
    induction m with
    | zero =>
      intro k s1 S1 o5 ma hk hall e1 b1 b2 hma hS1 hf1
      have ek : k = ns := by omega
      subst ek
      refine am_iload d_FF_probe_58 rfl ?_
      refine am_iload_n d_FF_probe_60 rfl ?_
      refine am_icmp_geN (tgt := 86) d_FF_probe_61 (by decide) (by omega) (by omega) (fun _ => ?_) (fun q => absurd q (by omega))
      refine am_iconst (v := nI 1) d_FF_probe_86 (by decide) ?_
      refine am_iret d_FF_probe_87 rfl (by first | rfl | exact am_b_nar _) ?_
      unfold fc_probe
      rw [if_pos hall]
      exact ⟨rfl, s1, e1, ⟨by omega, by omega⟩, hS1, hf1⟩
    | succ m ih =>
      intro k s1 S1 o5 ma hk hall e1 b1 b2 hma hS1 hf1
      have hi : k < ns := by omega
      have hL : cl_isL ns (30 + k) := by unfold cl_isL; omega
      have hlen : (s1.1 (30 + k)).length < 60 := by
        rw [e1, fc_all_at, if_neg (by omega)]
        have := (IL k hi).1.1
        omega
      refine am_iload d_FF_probe_58 rfl ?_
      refine am_iload_n d_FF_probe_60 rfl ?_
      refine am_icmp_geN (tgt := 86) d_FF_probe_61 (by decide) (by omega) (by omega) (fun q => absurd q (by omega)) (fun _ => ?_)
      refine am_aload_n d_FF_probe_64 rfl (by first | exact am_rvR _ | exact am_rvN | assumption) ?_
      refine am_iload d_FF_probe_65 rfl ?_
      refine am_aald d_FF_probe_67 am_kN_ok rfl (cl_nodes hS1) rfl (cl_nodes_at hi) (by simp; omega) ?_
      refine am_astore (L1 := [_, _, _, _, _, _]) d_FF_probe_68 (by decide) (by first | exact am_rvR _ | exact am_rvN | assumption) rfl ?_
      refine am_aload d_FF_probe_70 rfl (by first | exact am_rvR _ | exact am_rvN | assumption) ?_
      refine am_get d_FF_probe_72 f_FF_165 (cl_node hS1 hi) (by rfl) ?_
      refine am_aload_n d_FF_probe_75 rfl (by first | exact am_rvR _ | exact am_rvN | assumption) ?_
      refine am_cV (b := A (30 + k)) d_FF_probe_76 v_FF_123 (vs := [.ref ma]) (st := []) rfl rfl (by decide) (Nat.le_of_ble_eq_true rfl) (cl_list hS1 hL).1.choose_spec.choose_spec.choose_spec.choose_spec.1 (cl_addM (row := [5, -1, -1, -1, 0]) hn he hS1 hL hlen (cl_ms (by omega) (by omega) hma rfl) (fun z => by omega)) ?_
      rintro v S2 ⟨rfl, hS2, hf2⟩
      refine am_pop d_FF_probe_79 rfl ?_
      first | refine am_iincN (b := 1) (L1 := [_, _, _, _, _, _]) d_FF_probe_80 rfl (by decide) (by decide) rfl ?_ | refine am_iinc (L1 := [_, _, _, _, _, _]) d_FF_probe_80 rfl rfl (by decide) rfl ?_
      refine am_goto (tgt := 58) d_FF_probe_83 (by decide) ?_
      have d1 : s1.2.2.1 + 1 ≤ s.2.2.1 + 1 + (k + 1) := by omega
      have d2 : s1.2.2.2 + 90 ≤ s.2.2.2 + 5 + (90 * k + 90) := by omega
      refine ih (k + 1) _ S2 _ ma (by omega) hall ?_ d1 d2 (cl_X0 hf2 hma) hS2 (hf1.trans hf2)
      rw [fc_all_s, ← e1]
      rfl
  have key1 : ∀ (m k : Nat) (o4 : Option Value), k + m = ns → (∀ i, i < k → fc_len s.1 (30 + i) < 16) → am_W g y_FF_probe 7 152 (fun v S' => v = some (.int (am_b (fc_probe ns s.1).1)) ∧ cl_Q e nw ns room idle A s S (fc_probe ns s.1).2 6 500 S') 10 [some (.ref (A 0)), some (.ref (A 8)), some (.int (nI ns)), some (.int (nI k)), o4, none] [] S := by
    intro m
    induction m with
    | zero =>
      intro k o4 hk hall
      have ek : k = ns := by omega
      subst ek
      have hal : (List.range k).all (fun i => decide (fc_len s.1 (30 + i) < 16)) = true := by
        rw [List.all_eq_true]
        intro i hi
        rw [decide_eq_true_eq]
        exact hall i (List.mem_range.mp hi)
      refine am_iload_n d_FF_probe_10 rfl ?_
      refine am_iload_n d_FF_probe_11 rfl ?_
      refine am_icmp_geN (tgt := 41) d_FF_probe_12 (by decide) (by omega) (by omega) (fun _ => ?_) (fun q => absurd q (by omega))
      refine am_iconst (v := 5) d_FF_probe_41 (by decide) ?_
      refine am_iconst (v := (-1)) d_FF_probe_42 (by decide) ?_
      refine am_cS d_FF_probe_43 s_FF_184 (vs := [.int 5, .int (-1)]) (st := []) rfl rfl (by decide) (Nat.le_of_ble_eq_true rfl) (mk_ofValue 5 (-1)) ?_
      rintro v S3 ⟨rfl, rfl⟩
      obtain ⟨hS3, hf3⟩ := hS.mk (z := 5) (x := .inr (am_cMs, [.int 5, .int (-1), .int (-1), .int (-1), .int 0]))
      have hma := am_mk_at S 0 5 (.inr (am_cMs, [.int 5, .int (-1), .int (-1), .int (-1), .int 0]))
      refine am_astore_n (L1 := [_, _, _, _, _, _]) d_FF_probe_46 (by decide) (by first | exact am_rvR _ | exact am_rvN | assumption) rfl ?_
      refine am_aload_n d_FF_probe_47 rfl (by first | exact am_rvR _ | exact am_rvN | assumption) ?_
      refine am_get d_FF_probe_48 f_FF_18 (cl_fab hS3) (by rfl) ?_
      refine am_astore_n (L1 := [_, _, _, _, _, _]) d_FF_probe_51 (by decide) (by first | exact am_rvR _ | exact am_rvN | assumption) rfl ?_
      refine am_aload_n d_FF_probe_52 rfl (by first | exact am_rvR _ | exact am_rvN | assumption) ?_
      refine am_alen (v := nI k) d_FF_probe_53 am_kN_ok (cl_nodes hS3) (by simp; rfl) ?_
      refine am_istore_n (L1 := [_, _, _, _, _, _]) d_FF_probe_54 (by decide) rfl ?_
      refine am_iconst (v := nI 0) d_FF_probe_55 (by decide) ?_
      refine am_istore (L1 := [_, _, _, _, _, _]) d_FF_probe_56 (by decide) rfl ?_
      exact key2 k 0 (cl_bg s 1 5) _ none _ (Nat.zero_add _) hal (by rw [fc_all_0]; rfl) (by show s.2.2.1 + 1 ≤ _; omega) (by show s.2.2.2 + 5 ≤ _; omega) hma hS3 hf3
    | succ m ih =>
      intro k o4 hk hall
      have hi : k < ns := by omega
      have hL : cl_isL ns (30 + k) := by unfold cl_isL; omega
      have h59 := (IL k hi).1.1
      refine am_iload_n d_FF_probe_10 rfl ?_
      refine am_iload_n d_FF_probe_11 rfl ?_
      refine am_icmp_geN (tgt := 41) d_FF_probe_12 (by decide) (by omega) (by omega) (fun q => absurd q (by omega)) (fun _ => ?_)
      refine am_aload_n d_FF_probe_15 rfl (by first | exact am_rvR _ | exact am_rvN | assumption) ?_
      refine am_iload_n d_FF_probe_16 rfl ?_
      refine am_aald d_FF_probe_17 am_kN_ok rfl (cl_nodes hS) rfl (cl_nodes_at hi) (by simp; omega) ?_
      refine am_astore (L1 := [_, _, _, _, _, _]) d_FF_probe_18 (by decide) (by first | exact am_rvR _ | exact am_rvN | assumption) rfl ?_
      refine am_aload d_FF_probe_20 rfl (by first | exact am_rvR _ | exact am_rvN | assumption) ?_
      refine am_get d_FF_probe_22 f_FF_165 (cl_node hS hi) (by rfl) ?_
      refine am_cV (b := A (30 + k)) d_FF_probe_25 v_FF_116 (vs := []) (st := []) rfl rfl (by decide) (Nat.le_of_ble_eq_true rfl) (cl_list hS hL).1.choose_spec.choose_spec.choose_spec.choose_spec.1 (cl_size hS hL) ?_
      rintro v S2 ⟨rfl, rfl⟩
      refine am_bipush (v := nI 16) d_FF_probe_28 (by decide) ?_
      first | refine am_icmp_ltN (tgt := 35) d_FF_probe_30 (by decide) (by omega) (by omega) (fun q1 => ?_) (fun q1 => ?_) | refine am_icmp_lt (tgt := 35) d_FF_probe_30 (by decide) (fun q1 => ?_) (fun q1 => ?_)
      · first | refine am_iincN (b := 1) (L1 := [_, _, _, _, _, _]) d_FF_probe_35 rfl (by decide) (by decide) rfl ?_ | refine am_iinc (L1 := [_, _, _, _, _, _]) d_FF_probe_35 rfl rfl (by decide) rfl ?_
        refine am_goto (tgt := 10) d_FF_probe_38 (by decide) ?_
        exact ih (k + 1) _ (by omega) (fun i h => by
          by_cases ei : i = k
          · subst ei; exact q1
          · exact hall i (by omega))
      · refine am_iconst (v := nI 0) d_FF_probe_33 (by decide) ?_
        refine am_iret d_FF_probe_34 rfl (by first | rfl | exact am_b_nar _) ?_
        have hal : (List.range ns).all (fun i => decide (fc_len s.1 (30 + i) < 16)) = false := by
          rw [List.all_eq_false]
          exact ⟨k, List.mem_range.mpr hi, by unfold fc_len; simp; omega⟩
        unfold fc_probe
        rw [if_neg (by rw [hal]; decide)]
        exact ⟨rfl, hid⟩
  refine am_Mof (L0 := [some (.ref (A 0)), none, none, none, none, none]) pl_FF_probe (am_k1 rfl am_k0) (Nat.le_of_ble_eq_true rfl) rfl ?_
  refine am_aload_n d_FF_probe_0 rfl (by first | exact am_rvR _ | exact am_rvN | assumption) ?_
  refine am_get d_FF_probe_1 f_FF_18 (cl_fab hS) (by rfl) ?_
  refine am_astore_n (L1 := [_, _, _, _, _, _]) d_FF_probe_4 (by decide) (by first | exact am_rvR _ | exact am_rvN | assumption) rfl ?_
  refine am_aload_n d_FF_probe_5 rfl (by first | exact am_rvR _ | exact am_rvN | assumption) ?_
  refine am_alen (v := nI ns) d_FF_probe_6 am_kN_ok (cl_nodes hS) (by simp; rfl) ?_
  refine am_istore_n (L1 := [_, _, _, _, _, _]) d_FF_probe_7 (by decide) rfl ?_
  refine am_iconst (v := nI 0) d_FF_probe_8 (by decide) ?_
  refine am_istore_n (L1 := [_, _, _, _, _, _]) d_FF_probe_9 (by decide) rfl ?_
  exact key1 ns 0 none (Nat.zero_add _) (fun i h => absurd h (Nat.not_lt_zero _))
end CFF
