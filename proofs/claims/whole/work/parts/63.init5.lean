/-! the class: the constructor -/
section CIE
variable {g : am_G} {e nw ns room idle : Nat} {A : Nat → Nat} {s : cl_S} {S : am_S}
theorem ci_nd.keep2 {i z : Nat} {S S' : am_S} (h : ci_nd e i z S) (hk : ∀ (b u : Nat) (x : am_K), S.1 b = some (u, x) → z ≤ b → b < z + 13 → (u = 0 ∨ 100 < u) → S'.1 b = some (u, x)) : ci_nd e i z S' := by
  obtain ⟨h1, h2, h3, h4, h5, h6⟩ := h
  exact ⟨hk _ _ _ h1 (by omega) (by omega) (by omega), fun p hp => ⟨hk _ _ _ (h2 p hp).1 (by omega) (by omega) (by omega), hk _ _ _ (h2 p hp).2 (by omega) (by omega) (by omega)⟩, hk _ _ _ h3 (by omega) (by omega) (by omega), hk _ _ _ h4 (by omega) (by omega) (by omega), hk _ _ _ h5 (by omega) (by omega) (by omega), hk _ _ _ h6 (by omega) (by omega) (by omega)⟩
theorem mk_FF (hn : ns ≤ 5) (he : am_gE g e) {a : Nat} {xx yy zz : Int32} (hx : (if (2 : Int32) < (if xx < 5 then xx else 5) then (if xx < 5 then xx else 5) else 2) = nI ns) (hy : (if (1 : Int32) < (if yy < 8 then yy else 8) then (if yy < 8 then yy else 8) else 1) = nI room) (hz : (if (1 : Int32) < (if zz < 9 then zz else 9) then (if zz < 9 then zz else 9) else 1) = nI idle) (o : am_ok S) (ha : S.1 a = some (1, (.inr (am_cFF, [.int 0, .null, .null, .null, .int 0, .int 0])))) (hE : S.1 e = some (0, .inl (am_kO, []))) (hNW : S.1 nw = some (0, .inl (am_kI, []))) : am_M g y_FF_new "(III)V" 6 117 [.ref a, .int xx, .int yy, .int zz] S (fun v S' => v = none ∧ cl_P e nw ns room idle (ci_A a S.2.1 ns) (cl_s0 ns S') S' ∧ (S'.2.1 = S.2.1 + 14 * ns + 8 ∧ S'.2.2 = S.2.2 + (61 * ns + 22)) ∧ ∀ (b u : Nat) (x : am_K), S.1 b = some (u, x) → b ≠ a → ¬ ci_X u → S'.1 b = some (u, x)) := by
  refine am_Mof (L0 := [some (.ref a), some (.int xx), some (.int yy), some (.int zz), none, none]) pl_FF_new (am_k1 rfl (am_k1 rfl (am_k1 rfl (am_k1 rfl am_k0)))) (Nat.le_of_ble_eq_true rfl) rfl ?_
  refine am_aload_n d_FF_new_0 rfl (by first | exact am_rvR _ | exact am_rvN | assumption) ?_
  refine am_objInit d_FF_new_1 o_FF_1 o_hi o_hc (by decide) (Nat.le_of_ble_eq_true rfl) ?_
  refine am_iload_n d_FF_new_4 rfl ?_
  refine am_iconst (v := (2)) d_FF_new_5 (by decide) ?_
  refine am_iconst (v := (5)) d_FF_new_6 (by decide) ?_
  refine am_cS d_FF_new_7 s_FF_7 (vs := [.int xx, .int 2, .int 5]) (st := []) rfl rfl (by decide) (Nat.le_of_ble_eq_true rfl) (ff_within xx 2 5) ?_
  rintro v S9 ⟨rfl, hS9⟩
  rw [hS9, hx]
  refine am_newq (t := am_kN) (C := "FlowFabric$Node") (N := ns) 9997 d_FF_new_10 am_kN_ok (by obtain ⟨q, h1, h2, -⟩ := n_FF_13; cases h1; exact h2) (by decide) (nI_pos (by omega)) (nI_clamp (by omega)) (by omega) ?_
  refine am_astore (L1 := [_, _, _, _, _, _]) d_FF_new_13 (by decide) (by first | exact am_rvR _ | exact am_rvN | assumption) rfl ?_
  refine am_iconst (v := (0)) d_FF_new_15 (by decide) ?_
  refine am_istore (L1 := [_, _, _, _, _, _]) d_FF_new_16 (by decide) rfl ?_
  have hfirst : ci_N e ns room S.2.1 (S.2.2 + ns) 0 S (am_mk S 9997 ns (.inl (am_kN, List.replicate ns .null))) := by
    refine ⟨(am_fr.mk (fun _ => False) _ _ _ o).2.2.2 o, ⟨rfl, rfl⟩, ?_, fun j hj => absurd hj (Nat.not_lt_zero _), fun b u x hb => am_mk_old hb o⟩
    rw [am_mk_at]
    unfold ci_row
    simp
  refine mk_FF1 hn he hy o rfl ?_ ns 0 _ (Nat.zero_add _) hfirst
  intro S1 H
  obtain ⟨o1, ⟨y1, x1⟩, hrow, hnds, hold1⟩ := H
  have haz := o _ _ ha
  refine am_retag 0 hrow (by decide) ?_
  obtain ⟨R0, eR0⟩ : ∃ q, q = am_up S1 S.2.1 0 (.inl (am_kN, ci_row S.2.1 ns ns)) := ⟨_, rfl⟩
  have keep0 : ∀ (b u : Nat) (x : am_K), S1.1 b = some (u, x) → b ≠ S.2.1 → R0.1 b = some (u, x) := fun b u x hb hne => by rw [eR0, am_up_ne _ _ _ hne]; exact hb
  have hrow0 : R0.1 S.2.1 = some (0, .inl (am_kN, ci_row S.2.1 ns ns)) := by rw [eR0]; exact am_up_at _ _ _ _
  have oR0 : am_ok R0 := by rw [eR0]; exact (am_fr.up (X := fun _ => True) hrow trivial).2.2.2 o1
  have yR : R0.2.1 = S1.2.1 ∧ R0.2.2 = S1.2.2 := by rw [eR0]; exact ⟨rfl, rfl⟩
  obtain ⟨yR1, yR2⟩ := yR
  rw [← eR0]
  have fff_0 := keep0 _ _ _ (hold1 _ _ _ ha) (by omega)
  have old_0 : ∀ (b u : Nat) (x : am_K), R0.1 b = some (u, x) → b ≠ a → R0.1 b = some (u, x) := fun _ _ _ h _ => h
  refine am_aload_n d_FF_new_53 rfl (by first | exact am_rvR _ | exact am_rvN | assumption) ?_
  refine am_aload d_FF_new_54 rfl (by first | exact am_rvR _ | exact am_rvN | assumption) ?_
  refine am_put _ d_FF_new_56 f_FF_18 p_FF_18 fff_0 (by decide) rfl rfl ?_
  obtain ⟨T1, eT1⟩ : ∃ q, q = am_up R0 a 1 (.inr (am_cFF, [.int 0, .ref S.2.1, .null, .null, .int 0, .int 0])) := ⟨_, rfl⟩
  have zT1 : T1.2.1 = R0.2.1 ∧ T1.2.2 = R0.2.2 := by rw [eT1]; exact ⟨rfl, rfl⟩
  obtain ⟨y1, x1⟩ := zT1
  have old_1 : ∀ (b u : Nat) (x : am_K), R0.1 b = some (u, x) → b ≠ a → T1.1 b = some (u, x) := fun b u x hb hne => by rw [eT1, am_up_ne _ _ _ hne]; exact old_0 b u x hb hne
  have fff_1 : T1.1 a = some (1, (.inr (am_cFF, [.int 0, .ref S.2.1, .null, .null, .int 0, .int 0]))) := by rw [eT1]; exact am_up_at _ _ _ _
  have oT1 : am_ok T1 := by rw [eT1]; exact (am_fr.up (X := fun _ => True) fff_0 trivial).2.2.2 oR0
  change am_W g _ _ _ _ _ _ _ (am_up R0 a 1 (.inr (am_cFF, [.int 0, .ref S.2.1, .null, .null, .int 0, .int 0])))
  rw [← eT1]
  refine am_aload_n d_FF_new_59 rfl (by first | exact am_rvR _ | exact am_rvN | assumption) ?_
  refine am_iload_n d_FF_new_60 rfl ?_
  refine am_iconst (v := (1)) d_FF_new_61 (by decide) ?_
  refine am_bipush (v := (9)) d_FF_new_62 (by decide) ?_
  refine am_cS d_FF_new_64 s_FF_7 (vs := [.int zz, .int 1, .int 9]) (st := [.ref a]) rfl rfl (by decide) (Nat.le_of_ble_eq_true rfl) (ff_within zz 1 9) ?_
  rintro v S9 ⟨rfl, hS9⟩
  rw [hS9, hz]
  refine am_put _ d_FF_new_67 f_FF_22 p_FF_22 fff_1 (by decide) rfl rfl ?_
  obtain ⟨T2, eT2⟩ : ∃ q, q = am_up T1 a 1 (.inr (am_cFF, [.int (nI idle), .ref S.2.1, .null, .null, .int 0, .int 0])) := ⟨_, rfl⟩
  have zT2 : T2.2.1 = T1.2.1 ∧ T2.2.2 = T1.2.2 := by rw [eT2]; exact ⟨rfl, rfl⟩
  obtain ⟨y2, x2⟩ := zT2
  have old_2 : ∀ (b u : Nat) (x : am_K), R0.1 b = some (u, x) → b ≠ a → T2.1 b = some (u, x) := fun b u x hb hne => by rw [eT2, am_up_ne _ _ _ hne]; exact old_1 b u x hb hne
  have fff_2 : T2.1 a = some (1, (.inr (am_cFF, [.int (nI idle), .ref S.2.1, .null, .null, .int 0, .int 0]))) := by rw [eT2]; exact am_up_at _ _ _ _
  have oT2 : am_ok T2 := by rw [eT2]; exact (am_fr.up (X := fun _ => True) fff_1 trivial).2.2.2 oT1
  change am_W g _ _ _ _ _ _ _ (am_up T1 a 1 (.inr (am_cFF, [.int (nI idle), .ref S.2.1, .null, .null, .int 0, .int 0])))
  rw [← eT2]
  refine am_aload_n d_FF_new_70 rfl (by first | exact am_rvR _ | exact am_rvN | assumption) ?_
  refine am_bipush (v := (6)) d_FF_new_71 (by decide) ?_
  refine am_newq (t := am_kH) (C := "FlowFabric$Host") (N := 6) 11 d_FF_new_73 am_kH_ok (by obtain ⟨q, h1, h2, -⟩ := n_FF_26; cases h1; exact h2) (by decide) (by decide) (by decide) (by decide) ?_
  obtain ⟨T3, eT3⟩ : ∃ q, q = am_mk T2 11 (6) (.inl (am_kH, List.replicate 6 .null)) := ⟨_, rfl⟩
  have zT3 : T3.2.1 = T2.2.1 + 1 ∧ T3.2.2 = T2.2.2 + (6) := by rw [eT3]; exact ⟨rfl, rfl⟩
  obtain ⟨y3, x3⟩ := zT3
  have old_3 : ∀ (b u : Nat) (x : am_K), R0.1 b = some (u, x) → b ≠ a → T3.1 b = some (u, x) := fun b u x hb hne => by rw [eT3]; exact am_mk_old (old_2 b u x hb hne) oT2
  have fff_3 : T3.1 a = some (1, (.inr (am_cFF, [.int (nI idle), .ref S.2.1, .null, .null, .int 0, .int 0]))) := by rw [eT3]; exact am_mk_old fff_2 oT2
  have fho_3 : T3.1 T2.2.1 = some (11, (.inl (am_kH, List.replicate 6 .null))) := by rw [eT3]; exact am_mk_at _ _ _ _
  have oT3 : am_ok T3 := by rw [eT3]; exact (am_fr.mk (fun _ => False) _ _ _ oT2).2.2.2 oT2
  change am_W g _ _ _ _ _ _ _ (am_mk T2 11 (6) (.inl (am_kH, List.replicate 6 .null)))
  rw [← eT3]
  refine am_put _ d_FF_new_76 f_FF_28 p_FF_28 fff_3 (by decide) rfl rfl ?_
  obtain ⟨T4, eT4⟩ : ∃ q, q = am_up T3 a 1 (.inr (am_cFF, [.int (nI idle), .ref S.2.1, .ref T2.2.1, .null, .int 0, .int 0])) := ⟨_, rfl⟩
  have zT4 : T4.2.1 = T3.2.1 ∧ T4.2.2 = T3.2.2 := by rw [eT4]; exact ⟨rfl, rfl⟩
  obtain ⟨y4, x4⟩ := zT4
  have old_4 : ∀ (b u : Nat) (x : am_K), R0.1 b = some (u, x) → b ≠ a → T4.1 b = some (u, x) := fun b u x hb hne => by rw [eT4, am_up_ne _ _ _ hne]; exact old_3 b u x hb hne
  have fho_4 : T4.1 T2.2.1 = some (11, (.inl (am_kH, List.replicate 6 .null))) := by rw [eT4]; exact am_up_tag fho_3 fff_3 (by omega)
  have fff_4 : T4.1 a = some (1, (.inr (am_cFF, [.int (nI idle), .ref S.2.1, .ref T2.2.1, .null, .int 0, .int 0]))) := by rw [eT4]; exact am_up_at _ _ _ _
  have oT4 : am_ok T4 := by rw [eT4]; exact (am_fr.up (X := fun _ => True) fff_3 trivial).2.2.2 oT3
  change am_W g _ _ _ _ _ _ _ (am_up T3 a 1 (.inr (am_cFF, [.int (nI idle), .ref S.2.1, .ref T2.2.1, .null, .int 0, .int 0])))
  rw [← eT4]
  refine am_aload_n d_FF_new_79 rfl (by first | exact am_rvR _ | exact am_rvN | assumption) ?_
  refine am_nw 21 d_FF_new_80 n_FF_32 df_Ct ?_
  obtain ⟨T5, eT5⟩ : ∃ q, q = am_mk T4 21 (7) (.inr (am_cCt, [.null, .null, .null, .null, .null, .null, .int 0])) := ⟨_, rfl⟩
  have zT5 : T5.2.1 = T4.2.1 + 1 ∧ T5.2.2 = T4.2.2 + (7) := by rw [eT5]; exact ⟨rfl, rfl⟩
  obtain ⟨y5, x5⟩ := zT5
  have old_5 : ∀ (b u : Nat) (x : am_K), R0.1 b = some (u, x) → b ≠ a → T5.1 b = some (u, x) := fun b u x hb hne => by rw [eT5]; exact am_mk_old (old_4 b u x hb hne) oT4
  have fff_5 : T5.1 a = some (1, (.inr (am_cFF, [.int (nI idle), .ref S.2.1, .ref T2.2.1, .null, .int 0, .int 0]))) := by rw [eT5]; exact am_mk_old fff_4 oT4
  have fho_5 : T5.1 T2.2.1 = some (11, (.inl (am_kH, List.replicate 6 .null))) := by rw [eT5]; exact am_mk_old fho_4 oT4
  have fct_5 : T5.1 T4.2.1 = some (21, (.inr (am_cCt, [.null, .null, .null, .null, .null, .null, .int 0]))) := by rw [eT5]; exact am_mk_at _ _ _ _
  have oT5 : am_ok T5 := by rw [eT5]; exact (am_fr.mk (fun _ => False) _ _ _ oT4).2.2.2 oT4
  change am_W g _ _ _ _ _ _ _ (am_mk T4 21 (7) (.inr (am_cCt, [.null, .null, .null, .null, .null, .null, .int 0])))
  rw [← eT5]
  refine am_dup d_FF_new_83 rfl ?_
  refine am_aload d_FF_new_84 rfl (by first | exact am_rvR _ | exact am_rvN | assumption) ?_
  have hz5 := old_5 _ _ _ hrow0 (by omega)
  refine am_cI (b := T4.2.1) d_FF_new_86 i_FF_34 (vs := [.ref S.2.1]) (st := [.ref T4.2.1, .ref a]) rfl rfl (by decide) (Nat.le_of_ble_eq_true rfl) (mk_Ct hn he (ci_row_len (Nat.le_refl _)) oT5 fct_5 hz5) ?_
  rintro v R6 ⟨rfl, ⟨y6, x6⟩, c2, c3, c4, c5, c7, c6, hfr⟩
  have o6 := hfr.2.2.2 oT5
  have f6 := hfr.keep fff_5 (by unfold ci_X; decide)
  have ho6 := hfr.keep fho_5 (by unfold ci_X; decide)
  have z6 := hfr.keep hz5 (by unfold ci_X; decide)
  have keep6 : ∀ (b u : Nat) (x : am_K), S1.1 b = some (u, x) → b ≠ S.2.1 → b ≠ a → ¬ ci_X u → R6.1 b = some (u, x) := fun b u x hb h1 h2 h3 => hfr.keep (old_5 _ _ _ (keep0 _ _ _ hb h1) h2) h3
  refine am_put _ d_FF_new_89 f_FF_37 p_FF_37 f6 (by decide) rfl rfl ?_
  refine am_aload_n d_FF_new_92 rfl (by first | exact am_rvR _ | exact am_rvN | assumption) ?_
  refine am_iconst (v := (0 : Int32)) d_FF_new_93 (by decide) ?_
  refine am_put _ d_FF_new_94 f_FF_41 (p_FF_41 _) (am_up_at _ _ _ _) (by decide) rfl rfl ?_
  rw [am_up_up]
  refine am_aload_n d_FF_new_97 rfl (by first | exact am_rvR _ | exact am_rvN | assumption) ?_
  refine am_iconst (v := (0 : Int32)) d_FF_new_98 (by decide) ?_
  refine am_put _ d_FF_new_99 f_FF_44 (p_FF_44 _) (am_up_at _ _ _ _) (by decide) rfl rfl ?_
  rw [am_up_up]
  refine am_vret d_FF_new_102 rfl ?_
  obtain ⟨R9, eR9⟩ : ∃ q, q = (am_up R6 a 1 (.inr (am_cFF, [.int (nI idle), .ref S.2.1, .ref T2.2.1, .ref T4.2.1, .int 0, .int 0]))) := ⟨_, rfl⟩
  change none = none ∧ cl_P e nw ns room idle (ci_A a S.2.1 ns) (cl_s0 ns (am_up R6 a 1 (.inr (am_cFF, [.int (nI idle), .ref S.2.1, .ref T2.2.1, .ref T4.2.1, .int 0, .int 0])))) (am_up R6 a 1 (.inr (am_cFF, [.int (nI idle), .ref S.2.1, .ref T2.2.1, .ref T4.2.1, .int 0, .int 0]))) ∧ ((am_up R6 a 1 (.inr (am_cFF, [.int (nI idle), .ref S.2.1, .ref T2.2.1, .ref T4.2.1, .int 0, .int 0]))).2.1 = S.2.1 + 14 * ns + 8 ∧ (am_up R6 a 1 (.inr (am_cFF, [.int (nI idle), .ref S.2.1, .ref T2.2.1, .ref T4.2.1, .int 0, .int 0]))).2.2 = S.2.2 + (61 * ns + 22)) ∧ ∀ (b u : Nat) (x : am_K), S.1 b = some (u, x) → b ≠ a → ¬ ci_X u → (am_up R6 a 1 (.inr (am_cFF, [.int (nI idle), .ref S.2.1, .ref T2.2.1, .ref T4.2.1, .int 0, .int 0]))).1 b = some (u, x)
  rw [← eR9]
  have o9 : am_ok R9 := by rw [eR9]; exact (am_fr.up (X := fun _ => True) f6 trivial).2.2.2 o6
  have y9 : R9.2.1 = R6.2.1 := by rw [eR9]; rfl
  have x9 : R9.2.2 = R6.2.2 := by rw [eR9]; rfl
  have keep9 : ∀ (b u : Nat) (x : am_K), R6.1 b = some (u, x) → b ≠ a → R9.1 b = some (u, x) := fun b u x hb hne => by rw [eR9, am_up_ne _ _ _ hne]; exact hb
  have f9 : R9.1 a = some (1, (.inr (am_cFF, [.int (nI idle), .ref S.2.1, .ref T2.2.1, .ref T4.2.1, .int 0, .int 0]))) := by rw [eR9]; exact am_up_at _ _ _ _
  have keepS : ∀ (b u : Nat) (x : am_K), S.1 b = some (u, x) → b ≠ a → ¬ ci_X u → R9.1 b = some (u, x) := fun b u x hb h1 h2 => keep9 _ _ _ (keep6 _ _ _ (hold1 _ _ _ hb) (by have := o _ _ hb; omega) h1 h2) h1
  have hne0 : ∀ b u x, S.1 b = some (u, x) → u = 0 → b ≠ a := fun b u x hb hu hba => by subst hba; rw [ha] at hb; cases hb; cases hu
  have q1 : T2.2.1 = S.2.1 + 1 + 14 * ns := by omega
  have q2 : T4.2.1 = S.2.1 + 2 + 14 * ns := by omega
  have q3 : T5.2.1 = S.2.1 + 3 + 14 * ns := by omega
  simp only [q1, q2, q3] at f9 ho6 c2 c3 c4 c5 c6 c7
  refine ⟨rfl, cl_start hn o9 (keepS _ _ _ hE (hne0 _ _ _ hE rfl) (by unfold ci_X; decide)) (keepS _ _ _ hNW (hne0 _ _ _ hNW rfl) (by unfold ci_X; decide)) (keep9 _ _ _ z6 (by omega)) (fun j hj => ⟨?_, ?_⟩) f9 (keep9 _ _ _ ho6 (by omega)) ?_ (keep9 _ _ _ c3 (by omega)) ?_ ?_ ?_ ?_, ⟨by omega, by omega⟩, keepS⟩
  · exact keep9 _ _ _ (keep6 _ _ _ (hnds j hj).1 (by omega) (by omega) (by unfold ci_X; decide)) (by omega)
  · exact (hnds j hj).2.keep2 (fun b u x hb h1 h2 h3 => keep9 _ _ _ (keep6 _ _ _ hb (by omega) (by omega) (by unfold ci_X; omega)) (by omega))
  · have z := keep9 _ _ _ c2 (by omega)
    rw [show S.2.1 + 3 + 14 * ns + 1 = S.2.1 + 4 + 14 * ns by omega, show S.2.1 + 3 + 14 * ns + 2 = S.2.1 + 5 + 14 * ns by omega, show S.2.1 + 3 + 14 * ns + 3 = S.2.1 + 6 + 14 * ns by omega, show S.2.1 + 3 + 14 * ns + 4 = S.2.1 + 7 + 14 * ns by omega] at z
    exact z
  · rw [show S.2.1 + 4 + 14 * ns = S.2.1 + 3 + 14 * ns + 1 by omega]; exact keep9 _ _ _ c4 (by omega)
  · rw [show S.2.1 + 5 + 14 * ns = S.2.1 + 3 + 14 * ns + 2 by omega]; exact keep9 _ _ _ c5 (by omega)
  · rw [show S.2.1 + 6 + 14 * ns = S.2.1 + 3 + 14 * ns + 3 by omega]; exact keep9 _ _ _ c7 (by omega)
  · rw [show S.2.1 + 7 + 14 * ns = S.2.1 + 3 + 14 * ns + 4 by omega]; exact keep9 _ _ _ c6 (by omega)
end CIE
