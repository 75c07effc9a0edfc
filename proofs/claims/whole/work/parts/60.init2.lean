/-! the class: a node at the start -/
section CIB
variable {g : am_G} {e nw ns room idle : Nat} {A : Nat → Nat} {s : cl_S} {S : am_S}
/-- the cells of a new node -/
def ci_nd (e i z : Nat) (S : am_S) : Prop := S.1 z = some (0, .inl (am_kP, [.ref (z + 1), .ref (z + 3), .ref (z + 5), .ref (z + 7)])) ∧
  (∀ p, p < 4 → S.1 (z + 1 + 2 * p) = some (10 * (100 + (4 * i + p)) + 1, .inr (am_cPt, [.ref (z + 2 + 2 * p), .null, .int (-1), .int 0])) ∧ S.1 (z + 2 + 2 * p) = some (10 * (200 + (4 * i + p)) + 1, (.inr (am_cAL, [.int 0, .ref e, .int 0])))) ∧
  S.1 (z + 9) = some (10 * (10 + i) + 1, (.inr (am_cAL, [.int 0, .ref e, .int 0]))) ∧ S.1 (z + 10) = some (10 * (20 + i) + 1, (.inr (am_cAL, [.int 0, .ref e, .int 0]))) ∧ S.1 (z + 11) = some (10 * (30 + i) + 1, (.inr (am_cAL, [.int 0, .ref e, .int 0]))) ∧ S.1 (z + 12) = some (10 * (40 + i) + 1, (.inr (am_cAL, [.int 0, .ref e, .int 0])))
theorem mk_Nd (he : am_gE g e) {a i : Nat} (hi : i < 5) (r : Int32) (o : am_ok S) (fnd_0 : S.1 a = some (9999, (.inr (am_cNd, [.int 0, .int 0, .null, .null, .null, .null, .null])))) : am_M g y_Nd_new "(II)V" 5 94 [.ref a, .int (nI i), .int r] S (fun v S' => v = none ∧ (S'.2.1 = S.2.1 + 13 ∧ S'.2.2 = S.2.2 + 44) ∧ S'.1 a = some (9999, .inr (am_cNd, [.int (nI i), .int r, .ref S.2.1, .ref (S.2.1 + 9), .ref (S.2.1 + 10), .ref (S.2.1 + 11), .ref (S.2.1 + 12)])) ∧ ci_nd e i S.2.1 S' ∧ am_ok S' ∧ ∀ (b u : Nat) (x : am_K), S.1 b = some (u, x) → b ≠ a → S'.1 b = some (u, x)) := by
  have old_0 : ∀ (b u : Nat) (x : am_K), S.1 b = some (u, x) → b ≠ a → S.1 b = some (u, x) := fun _ _ _ h _ => h
  refine am_Mof (L0 := [some (.ref a), some (.int (nI i)), some (.int r), none]) pl_Nd_new (am_k1 rfl (am_k1 rfl (am_k1 rfl am_k0))) (Nat.le_of_ble_eq_true rfl) rfl ?_
  refine am_aload_n d_Nd_new_0 rfl (by first | exact am_rvR _ | exact am_rvN | assumption) ?_
  refine am_objInit d_Nd_new_1 o_Nd_3 o_hi o_hc (by decide) (Nat.le_of_ble_eq_true rfl) ?_
  refine am_aload_n d_Nd_new_4 rfl (by first | exact am_rvR _ | exact am_rvN | assumption) ?_
  refine am_iload_n d_Nd_new_5 rfl ?_
  refine am_put _ d_Nd_new_6 f_Nd_9 p_Nd_9 fnd_0 (by decide) rfl rfl ?_
  obtain ⟨T1, eT1⟩ : ∃ q, q = am_up S a 9999 (.inr (am_cNd, [.int (nI i), .int 0, .null, .null, .null, .null, .null])) := ⟨_, rfl⟩
  have zT1 : T1.2.1 = S.2.1 ∧ T1.2.2 = S.2.2 := by rw [eT1]; exact ⟨rfl, rfl⟩
  obtain ⟨y1, x1⟩ := zT1
  have old_1 : ∀ (b u : Nat) (x : am_K), S.1 b = some (u, x) → b ≠ a → T1.1 b = some (u, x) := fun b u x hb hne => by rw [eT1, am_up_ne _ _ _ hne]; exact old_0 b u x hb hne
  have fnd_1 : T1.1 a = some (9999, (.inr (am_cNd, [.int (nI i), .int 0, .null, .null, .null, .null, .null]))) := by rw [eT1]; exact am_up_at _ _ _ _
  have oT1 : am_ok T1 := by rw [eT1]; exact (am_fr.up (X := fun _ => True) fnd_0 trivial).2.2.2 o
  change am_W g _ _ _ _ _ _ _ (am_up S a 9999 (.inr (am_cNd, [.int (nI i), .int 0, .null, .null, .null, .null, .null])))
  rw [← eT1]
  refine am_aload_n d_Nd_new_9 rfl (by first | exact am_rvR _ | exact am_rvN | assumption) ?_
  refine am_iload_n d_Nd_new_10 rfl ?_
  refine am_put _ d_Nd_new_11 f_Nd_15 p_Nd_15 fnd_1 (by decide) rfl rfl ?_
  obtain ⟨T2, eT2⟩ : ∃ q, q = am_up T1 a 9999 (.inr (am_cNd, [.int (nI i), .int r, .null, .null, .null, .null, .null])) := ⟨_, rfl⟩
  have zT2 : T2.2.1 = T1.2.1 ∧ T2.2.2 = T1.2.2 := by rw [eT2]; exact ⟨rfl, rfl⟩
  obtain ⟨y2, x2⟩ := zT2
  have old_2 : ∀ (b u : Nat) (x : am_K), S.1 b = some (u, x) → b ≠ a → T2.1 b = some (u, x) := fun b u x hb hne => by rw [eT2, am_up_ne _ _ _ hne]; exact old_1 b u x hb hne
  have fnd_2 : T2.1 a = some (9999, (.inr (am_cNd, [.int (nI i), .int r, .null, .null, .null, .null, .null]))) := by rw [eT2]; exact am_up_at _ _ _ _
  have oT2 : am_ok T2 := by rw [eT2]; exact (am_fr.up (X := fun _ => True) fnd_1 trivial).2.2.2 oT1
  change am_W g _ _ _ _ _ _ _ (am_up T1 a 9999 (.inr (am_cNd, [.int (nI i), .int r, .null, .null, .null, .null, .null])))
  rw [← eT2]
  refine am_aload_n d_Nd_new_14 rfl (by first | exact am_rvR _ | exact am_rvN | assumption) ?_
  refine am_iconst (v := nI 4) d_Nd_new_15 (by decide) ?_
  refine am_newq (t := am_kP) (C := "FlowFabric$Port") (N := 4) 9998 d_Nd_new_16 am_kP_ok (by obtain ⟨q, h1, h2, -⟩ := n_Nd_18; cases h1; exact h2) (by decide) (by decide) (by decide) (by decide) ?_
  obtain ⟨T3, eT3⟩ : ∃ q, q = am_mk T2 9998 (4) (.inl (am_kP, [.null, .null, .null, .null])) := ⟨_, rfl⟩
  have zT3 : T3.2.1 = T2.2.1 + 1 ∧ T3.2.2 = T2.2.2 + (4) := by rw [eT3]; exact ⟨rfl, rfl⟩
  obtain ⟨y3, x3⟩ := zT3
  have old_3 : ∀ (b u : Nat) (x : am_K), S.1 b = some (u, x) → b ≠ a → T3.1 b = some (u, x) := fun b u x hb hne => by rw [eT3]; exact am_mk_old (old_2 b u x hb hne) oT2
  have fnd_3 : T3.1 a = some (9999, (.inr (am_cNd, [.int (nI i), .int r, .null, .null, .null, .null, .null]))) := by rw [eT3]; exact am_mk_old fnd_2 oT2
  have fps_3 : T3.1 T2.2.1 = some (9998, (.inl (am_kP, [.null, .null, .null, .null]))) := by rw [eT3]; exact am_mk_at _ _ _ _
  have oT3 : am_ok T3 := by rw [eT3]; exact (am_fr.mk (fun _ => False) _ _ _ oT2).2.2.2 oT2
  change am_W g _ _ _ _ _ _ _ (am_mk T2 9998 (4) (.inl (am_kP, [.null, .null, .null, .null])))
  rw [← eT3]
  refine am_put _ d_Nd_new_19 f_Nd_20 p_Nd_20 fnd_3 (by decide) rfl rfl ?_
  obtain ⟨T4, eT4⟩ : ∃ q, q = am_up T3 a 9999 (.inr (am_cNd, [.int (nI i), .int r, .ref T2.2.1, .null, .null, .null, .null])) := ⟨_, rfl⟩
  have zT4 : T4.2.1 = T3.2.1 ∧ T4.2.2 = T3.2.2 := by rw [eT4]; exact ⟨rfl, rfl⟩
  obtain ⟨y4, x4⟩ := zT4
  have old_4 : ∀ (b u : Nat) (x : am_K), S.1 b = some (u, x) → b ≠ a → T4.1 b = some (u, x) := fun b u x hb hne => by rw [eT4, am_up_ne _ _ _ hne]; exact old_3 b u x hb hne
  have fps_4 : T4.1 T2.2.1 = some (9998, (.inl (am_kP, [.null, .null, .null, .null]))) := by rw [eT4]; exact am_up_tag fps_3 fnd_3 (by omega)
  have fnd_4 : T4.1 a = some (9999, (.inr (am_cNd, [.int (nI i), .int r, .ref T2.2.1, .null, .null, .null, .null]))) := by rw [eT4]; exact am_up_at _ _ _ _
  have oT4 : am_ok T4 := by rw [eT4]; exact (am_fr.up (X := fun _ => True) fnd_3 trivial).2.2.2 oT3
  change am_W g _ _ _ _ _ _ _ (am_up T3 a 9999 (.inr (am_cNd, [.int (nI i), .int r, .ref T2.2.1, .null, .null, .null, .null])))
  rw [← eT4]
  refine am_iconst (v := nI 0) d_Nd_new_22 (by decide) ?_
  refine am_istore_n (L1 := [_, _, _, _]) d_Nd_new_23 (by decide) rfl ?_
  refine am_iload_n d_Nd_new_24 rfl ?_
  refine am_iconst (v := nI 4) d_Nd_new_25 (by decide) ?_
  refine am_icmp_geN (tgt := 48) d_Nd_new_26 (by decide) (by omega) (by omega) (fun q => absurd q (by omega)) (fun _ => ?_)
  refine am_aload_n d_Nd_new_29 rfl (by first | exact am_rvR _ | exact am_rvN | assumption) ?_
  refine am_get d_Nd_new_30 f_Nd_20 fnd_4 (by rfl) ?_
  refine am_iload_n d_Nd_new_33 rfl ?_
  refine am_nw (10 * (100 + (4 * i + 0)) + 1) d_Nd_new_34 n_Nd_18 df_Pt ?_
  obtain ⟨T5, eT5⟩ : ∃ q, q = am_mk T4 (10 * (100 + (4 * i + 0)) + 1) (4) (.inr (am_cPt, [.null, .null, .int 0, .int 0])) := ⟨_, rfl⟩
  have zT5 : T5.2.1 = T4.2.1 + 1 ∧ T5.2.2 = T4.2.2 + (4) := by rw [eT5]; exact ⟨rfl, rfl⟩
  obtain ⟨y5, x5⟩ := zT5
  have old_5 : ∀ (b u : Nat) (x : am_K), S.1 b = some (u, x) → b ≠ a → T5.1 b = some (u, x) := fun b u x hb hne => by rw [eT5]; exact am_mk_old (old_4 b u x hb hne) oT4
  have fnd_5 : T5.1 a = some (9999, (.inr (am_cNd, [.int (nI i), .int r, .ref T2.2.1, .null, .null, .null, .null]))) := by rw [eT5]; exact am_mk_old fnd_4 oT4
  have fps_5 : T5.1 T2.2.1 = some (9998, (.inl (am_kP, [.null, .null, .null, .null]))) := by rw [eT5]; exact am_mk_old fps_4 oT4
  have fp0_5 : T5.1 T4.2.1 = some ((10 * (100 + (4 * i + 0)) + 1), (.inr (am_cPt, [.null, .null, .int 0, .int 0]))) := by rw [eT5]; exact am_mk_at _ _ _ _
  have oT5 : am_ok T5 := by rw [eT5]; exact (am_fr.mk (fun _ => False) _ _ _ oT4).2.2.2 oT4
  change am_W g _ _ _ _ _ _ _ (am_mk T4 (10 * (100 + (4 * i + 0)) + 1) (4) (.inr (am_cPt, [.null, .null, .int 0, .int 0])))
  rw [← eT5]
  refine am_dup d_Nd_new_37 rfl ?_
  refine am_cI (b := T4.2.1) d_Nd_new_38 i_Nd_24 (vs := []) (st := [.ref T4.2.1, .int _, .ref T2.2.1]) rfl rfl (by decide) (Nat.le_of_ble_eq_true rfl) (mk_Pt he (10 * (200 + (4 * i + 0)) + 1) (by omega) (by omega) oT5 fp0_5) ?_
  rintro v S2 ⟨rfl, rfl⟩
  obtain ⟨T6, eT6⟩ : ∃ q, q = am_mk T5 (10 * (200 + (4 * i + 0)) + 1) (3) (.inr (am_cAL, [.int 0, .ref e, .int 0])) := ⟨_, rfl⟩
  have zT6 : T6.2.1 = T5.2.1 + 1 ∧ T6.2.2 = T5.2.2 + (3) := by rw [eT6]; exact ⟨rfl, rfl⟩
  obtain ⟨y6, x6⟩ := zT6
  have old_6 : ∀ (b u : Nat) (x : am_K), S.1 b = some (u, x) → b ≠ a → T6.1 b = some (u, x) := fun b u x hb hne => by rw [eT6]; exact am_mk_old (old_5 b u x hb hne) oT5
  have fnd_6 : T6.1 a = some (9999, (.inr (am_cNd, [.int (nI i), .int r, .ref T2.2.1, .null, .null, .null, .null]))) := by rw [eT6]; exact am_mk_old fnd_5 oT5
  have fps_6 : T6.1 T2.2.1 = some (9998, (.inl (am_kP, [.null, .null, .null, .null]))) := by rw [eT6]; exact am_mk_old fps_5 oT5
  have fp0_6 : T6.1 T4.2.1 = some ((10 * (100 + (4 * i + 0)) + 1), (.inr (am_cPt, [.null, .null, .int 0, .int 0]))) := by rw [eT6]; exact am_mk_old fp0_5 oT5
  have fw0_6 : T6.1 T5.2.1 = some ((10 * (200 + (4 * i + 0)) + 1), (.inr (am_cAL, [.int 0, .ref e, .int 0]))) := by rw [eT6]; exact am_mk_at _ _ _ _
  have oT6 : am_ok T6 := by rw [eT6]; exact (am_fr.mk (fun _ => False) _ _ _ oT5).2.2.2 oT5
  rw [← eT6]
  obtain ⟨T7, eT7⟩ : ∃ q, q = am_up T6 T4.2.1 (10 * (100 + (4 * i + 0)) + 1) (.inr (am_cPt, [.ref T5.2.1, .null, .int (-1), .int 0])) := ⟨_, rfl⟩
  have zT7 : T7.2.1 = T6.2.1 ∧ T7.2.2 = T6.2.2 := by rw [eT7]; exact ⟨rfl, rfl⟩
  obtain ⟨y7, x7⟩ := zT7
  have old_7 : ∀ (b u : Nat) (x : am_K), S.1 b = some (u, x) → b ≠ a → T7.1 b = some (u, x) := fun b u x hb hne => by rw [eT7, am_up_ne _ _ _ (by have := o _ _ hb; omega)]; exact old_6 b u x hb hne
  have fnd_7 : T7.1 a = some (9999, (.inr (am_cNd, [.int (nI i), .int r, .ref T2.2.1, .null, .null, .null, .null]))) := by rw [eT7]; exact am_up_tag fnd_6 fp0_6 (by omega)
  have fps_7 : T7.1 T2.2.1 = some (9998, (.inl (am_kP, [.null, .null, .null, .null]))) := by rw [eT7]; exact am_up_tag fps_6 fp0_6 (by omega)
  have fw0_7 : T7.1 T5.2.1 = some ((10 * (200 + (4 * i + 0)) + 1), (.inr (am_cAL, [.int 0, .ref e, .int 0]))) := by rw [eT7]; exact am_up_tag fw0_6 fp0_6 (by omega)
  have fp0_7 : T7.1 T4.2.1 = some ((10 * (100 + (4 * i + 0)) + 1), (.inr (am_cPt, [.ref T5.2.1, .null, .int (-1), .int 0]))) := by rw [eT7]; exact am_up_at _ _ _ _
  have oT7 : am_ok T7 := by rw [eT7]; exact (am_fr.up (X := fun _ => True) fp0_6 trivial).2.2.2 oT6
  change am_W g _ _ _ _ _ _ _ (am_up T6 T4.2.1 (10 * (100 + (4 * i + 0)) + 1) (.inr (am_cPt, [.ref T5.2.1, .null, .int (-1), .int 0])))
  rw [← eT7]
  refine am_aast (j := 0) d_Nd_new_41 am_kP_ok fps_7 (by decide) fp0_7 (q := am_qPt) rfl (Or.inl rfl) rfl (by show 0 < 4; decide) (by show 4 < 2 ^ 31; decide) ?_
  obtain ⟨T8, eT8⟩ : ∃ q, q = am_up T7 T2.2.1 9998 (.inl (am_kP, [.ref T4.2.1, .null, .null, .null])) := ⟨_, rfl⟩
  have zT8 : T8.2.1 = T7.2.1 ∧ T8.2.2 = T7.2.2 := by rw [eT8]; exact ⟨rfl, rfl⟩
  obtain ⟨y8, x8⟩ := zT8
  have old_8 : ∀ (b u : Nat) (x : am_K), S.1 b = some (u, x) → b ≠ a → T8.1 b = some (u, x) := fun b u x hb hne => by rw [eT8, am_up_ne _ _ _ (by have := o _ _ hb; omega)]; exact old_7 b u x hb hne
  have fnd_8 : T8.1 a = some (9999, (.inr (am_cNd, [.int (nI i), .int r, .ref T2.2.1, .null, .null, .null, .null]))) := by rw [eT8]; exact am_up_tag fnd_7 fps_7 (by omega)
  have fp0_8 : T8.1 T4.2.1 = some ((10 * (100 + (4 * i + 0)) + 1), (.inr (am_cPt, [.ref T5.2.1, .null, .int (-1), .int 0]))) := by rw [eT8]; exact am_up_tag fp0_7 fps_7 (by omega)
  have fw0_8 : T8.1 T5.2.1 = some ((10 * (200 + (4 * i + 0)) + 1), (.inr (am_cAL, [.int 0, .ref e, .int 0]))) := by rw [eT8]; exact am_up_tag fw0_7 fps_7 (by omega)
  have fps_8 : T8.1 T2.2.1 = some (9998, (.inl (am_kP, [.ref T4.2.1, .null, .null, .null]))) := by rw [eT8]; exact am_up_at _ _ _ _
  have oT8 : am_ok T8 := by rw [eT8]; exact (am_fr.up (X := fun _ => True) fps_7 trivial).2.2.2 oT7
  change am_W g _ _ _ _ _ _ _ (am_up T7 T2.2.1 9998 (.inl (am_kP, [.ref T4.2.1, .null, .null, .null])))
  rw [← eT8]
  first | refine am_iincN (b := 1) (L1 := [_, _, _, _]) d_Nd_new_42 rfl (by decide) (by decide) rfl ?_ | refine am_iinc (L1 := [_, _, _, _]) d_Nd_new_42 rfl rfl (by decide) rfl ?_
  refine am_goto (tgt := 24) d_Nd_new_45 (by decide) ?_
  refine am_iload_n d_Nd_new_24 rfl ?_
  refine am_iconst (v := nI 4) d_Nd_new_25 (by decide) ?_
  refine am_icmp_geN (tgt := 48) d_Nd_new_26 (by decide) (by omega) (by omega) (fun q => absurd q (by omega)) (fun _ => ?_)
  refine am_aload_n d_Nd_new_29 rfl (by first | exact am_rvR _ | exact am_rvN | assumption) ?_
  refine am_get d_Nd_new_30 f_Nd_20 fnd_8 (by rfl) ?_
  refine am_iload_n d_Nd_new_33 rfl ?_
  refine am_nw (10 * (100 + (4 * i + 1)) + 1) d_Nd_new_34 n_Nd_18 df_Pt ?_
  obtain ⟨T9, eT9⟩ : ∃ q, q = am_mk T8 (10 * (100 + (4 * i + 1)) + 1) (4) (.inr (am_cPt, [.null, .null, .int 0, .int 0])) := ⟨_, rfl⟩
  have zT9 : T9.2.1 = T8.2.1 + 1 ∧ T9.2.2 = T8.2.2 + (4) := by rw [eT9]; exact ⟨rfl, rfl⟩
  obtain ⟨y9, x9⟩ := zT9
  have old_9 : ∀ (b u : Nat) (x : am_K), S.1 b = some (u, x) → b ≠ a → T9.1 b = some (u, x) := fun b u x hb hne => by rw [eT9]; exact am_mk_old (old_8 b u x hb hne) oT8
  have fnd_9 : T9.1 a = some (9999, (.inr (am_cNd, [.int (nI i), .int r, .ref T2.2.1, .null, .null, .null, .null]))) := by rw [eT9]; exact am_mk_old fnd_8 oT8
  have fps_9 : T9.1 T2.2.1 = some (9998, (.inl (am_kP, [.ref T4.2.1, .null, .null, .null]))) := by rw [eT9]; exact am_mk_old fps_8 oT8
  have fp0_9 : T9.1 T4.2.1 = some ((10 * (100 + (4 * i + 0)) + 1), (.inr (am_cPt, [.ref T5.2.1, .null, .int (-1), .int 0]))) := by rw [eT9]; exact am_mk_old fp0_8 oT8
  have fw0_9 : T9.1 T5.2.1 = some ((10 * (200 + (4 * i + 0)) + 1), (.inr (am_cAL, [.int 0, .ref e, .int 0]))) := by rw [eT9]; exact am_mk_old fw0_8 oT8
  have fp1_9 : T9.1 T8.2.1 = some ((10 * (100 + (4 * i + 1)) + 1), (.inr (am_cPt, [.null, .null, .int 0, .int 0]))) := by rw [eT9]; exact am_mk_at _ _ _ _
  have oT9 : am_ok T9 := by rw [eT9]; exact (am_fr.mk (fun _ => False) _ _ _ oT8).2.2.2 oT8
  change am_W g _ _ _ _ _ _ _ (am_mk T8 (10 * (100 + (4 * i + 1)) + 1) (4) (.inr (am_cPt, [.null, .null, .int 0, .int 0])))
  rw [← eT9]
  refine am_dup d_Nd_new_37 rfl ?_
  refine am_cI (b := T8.2.1) d_Nd_new_38 i_Nd_24 (vs := []) (st := [.ref T8.2.1, .int _, .ref T2.2.1]) rfl rfl (by decide) (Nat.le_of_ble_eq_true rfl) (mk_Pt he (10 * (200 + (4 * i + 1)) + 1) (by omega) (by omega) oT9 fp1_9) ?_
  rintro v S2 ⟨rfl, rfl⟩
  obtain ⟨T10, eT10⟩ : ∃ q, q = am_mk T9 (10 * (200 + (4 * i + 1)) + 1) (3) (.inr (am_cAL, [.int 0, .ref e, .int 0])) := ⟨_, rfl⟩
  have zT10 : T10.2.1 = T9.2.1 + 1 ∧ T10.2.2 = T9.2.2 + (3) := by rw [eT10]; exact ⟨rfl, rfl⟩
  obtain ⟨y10, x10⟩ := zT10
  have old_10 : ∀ (b u : Nat) (x : am_K), S.1 b = some (u, x) → b ≠ a → T10.1 b = some (u, x) := fun b u x hb hne => by rw [eT10]; exact am_mk_old (old_9 b u x hb hne) oT9
  have fnd_10 : T10.1 a = some (9999, (.inr (am_cNd, [.int (nI i), .int r, .ref T2.2.1, .null, .null, .null, .null]))) := by rw [eT10]; exact am_mk_old fnd_9 oT9
  have fps_10 : T10.1 T2.2.1 = some (9998, (.inl (am_kP, [.ref T4.2.1, .null, .null, .null]))) := by rw [eT10]; exact am_mk_old fps_9 oT9
  have fp0_10 : T10.1 T4.2.1 = some ((10 * (100 + (4 * i + 0)) + 1), (.inr (am_cPt, [.ref T5.2.1, .null, .int (-1), .int 0]))) := by rw [eT10]; exact am_mk_old fp0_9 oT9
  have fw0_10 : T10.1 T5.2.1 = some ((10 * (200 + (4 * i + 0)) + 1), (.inr (am_cAL, [.int 0, .ref e, .int 0]))) := by rw [eT10]; exact am_mk_old fw0_9 oT9
  have fp1_10 : T10.1 T8.2.1 = some ((10 * (100 + (4 * i + 1)) + 1), (.inr (am_cPt, [.null, .null, .int 0, .int 0]))) := by rw [eT10]; exact am_mk_old fp1_9 oT9
  have fw1_10 : T10.1 T9.2.1 = some ((10 * (200 + (4 * i + 1)) + 1), (.inr (am_cAL, [.int 0, .ref e, .int 0]))) := by rw [eT10]; exact am_mk_at _ _ _ _
  have oT10 : am_ok T10 := by rw [eT10]; exact (am_fr.mk (fun _ => False) _ _ _ oT9).2.2.2 oT9
  rw [← eT10]
  obtain ⟨T11, eT11⟩ : ∃ q, q = am_up T10 T8.2.1 (10 * (100 + (4 * i + 1)) + 1) (.inr (am_cPt, [.ref T9.2.1, .null, .int (-1), .int 0])) := ⟨_, rfl⟩
  have zT11 : T11.2.1 = T10.2.1 ∧ T11.2.2 = T10.2.2 := by rw [eT11]; exact ⟨rfl, rfl⟩
  obtain ⟨y11, x11⟩ := zT11
  have old_11 : ∀ (b u : Nat) (x : am_K), S.1 b = some (u, x) → b ≠ a → T11.1 b = some (u, x) := fun b u x hb hne => by rw [eT11, am_up_ne _ _ _ (by have := o _ _ hb; omega)]; exact old_10 b u x hb hne
  have fnd_11 : T11.1 a = some (9999, (.inr (am_cNd, [.int (nI i), .int r, .ref T2.2.1, .null, .null, .null, .null]))) := by rw [eT11]; exact am_up_tag fnd_10 fp1_10 (by omega)
  have fps_11 : T11.1 T2.2.1 = some (9998, (.inl (am_kP, [.ref T4.2.1, .null, .null, .null]))) := by rw [eT11]; exact am_up_tag fps_10 fp1_10 (by omega)
  have fp0_11 : T11.1 T4.2.1 = some ((10 * (100 + (4 * i + 0)) + 1), (.inr (am_cPt, [.ref T5.2.1, .null, .int (-1), .int 0]))) := by rw [eT11]; exact am_up_tag fp0_10 fp1_10 (by omega)
  have fw0_11 : T11.1 T5.2.1 = some ((10 * (200 + (4 * i + 0)) + 1), (.inr (am_cAL, [.int 0, .ref e, .int 0]))) := by rw [eT11]; exact am_up_tag fw0_10 fp1_10 (by omega)
  have fw1_11 : T11.1 T9.2.1 = some ((10 * (200 + (4 * i + 1)) + 1), (.inr (am_cAL, [.int 0, .ref e, .int 0]))) := by rw [eT11]; exact am_up_tag fw1_10 fp1_10 (by omega)
  have fp1_11 : T11.1 T8.2.1 = some ((10 * (100 + (4 * i + 1)) + 1), (.inr (am_cPt, [.ref T9.2.1, .null, .int (-1), .int 0]))) := by rw [eT11]; exact am_up_at _ _ _ _
  have oT11 : am_ok T11 := by rw [eT11]; exact (am_fr.up (X := fun _ => True) fp1_10 trivial).2.2.2 oT10
  change am_W g _ _ _ _ _ _ _ (am_up T10 T8.2.1 (10 * (100 + (4 * i + 1)) + 1) (.inr (am_cPt, [.ref T9.2.1, .null, .int (-1), .int 0])))
  rw [← eT11]
  refine am_aast (j := 1) d_Nd_new_41 am_kP_ok fps_11 (by decide) fp1_11 (q := am_qPt) rfl (Or.inl rfl) rfl (by show 1 < 4; decide) (by show 4 < 2 ^ 31; decide) ?_
  obtain ⟨T12, eT12⟩ : ∃ q, q = am_up T11 T2.2.1 9998 (.inl (am_kP, [.ref T4.2.1, .ref T8.2.1, .null, .null])) := ⟨_, rfl⟩
  have zT12 : T12.2.1 = T11.2.1 ∧ T12.2.2 = T11.2.2 := by rw [eT12]; exact ⟨rfl, rfl⟩
  obtain ⟨y12, x12⟩ := zT12
  have old_12 : ∀ (b u : Nat) (x : am_K), S.1 b = some (u, x) → b ≠ a → T12.1 b = some (u, x) := fun b u x hb hne => by rw [eT12, am_up_ne _ _ _ (by have := o _ _ hb; omega)]; exact old_11 b u x hb hne
  have fnd_12 : T12.1 a = some (9999, (.inr (am_cNd, [.int (nI i), .int r, .ref T2.2.1, .null, .null, .null, .null]))) := by rw [eT12]; exact am_up_tag fnd_11 fps_11 (by omega)
  have fp0_12 : T12.1 T4.2.1 = some ((10 * (100 + (4 * i + 0)) + 1), (.inr (am_cPt, [.ref T5.2.1, .null, .int (-1), .int 0]))) := by rw [eT12]; exact am_up_tag fp0_11 fps_11 (by omega)
  have fw0_12 : T12.1 T5.2.1 = some ((10 * (200 + (4 * i + 0)) + 1), (.inr (am_cAL, [.int 0, .ref e, .int 0]))) := by rw [eT12]; exact am_up_tag fw0_11 fps_11 (by omega)
  have fp1_12 : T12.1 T8.2.1 = some ((10 * (100 + (4 * i + 1)) + 1), (.inr (am_cPt, [.ref T9.2.1, .null, .int (-1), .int 0]))) := by rw [eT12]; exact am_up_tag fp1_11 fps_11 (by omega)
  have fw1_12 : T12.1 T9.2.1 = some ((10 * (200 + (4 * i + 1)) + 1), (.inr (am_cAL, [.int 0, .ref e, .int 0]))) := by rw [eT12]; exact am_up_tag fw1_11 fps_11 (by omega)
  have fps_12 : T12.1 T2.2.1 = some (9998, (.inl (am_kP, [.ref T4.2.1, .ref T8.2.1, .null, .null]))) := by rw [eT12]; exact am_up_at _ _ _ _
  have oT12 : am_ok T12 := by rw [eT12]; exact (am_fr.up (X := fun _ => True) fps_11 trivial).2.2.2 oT11
  change am_W g _ _ _ _ _ _ _ (am_up T11 T2.2.1 9998 (.inl (am_kP, [.ref T4.2.1, .ref T8.2.1, .null, .null])))
  rw [← eT12]
  first | refine am_iincN (b := 1) (L1 := [_, _, _, _]) d_Nd_new_42 rfl (by decide) (by decide) rfl ?_ | refine am_iinc (L1 := [_, _, _, _]) d_Nd_new_42 rfl rfl (by decide) rfl ?_
  refine am_goto (tgt := 24) d_Nd_new_45 (by decide) ?_
  refine am_iload_n d_Nd_new_24 rfl ?_
  refine am_iconst (v := nI 4) d_Nd_new_25 (by decide) ?_
  refine am_icmp_geN (tgt := 48) d_Nd_new_26 (by decide) (by omega) (by omega) (fun q => absurd q (by omega)) (fun _ => ?_)
  refine am_aload_n d_Nd_new_29 rfl (by first | exact am_rvR _ | exact am_rvN | assumption) ?_
  refine am_get d_Nd_new_30 f_Nd_20 fnd_12 (by rfl) ?_
  refine am_iload_n d_Nd_new_33 rfl ?_
  refine am_nw (10 * (100 + (4 * i + 2)) + 1) d_Nd_new_34 n_Nd_18 df_Pt ?_
  obtain ⟨T13, eT13⟩ : ∃ q, q = am_mk T12 (10 * (100 + (4 * i + 2)) + 1) (4) (.inr (am_cPt, [.null, .null, .int 0, .int 0])) := ⟨_, rfl⟩
  have zT13 : T13.2.1 = T12.2.1 + 1 ∧ T13.2.2 = T12.2.2 + (4) := by rw [eT13]; exact ⟨rfl, rfl⟩
  obtain ⟨y13, x13⟩ := zT13
  have old_13 : ∀ (b u : Nat) (x : am_K), S.1 b = some (u, x) → b ≠ a → T13.1 b = some (u, x) := fun b u x hb hne => by rw [eT13]; exact am_mk_old (old_12 b u x hb hne) oT12
  have fnd_13 : T13.1 a = some (9999, (.inr (am_cNd, [.int (nI i), .int r, .ref T2.2.1, .null, .null, .null, .null]))) := by rw [eT13]; exact am_mk_old fnd_12 oT12
  have fps_13 : T13.1 T2.2.1 = some (9998, (.inl (am_kP, [.ref T4.2.1, .ref T8.2.1, .null, .null]))) := by rw [eT13]; exact am_mk_old fps_12 oT12
  have fp0_13 : T13.1 T4.2.1 = some ((10 * (100 + (4 * i + 0)) + 1), (.inr (am_cPt, [.ref T5.2.1, .null, .int (-1), .int 0]))) := by rw [eT13]; exact am_mk_old fp0_12 oT12
  have fw0_13 : T13.1 T5.2.1 = some ((10 * (200 + (4 * i + 0)) + 1), (.inr (am_cAL, [.int 0, .ref e, .int 0]))) := by rw [eT13]; exact am_mk_old fw0_12 oT12
  have fp1_13 : T13.1 T8.2.1 = some ((10 * (100 + (4 * i + 1)) + 1), (.inr (am_cPt, [.ref T9.2.1, .null, .int (-1), .int 0]))) := by rw [eT13]; exact am_mk_old fp1_12 oT12
  have fw1_13 : T13.1 T9.2.1 = some ((10 * (200 + (4 * i + 1)) + 1), (.inr (am_cAL, [.int 0, .ref e, .int 0]))) := by rw [eT13]; exact am_mk_old fw1_12 oT12
  have fp2_13 : T13.1 T12.2.1 = some ((10 * (100 + (4 * i + 2)) + 1), (.inr (am_cPt, [.null, .null, .int 0, .int 0]))) := by rw [eT13]; exact am_mk_at _ _ _ _
  have oT13 : am_ok T13 := by rw [eT13]; exact (am_fr.mk (fun _ => False) _ _ _ oT12).2.2.2 oT12
  change am_W g _ _ _ _ _ _ _ (am_mk T12 (10 * (100 + (4 * i + 2)) + 1) (4) (.inr (am_cPt, [.null, .null, .int 0, .int 0])))
  rw [← eT13]
  refine am_dup d_Nd_new_37 rfl ?_
  refine am_cI (b := T12.2.1) d_Nd_new_38 i_Nd_24 (vs := []) (st := [.ref T12.2.1, .int _, .ref T2.2.1]) rfl rfl (by decide) (Nat.le_of_ble_eq_true rfl) (mk_Pt he (10 * (200 + (4 * i + 2)) + 1) (by omega) (by omega) oT13 fp2_13) ?_
  rintro v S2 ⟨rfl, rfl⟩
  obtain ⟨T14, eT14⟩ : ∃ q, q = am_mk T13 (10 * (200 + (4 * i + 2)) + 1) (3) (.inr (am_cAL, [.int 0, .ref e, .int 0])) := ⟨_, rfl⟩
  have zT14 : T14.2.1 = T13.2.1 + 1 ∧ T14.2.2 = T13.2.2 + (3) := by rw [eT14]; exact ⟨rfl, rfl⟩
  obtain ⟨y14, x14⟩ := zT14
  have old_14 : ∀ (b u : Nat) (x : am_K), S.1 b = some (u, x) → b ≠ a → T14.1 b = some (u, x) := fun b u x hb hne => by rw [eT14]; exact am_mk_old (old_13 b u x hb hne) oT13
  have fnd_14 : T14.1 a = some (9999, (.inr (am_cNd, [.int (nI i), .int r, .ref T2.2.1, .null, .null, .null, .null]))) := by rw [eT14]; exact am_mk_old fnd_13 oT13
  have fps_14 : T14.1 T2.2.1 = some (9998, (.inl (am_kP, [.ref T4.2.1, .ref T8.2.1, .null, .null]))) := by rw [eT14]; exact am_mk_old fps_13 oT13
  have fp0_14 : T14.1 T4.2.1 = some ((10 * (100 + (4 * i + 0)) + 1), (.inr (am_cPt, [.ref T5.2.1, .null, .int (-1), .int 0]))) := by rw [eT14]; exact am_mk_old fp0_13 oT13
  have fw0_14 : T14.1 T5.2.1 = some ((10 * (200 + (4 * i + 0)) + 1), (.inr (am_cAL, [.int 0, .ref e, .int 0]))) := by rw [eT14]; exact am_mk_old fw0_13 oT13
  have fp1_14 : T14.1 T8.2.1 = some ((10 * (100 + (4 * i + 1)) + 1), (.inr (am_cPt, [.ref T9.2.1, .null, .int (-1), .int 0]))) := by rw [eT14]; exact am_mk_old fp1_13 oT13
  have fw1_14 : T14.1 T9.2.1 = some ((10 * (200 + (4 * i + 1)) + 1), (.inr (am_cAL, [.int 0, .ref e, .int 0]))) := by rw [eT14]; exact am_mk_old fw1_13 oT13
  have fp2_14 : T14.1 T12.2.1 = some ((10 * (100 + (4 * i + 2)) + 1), (.inr (am_cPt, [.null, .null, .int 0, .int 0]))) := by rw [eT14]; exact am_mk_old fp2_13 oT13
  have fw2_14 : T14.1 T13.2.1 = some ((10 * (200 + (4 * i + 2)) + 1), (.inr (am_cAL, [.int 0, .ref e, .int 0]))) := by rw [eT14]; exact am_mk_at _ _ _ _
  have oT14 : am_ok T14 := by rw [eT14]; exact (am_fr.mk (fun _ => False) _ _ _ oT13).2.2.2 oT13
  rw [← eT14]
  obtain ⟨T15, eT15⟩ : ∃ q, q = am_up T14 T12.2.1 (10 * (100 + (4 * i + 2)) + 1) (.inr (am_cPt, [.ref T13.2.1, .null, .int (-1), .int 0])) := ⟨_, rfl⟩
  have zT15 : T15.2.1 = T14.2.1 ∧ T15.2.2 = T14.2.2 := by rw [eT15]; exact ⟨rfl, rfl⟩
  obtain ⟨y15, x15⟩ := zT15
  have old_15 : ∀ (b u : Nat) (x : am_K), S.1 b = some (u, x) → b ≠ a → T15.1 b = some (u, x) := fun b u x hb hne => by rw [eT15, am_up_ne _ _ _ (by have := o _ _ hb; omega)]; exact old_14 b u x hb hne
  have fnd_15 : T15.1 a = some (9999, (.inr (am_cNd, [.int (nI i), .int r, .ref T2.2.1, .null, .null, .null, .null]))) := by rw [eT15]; exact am_up_tag fnd_14 fp2_14 (by omega)
  have fps_15 : T15.1 T2.2.1 = some (9998, (.inl (am_kP, [.ref T4.2.1, .ref T8.2.1, .null, .null]))) := by rw [eT15]; exact am_up_tag fps_14 fp2_14 (by omega)
  have fp0_15 : T15.1 T4.2.1 = some ((10 * (100 + (4 * i + 0)) + 1), (.inr (am_cPt, [.ref T5.2.1, .null, .int (-1), .int 0]))) := by rw [eT15]; exact am_up_tag fp0_14 fp2_14 (by omega)
  have fw0_15 : T15.1 T5.2.1 = some ((10 * (200 + (4 * i + 0)) + 1), (.inr (am_cAL, [.int 0, .ref e, .int 0]))) := by rw [eT15]; exact am_up_tag fw0_14 fp2_14 (by omega)
  have fp1_15 : T15.1 T8.2.1 = some ((10 * (100 + (4 * i + 1)) + 1), (.inr (am_cPt, [.ref T9.2.1, .null, .int (-1), .int 0]))) := by rw [eT15]; exact am_up_tag fp1_14 fp2_14 (by omega)
  have fw1_15 : T15.1 T9.2.1 = some ((10 * (200 + (4 * i + 1)) + 1), (.inr (am_cAL, [.int 0, .ref e, .int 0]))) := by rw [eT15]; exact am_up_tag fw1_14 fp2_14 (by omega)
  have fw2_15 : T15.1 T13.2.1 = some ((10 * (200 + (4 * i + 2)) + 1), (.inr (am_cAL, [.int 0, .ref e, .int 0]))) := by rw [eT15]; exact am_up_tag fw2_14 fp2_14 (by omega)
  have fp2_15 : T15.1 T12.2.1 = some ((10 * (100 + (4 * i + 2)) + 1), (.inr (am_cPt, [.ref T13.2.1, .null, .int (-1), .int 0]))) := by rw [eT15]; exact am_up_at _ _ _ _
  have oT15 : am_ok T15 := by rw [eT15]; exact (am_fr.up (X := fun _ => True) fp2_14 trivial).2.2.2 oT14
  change am_W g _ _ _ _ _ _ _ (am_up T14 T12.2.1 (10 * (100 + (4 * i + 2)) + 1) (.inr (am_cPt, [.ref T13.2.1, .null, .int (-1), .int 0])))
  rw [← eT15]
  refine am_aast (j := 2) d_Nd_new_41 am_kP_ok fps_15 (by decide) fp2_15 (q := am_qPt) rfl (Or.inl rfl) rfl (by show 2 < 4; decide) (by show 4 < 2 ^ 31; decide) ?_
  obtain ⟨T16, eT16⟩ : ∃ q, q = am_up T15 T2.2.1 9998 (.inl (am_kP, [.ref T4.2.1, .ref T8.2.1, .ref T12.2.1, .null])) := ⟨_, rfl⟩
  have zT16 : T16.2.1 = T15.2.1 ∧ T16.2.2 = T15.2.2 := by rw [eT16]; exact ⟨rfl, rfl⟩
  obtain ⟨y16, x16⟩ := zT16
  have old_16 : ∀ (b u : Nat) (x : am_K), S.1 b = some (u, x) → b ≠ a → T16.1 b = some (u, x) := fun b u x hb hne => by rw [eT16, am_up_ne _ _ _ (by have := o _ _ hb; omega)]; exact old_15 b u x hb hne
  have fnd_16 : T16.1 a = some (9999, (.inr (am_cNd, [.int (nI i), .int r, .ref T2.2.1, .null, .null, .null, .null]))) := by rw [eT16]; exact am_up_tag fnd_15 fps_15 (by omega)
  have fp0_16 : T16.1 T4.2.1 = some ((10 * (100 + (4 * i + 0)) + 1), (.inr (am_cPt, [.ref T5.2.1, .null, .int (-1), .int 0]))) := by rw [eT16]; exact am_up_tag fp0_15 fps_15 (by omega)
  have fw0_16 : T16.1 T5.2.1 = some ((10 * (200 + (4 * i + 0)) + 1), (.inr (am_cAL, [.int 0, .ref e, .int 0]))) := by rw [eT16]; exact am_up_tag fw0_15 fps_15 (by omega)
  have fp1_16 : T16.1 T8.2.1 = some ((10 * (100 + (4 * i + 1)) + 1), (.inr (am_cPt, [.ref T9.2.1, .null, .int (-1), .int 0]))) := by rw [eT16]; exact am_up_tag fp1_15 fps_15 (by omega)
  have fw1_16 : T16.1 T9.2.1 = some ((10 * (200 + (4 * i + 1)) + 1), (.inr (am_cAL, [.int 0, .ref e, .int 0]))) := by rw [eT16]; exact am_up_tag fw1_15 fps_15 (by omega)
  have fp2_16 : T16.1 T12.2.1 = some ((10 * (100 + (4 * i + 2)) + 1), (.inr (am_cPt, [.ref T13.2.1, .null, .int (-1), .int 0]))) := by rw [eT16]; exact am_up_tag fp2_15 fps_15 (by omega)
  have fw2_16 : T16.1 T13.2.1 = some ((10 * (200 + (4 * i + 2)) + 1), (.inr (am_cAL, [.int 0, .ref e, .int 0]))) := by rw [eT16]; exact am_up_tag fw2_15 fps_15 (by omega)
  have fps_16 : T16.1 T2.2.1 = some (9998, (.inl (am_kP, [.ref T4.2.1, .ref T8.2.1, .ref T12.2.1, .null]))) := by rw [eT16]; exact am_up_at _ _ _ _
  have oT16 : am_ok T16 := by rw [eT16]; exact (am_fr.up (X := fun _ => True) fps_15 trivial).2.2.2 oT15
  change am_W g _ _ _ _ _ _ _ (am_up T15 T2.2.1 9998 (.inl (am_kP, [.ref T4.2.1, .ref T8.2.1, .ref T12.2.1, .null])))
  rw [← eT16]
  first | refine am_iincN (b := 1) (L1 := [_, _, _, _]) d_Nd_new_42 rfl (by decide) (by decide) rfl ?_ | refine am_iinc (L1 := [_, _, _, _]) d_Nd_new_42 rfl rfl (by decide) rfl ?_
  refine am_goto (tgt := 24) d_Nd_new_45 (by decide) ?_
  refine am_iload_n d_Nd_new_24 rfl ?_
  refine am_iconst (v := nI 4) d_Nd_new_25 (by decide) ?_
  refine am_icmp_geN (tgt := 48) d_Nd_new_26 (by decide) (by omega) (by omega) (fun q => absurd q (by omega)) (fun _ => ?_)
  refine am_aload_n d_Nd_new_29 rfl (by first | exact am_rvR _ | exact am_rvN | assumption) ?_
  refine am_get d_Nd_new_30 f_Nd_20 fnd_16 (by rfl) ?_
  refine am_iload_n d_Nd_new_33 rfl ?_
  refine am_nw (10 * (100 + (4 * i + 3)) + 1) d_Nd_new_34 n_Nd_18 df_Pt ?_
  obtain ⟨T17, eT17⟩ : ∃ q, q = am_mk T16 (10 * (100 + (4 * i + 3)) + 1) (4) (.inr (am_cPt, [.null, .null, .int 0, .int 0])) := ⟨_, rfl⟩
  have zT17 : T17.2.1 = T16.2.1 + 1 ∧ T17.2.2 = T16.2.2 + (4) := by rw [eT17]; exact ⟨rfl, rfl⟩
  obtain ⟨y17, x17⟩ := zT17
  have old_17 : ∀ (b u : Nat) (x : am_K), S.1 b = some (u, x) → b ≠ a → T17.1 b = some (u, x) := fun b u x hb hne => by rw [eT17]; exact am_mk_old (old_16 b u x hb hne) oT16
  have fnd_17 : T17.1 a = some (9999, (.inr (am_cNd, [.int (nI i), .int r, .ref T2.2.1, .null, .null, .null, .null]))) := by rw [eT17]; exact am_mk_old fnd_16 oT16
  have fps_17 : T17.1 T2.2.1 = some (9998, (.inl (am_kP, [.ref T4.2.1, .ref T8.2.1, .ref T12.2.1, .null]))) := by rw [eT17]; exact am_mk_old fps_16 oT16
  have fp0_17 : T17.1 T4.2.1 = some ((10 * (100 + (4 * i + 0)) + 1), (.inr (am_cPt, [.ref T5.2.1, .null, .int (-1), .int 0]))) := by rw [eT17]; exact am_mk_old fp0_16 oT16
  have fw0_17 : T17.1 T5.2.1 = some ((10 * (200 + (4 * i + 0)) + 1), (.inr (am_cAL, [.int 0, .ref e, .int 0]))) := by rw [eT17]; exact am_mk_old fw0_16 oT16
  have fp1_17 : T17.1 T8.2.1 = some ((10 * (100 + (4 * i + 1)) + 1), (.inr (am_cPt, [.ref T9.2.1, .null, .int (-1), .int 0]))) := by rw [eT17]; exact am_mk_old fp1_16 oT16
  have fw1_17 : T17.1 T9.2.1 = some ((10 * (200 + (4 * i + 1)) + 1), (.inr (am_cAL, [.int 0, .ref e, .int 0]))) := by rw [eT17]; exact am_mk_old fw1_16 oT16
  have fp2_17 : T17.1 T12.2.1 = some ((10 * (100 + (4 * i + 2)) + 1), (.inr (am_cPt, [.ref T13.2.1, .null, .int (-1), .int 0]))) := by rw [eT17]; exact am_mk_old fp2_16 oT16
  have fw2_17 : T17.1 T13.2.1 = some ((10 * (200 + (4 * i + 2)) + 1), (.inr (am_cAL, [.int 0, .ref e, .int 0]))) := by rw [eT17]; exact am_mk_old fw2_16 oT16
  have fp3_17 : T17.1 T16.2.1 = some ((10 * (100 + (4 * i + 3)) + 1), (.inr (am_cPt, [.null, .null, .int 0, .int 0]))) := by rw [eT17]; exact am_mk_at _ _ _ _
  have oT17 : am_ok T17 := by rw [eT17]; exact (am_fr.mk (fun _ => False) _ _ _ oT16).2.2.2 oT16
  change am_W g _ _ _ _ _ _ _ (am_mk T16 (10 * (100 + (4 * i + 3)) + 1) (4) (.inr (am_cPt, [.null, .null, .int 0, .int 0])))
  rw [← eT17]
  refine am_dup d_Nd_new_37 rfl ?_
  refine am_cI (b := T16.2.1) d_Nd_new_38 i_Nd_24 (vs := []) (st := [.ref T16.2.1, .int _, .ref T2.2.1]) rfl rfl (by decide) (Nat.le_of_ble_eq_true rfl) (mk_Pt he (10 * (200 + (4 * i + 3)) + 1) (by omega) (by omega) oT17 fp3_17) ?_
  rintro v S2 ⟨rfl, rfl⟩
  obtain ⟨T18, eT18⟩ : ∃ q, q = am_mk T17 (10 * (200 + (4 * i + 3)) + 1) (3) (.inr (am_cAL, [.int 0, .ref e, .int 0])) := ⟨_, rfl⟩
  have zT18 : T18.2.1 = T17.2.1 + 1 ∧ T18.2.2 = T17.2.2 + (3) := by rw [eT18]; exact ⟨rfl, rfl⟩
  obtain ⟨y18, x18⟩ := zT18
  have old_18 : ∀ (b u : Nat) (x : am_K), S.1 b = some (u, x) → b ≠ a → T18.1 b = some (u, x) := fun b u x hb hne => by rw [eT18]; exact am_mk_old (old_17 b u x hb hne) oT17
  have fnd_18 : T18.1 a = some (9999, (.inr (am_cNd, [.int (nI i), .int r, .ref T2.2.1, .null, .null, .null, .null]))) := by rw [eT18]; exact am_mk_old fnd_17 oT17
  have fps_18 : T18.1 T2.2.1 = some (9998, (.inl (am_kP, [.ref T4.2.1, .ref T8.2.1, .ref T12.2.1, .null]))) := by rw [eT18]; exact am_mk_old fps_17 oT17
  have fp0_18 : T18.1 T4.2.1 = some ((10 * (100 + (4 * i + 0)) + 1), (.inr (am_cPt, [.ref T5.2.1, .null, .int (-1), .int 0]))) := by rw [eT18]; exact am_mk_old fp0_17 oT17
  have fw0_18 : T18.1 T5.2.1 = some ((10 * (200 + (4 * i + 0)) + 1), (.inr (am_cAL, [.int 0, .ref e, .int 0]))) := by rw [eT18]; exact am_mk_old fw0_17 oT17
  have fp1_18 : T18.1 T8.2.1 = some ((10 * (100 + (4 * i + 1)) + 1), (.inr (am_cPt, [.ref T9.2.1, .null, .int (-1), .int 0]))) := by rw [eT18]; exact am_mk_old fp1_17 oT17
  have fw1_18 : T18.1 T9.2.1 = some ((10 * (200 + (4 * i + 1)) + 1), (.inr (am_cAL, [.int 0, .ref e, .int 0]))) := by rw [eT18]; exact am_mk_old fw1_17 oT17
  have fp2_18 : T18.1 T12.2.1 = some ((10 * (100 + (4 * i + 2)) + 1), (.inr (am_cPt, [.ref T13.2.1, .null, .int (-1), .int 0]))) := by rw [eT18]; exact am_mk_old fp2_17 oT17
  have fw2_18 : T18.1 T13.2.1 = some ((10 * (200 + (4 * i + 2)) + 1), (.inr (am_cAL, [.int 0, .ref e, .int 0]))) := by rw [eT18]; exact am_mk_old fw2_17 oT17
  have fp3_18 : T18.1 T16.2.1 = some ((10 * (100 + (4 * i + 3)) + 1), (.inr (am_cPt, [.null, .null, .int 0, .int 0]))) := by rw [eT18]; exact am_mk_old fp3_17 oT17
  have fw3_18 : T18.1 T17.2.1 = some ((10 * (200 + (4 * i + 3)) + 1), (.inr (am_cAL, [.int 0, .ref e, .int 0]))) := by rw [eT18]; exact am_mk_at _ _ _ _
  have oT18 : am_ok T18 := by rw [eT18]; exact (am_fr.mk (fun _ => False) _ _ _ oT17).2.2.2 oT17
  rw [← eT18]
  obtain ⟨T19, eT19⟩ : ∃ q, q = am_up T18 T16.2.1 (10 * (100 + (4 * i + 3)) + 1) (.inr (am_cPt, [.ref T17.2.1, .null, .int (-1), .int 0])) := ⟨_, rfl⟩
  have zT19 : T19.2.1 = T18.2.1 ∧ T19.2.2 = T18.2.2 := by rw [eT19]; exact ⟨rfl, rfl⟩
  obtain ⟨y19, x19⟩ := zT19
  have old_19 : ∀ (b u : Nat) (x : am_K), S.1 b = some (u, x) → b ≠ a → T19.1 b = some (u, x) := fun b u x hb hne => by rw [eT19, am_up_ne _ _ _ (by have := o _ _ hb; omega)]; exact old_18 b u x hb hne
  have fnd_19 : T19.1 a = some (9999, (.inr (am_cNd, [.int (nI i), .int r, .ref T2.2.1, .null, .null, .null, .null]))) := by rw [eT19]; exact am_up_tag fnd_18 fp3_18 (by omega)
  have fps_19 : T19.1 T2.2.1 = some (9998, (.inl (am_kP, [.ref T4.2.1, .ref T8.2.1, .ref T12.2.1, .null]))) := by rw [eT19]; exact am_up_tag fps_18 fp3_18 (by omega)
  have fp0_19 : T19.1 T4.2.1 = some ((10 * (100 + (4 * i + 0)) + 1), (.inr (am_cPt, [.ref T5.2.1, .null, .int (-1), .int 0]))) := by rw [eT19]; exact am_up_tag fp0_18 fp3_18 (by omega)
  have fw0_19 : T19.1 T5.2.1 = some ((10 * (200 + (4 * i + 0)) + 1), (.inr (am_cAL, [.int 0, .ref e, .int 0]))) := by rw [eT19]; exact am_up_tag fw0_18 fp3_18 (by omega)
  have fp1_19 : T19.1 T8.2.1 = some ((10 * (100 + (4 * i + 1)) + 1), (.inr (am_cPt, [.ref T9.2.1, .null, .int (-1), .int 0]))) := by rw [eT19]; exact am_up_tag fp1_18 fp3_18 (by omega)
  have fw1_19 : T19.1 T9.2.1 = some ((10 * (200 + (4 * i + 1)) + 1), (.inr (am_cAL, [.int 0, .ref e, .int 0]))) := by rw [eT19]; exact am_up_tag fw1_18 fp3_18 (by omega)
  have fp2_19 : T19.1 T12.2.1 = some ((10 * (100 + (4 * i + 2)) + 1), (.inr (am_cPt, [.ref T13.2.1, .null, .int (-1), .int 0]))) := by rw [eT19]; exact am_up_tag fp2_18 fp3_18 (by omega)
  have fw2_19 : T19.1 T13.2.1 = some ((10 * (200 + (4 * i + 2)) + 1), (.inr (am_cAL, [.int 0, .ref e, .int 0]))) := by rw [eT19]; exact am_up_tag fw2_18 fp3_18 (by omega)
  have fw3_19 : T19.1 T17.2.1 = some ((10 * (200 + (4 * i + 3)) + 1), (.inr (am_cAL, [.int 0, .ref e, .int 0]))) := by rw [eT19]; exact am_up_tag fw3_18 fp3_18 (by omega)
  have fp3_19 : T19.1 T16.2.1 = some ((10 * (100 + (4 * i + 3)) + 1), (.inr (am_cPt, [.ref T17.2.1, .null, .int (-1), .int 0]))) := by rw [eT19]; exact am_up_at _ _ _ _
  have oT19 : am_ok T19 := by rw [eT19]; exact (am_fr.up (X := fun _ => True) fp3_18 trivial).2.2.2 oT18
  change am_W g _ _ _ _ _ _ _ (am_up T18 T16.2.1 (10 * (100 + (4 * i + 3)) + 1) (.inr (am_cPt, [.ref T17.2.1, .null, .int (-1), .int 0])))
  rw [← eT19]
  refine am_aast (j := 3) d_Nd_new_41 am_kP_ok fps_19 (by decide) fp3_19 (q := am_qPt) rfl (Or.inl rfl) rfl (by show 3 < 4; decide) (by show 4 < 2 ^ 31; decide) ?_
  obtain ⟨T20, eT20⟩ : ∃ q, q = am_up T19 T2.2.1 9998 (.inl (am_kP, [.ref T4.2.1, .ref T8.2.1, .ref T12.2.1, .ref T16.2.1])) := ⟨_, rfl⟩
  have zT20 : T20.2.1 = T19.2.1 ∧ T20.2.2 = T19.2.2 := by rw [eT20]; exact ⟨rfl, rfl⟩
  obtain ⟨y20, x20⟩ := zT20
  have old_20 : ∀ (b u : Nat) (x : am_K), S.1 b = some (u, x) → b ≠ a → T20.1 b = some (u, x) := fun b u x hb hne => by rw [eT20, am_up_ne _ _ _ (by have := o _ _ hb; omega)]; exact old_19 b u x hb hne
  have fnd_20 : T20.1 a = some (9999, (.inr (am_cNd, [.int (nI i), .int r, .ref T2.2.1, .null, .null, .null, .null]))) := by rw [eT20]; exact am_up_tag fnd_19 fps_19 (by omega)
  have fp0_20 : T20.1 T4.2.1 = some ((10 * (100 + (4 * i + 0)) + 1), (.inr (am_cPt, [.ref T5.2.1, .null, .int (-1), .int 0]))) := by rw [eT20]; exact am_up_tag fp0_19 fps_19 (by omega)
  have fw0_20 : T20.1 T5.2.1 = some ((10 * (200 + (4 * i + 0)) + 1), (.inr (am_cAL, [.int 0, .ref e, .int 0]))) := by rw [eT20]; exact am_up_tag fw0_19 fps_19 (by omega)
  have fp1_20 : T20.1 T8.2.1 = some ((10 * (100 + (4 * i + 1)) + 1), (.inr (am_cPt, [.ref T9.2.1, .null, .int (-1), .int 0]))) := by rw [eT20]; exact am_up_tag fp1_19 fps_19 (by omega)
  have fw1_20 : T20.1 T9.2.1 = some ((10 * (200 + (4 * i + 1)) + 1), (.inr (am_cAL, [.int 0, .ref e, .int 0]))) := by rw [eT20]; exact am_up_tag fw1_19 fps_19 (by omega)
  have fp2_20 : T20.1 T12.2.1 = some ((10 * (100 + (4 * i + 2)) + 1), (.inr (am_cPt, [.ref T13.2.1, .null, .int (-1), .int 0]))) := by rw [eT20]; exact am_up_tag fp2_19 fps_19 (by omega)
  have fw2_20 : T20.1 T13.2.1 = some ((10 * (200 + (4 * i + 2)) + 1), (.inr (am_cAL, [.int 0, .ref e, .int 0]))) := by rw [eT20]; exact am_up_tag fw2_19 fps_19 (by omega)
  have fp3_20 : T20.1 T16.2.1 = some ((10 * (100 + (4 * i + 3)) + 1), (.inr (am_cPt, [.ref T17.2.1, .null, .int (-1), .int 0]))) := by rw [eT20]; exact am_up_tag fp3_19 fps_19 (by omega)
  have fw3_20 : T20.1 T17.2.1 = some ((10 * (200 + (4 * i + 3)) + 1), (.inr (am_cAL, [.int 0, .ref e, .int 0]))) := by rw [eT20]; exact am_up_tag fw3_19 fps_19 (by omega)
  have fps_20 : T20.1 T2.2.1 = some (9998, (.inl (am_kP, [.ref T4.2.1, .ref T8.2.1, .ref T12.2.1, .ref T16.2.1]))) := by rw [eT20]; exact am_up_at _ _ _ _
  have oT20 : am_ok T20 := by rw [eT20]; exact (am_fr.up (X := fun _ => True) fps_19 trivial).2.2.2 oT19
  change am_W g _ _ _ _ _ _ _ (am_up T19 T2.2.1 9998 (.inl (am_kP, [.ref T4.2.1, .ref T8.2.1, .ref T12.2.1, .ref T16.2.1])))
  rw [← eT20]
  first | refine am_iincN (b := 1) (L1 := [_, _, _, _]) d_Nd_new_42 rfl (by decide) (by decide) rfl ?_ | refine am_iinc (L1 := [_, _, _, _]) d_Nd_new_42 rfl rfl (by decide) rfl ?_
  refine am_goto (tgt := 24) d_Nd_new_45 (by decide) ?_
  refine am_iload_n d_Nd_new_24 rfl ?_
  refine am_iconst (v := nI 4) d_Nd_new_25 (by decide) ?_
  refine am_icmp_geN (tgt := 48) d_Nd_new_26 (by decide) (by omega) (by omega) (fun _ => ?_) (fun q => absurd q (by omega))
  refine am_aload_n d_Nd_new_48 rfl (by first | exact am_rvR _ | exact am_rvN | assumption) ?_
  refine am_nw (10 * (10 + i) + 1) d_Nd_new_49 n_Nd_25 df_AL ?_
  obtain ⟨T21, eT21⟩ : ∃ q, q = am_mk T20 (10 * (10 + i) + 1) (3) (.inr (am_cAL, [.int 0, .null, .int 0])) := ⟨_, rfl⟩
  have zT21 : T21.2.1 = T20.2.1 + 1 ∧ T21.2.2 = T20.2.2 + (3) := by rw [eT21]; exact ⟨rfl, rfl⟩
  obtain ⟨y21, x21⟩ := zT21
  have old_21 : ∀ (b u : Nat) (x : am_K), S.1 b = some (u, x) → b ≠ a → T21.1 b = some (u, x) := fun b u x hb hne => by rw [eT21]; exact am_mk_old (old_20 b u x hb hne) oT20
  have fnd_21 : T21.1 a = some (9999, (.inr (am_cNd, [.int (nI i), .int r, .ref T2.2.1, .null, .null, .null, .null]))) := by rw [eT21]; exact am_mk_old fnd_20 oT20
  have fps_21 : T21.1 T2.2.1 = some (9998, (.inl (am_kP, [.ref T4.2.1, .ref T8.2.1, .ref T12.2.1, .ref T16.2.1]))) := by rw [eT21]; exact am_mk_old fps_20 oT20
  have fp0_21 : T21.1 T4.2.1 = some ((10 * (100 + (4 * i + 0)) + 1), (.inr (am_cPt, [.ref T5.2.1, .null, .int (-1), .int 0]))) := by rw [eT21]; exact am_mk_old fp0_20 oT20
  have fw0_21 : T21.1 T5.2.1 = some ((10 * (200 + (4 * i + 0)) + 1), (.inr (am_cAL, [.int 0, .ref e, .int 0]))) := by rw [eT21]; exact am_mk_old fw0_20 oT20
  have fp1_21 : T21.1 T8.2.1 = some ((10 * (100 + (4 * i + 1)) + 1), (.inr (am_cPt, [.ref T9.2.1, .null, .int (-1), .int 0]))) := by rw [eT21]; exact am_mk_old fp1_20 oT20
  have fw1_21 : T21.1 T9.2.1 = some ((10 * (200 + (4 * i + 1)) + 1), (.inr (am_cAL, [.int 0, .ref e, .int 0]))) := by rw [eT21]; exact am_mk_old fw1_20 oT20
  have fp2_21 : T21.1 T12.2.1 = some ((10 * (100 + (4 * i + 2)) + 1), (.inr (am_cPt, [.ref T13.2.1, .null, .int (-1), .int 0]))) := by rw [eT21]; exact am_mk_old fp2_20 oT20
  have fw2_21 : T21.1 T13.2.1 = some ((10 * (200 + (4 * i + 2)) + 1), (.inr (am_cAL, [.int 0, .ref e, .int 0]))) := by rw [eT21]; exact am_mk_old fw2_20 oT20
  have fp3_21 : T21.1 T16.2.1 = some ((10 * (100 + (4 * i + 3)) + 1), (.inr (am_cPt, [.ref T17.2.1, .null, .int (-1), .int 0]))) := by rw [eT21]; exact am_mk_old fp3_20 oT20
  have fw3_21 : T21.1 T17.2.1 = some ((10 * (200 + (4 * i + 3)) + 1), (.inr (am_cAL, [.int 0, .ref e, .int 0]))) := by rw [eT21]; exact am_mk_old fw3_20 oT20
  have fgu_21 : T21.1 T20.2.1 = some ((10 * (10 + i) + 1), (.inr (am_cAL, [.int 0, .null, .int 0]))) := by rw [eT21]; exact am_mk_at _ _ _ _
  have oT21 : am_ok T21 := by rw [eT21]; exact (am_fr.mk (fun _ => False) _ _ _ oT20).2.2.2 oT20
  change am_W g _ _ _ _ _ _ _ (am_mk T20 (10 * (10 + i) + 1) (3) (.inr (am_cAL, [.int 0, .null, .int 0])))
  rw [← eT21]
  refine am_dup d_Nd_new_52 rfl ?_
  refine am_cI (b := T20.2.1) d_Nd_new_53 i_Nd_27 (vs := []) (st := [.ref T20.2.1, .ref a]) rfl rfl (by decide) (Nat.le_of_ble_eq_true rfl) (al_new fgu_21 (by omega) he) ?_
  rintro v S2 ⟨rfl, rfl⟩
  obtain ⟨T22, eT22⟩ : ∃ q, q = am_up T21 T20.2.1 (10 * (10 + i) + 1) (.inr (am_cAL, [.int 0, .ref e, .int 0])) := ⟨_, rfl⟩
  have zT22 : T22.2.1 = T21.2.1 ∧ T22.2.2 = T21.2.2 := by rw [eT22]; exact ⟨rfl, rfl⟩
  obtain ⟨y22, x22⟩ := zT22
  have old_22 : ∀ (b u : Nat) (x : am_K), S.1 b = some (u, x) → b ≠ a → T22.1 b = some (u, x) := fun b u x hb hne => by rw [eT22, am_up_ne _ _ _ (by have := o _ _ hb; omega)]; exact old_21 b u x hb hne
  have fnd_22 : T22.1 a = some (9999, (.inr (am_cNd, [.int (nI i), .int r, .ref T2.2.1, .null, .null, .null, .null]))) := by rw [eT22]; exact am_up_tag fnd_21 fgu_21 (by omega)
  have fps_22 : T22.1 T2.2.1 = some (9998, (.inl (am_kP, [.ref T4.2.1, .ref T8.2.1, .ref T12.2.1, .ref T16.2.1]))) := by rw [eT22]; exact am_up_tag fps_21 fgu_21 (by omega)
  have fp0_22 : T22.1 T4.2.1 = some ((10 * (100 + (4 * i + 0)) + 1), (.inr (am_cPt, [.ref T5.2.1, .null, .int (-1), .int 0]))) := by rw [eT22]; exact am_up_tag fp0_21 fgu_21 (by omega)
  have fw0_22 : T22.1 T5.2.1 = some ((10 * (200 + (4 * i + 0)) + 1), (.inr (am_cAL, [.int 0, .ref e, .int 0]))) := by rw [eT22]; exact am_up_tag fw0_21 fgu_21 (by omega)
  have fp1_22 : T22.1 T8.2.1 = some ((10 * (100 + (4 * i + 1)) + 1), (.inr (am_cPt, [.ref T9.2.1, .null, .int (-1), .int 0]))) := by rw [eT22]; exact am_up_tag fp1_21 fgu_21 (by omega)
  have fw1_22 : T22.1 T9.2.1 = some ((10 * (200 + (4 * i + 1)) + 1), (.inr (am_cAL, [.int 0, .ref e, .int 0]))) := by rw [eT22]; exact am_up_tag fw1_21 fgu_21 (by omega)
  have fp2_22 : T22.1 T12.2.1 = some ((10 * (100 + (4 * i + 2)) + 1), (.inr (am_cPt, [.ref T13.2.1, .null, .int (-1), .int 0]))) := by rw [eT22]; exact am_up_tag fp2_21 fgu_21 (by omega)
  have fw2_22 : T22.1 T13.2.1 = some ((10 * (200 + (4 * i + 2)) + 1), (.inr (am_cAL, [.int 0, .ref e, .int 0]))) := by rw [eT22]; exact am_up_tag fw2_21 fgu_21 (by omega)
  have fp3_22 : T22.1 T16.2.1 = some ((10 * (100 + (4 * i + 3)) + 1), (.inr (am_cPt, [.ref T17.2.1, .null, .int (-1), .int 0]))) := by rw [eT22]; exact am_up_tag fp3_21 fgu_21 (by omega)
  have fw3_22 : T22.1 T17.2.1 = some ((10 * (200 + (4 * i + 3)) + 1), (.inr (am_cAL, [.int 0, .ref e, .int 0]))) := by rw [eT22]; exact am_up_tag fw3_21 fgu_21 (by omega)
  have fgu_22 : T22.1 T20.2.1 = some ((10 * (10 + i) + 1), (.inr (am_cAL, [.int 0, .ref e, .int 0]))) := by rw [eT22]; exact am_up_at _ _ _ _
  have oT22 : am_ok T22 := by rw [eT22]; exact (am_fr.up (X := fun _ => True) fgu_21 trivial).2.2.2 oT21
  change am_W g _ _ _ _ _ _ _ (am_up T21 T20.2.1 (10 * (10 + i) + 1) (.inr (am_cAL, [.int 0, .ref e, .int 0])))
  rw [← eT22]
  refine am_put _ d_Nd_new_56 f_Nd_28 p_Nd_28 fnd_22 (by decide) rfl rfl ?_
  obtain ⟨T23, eT23⟩ : ∃ q, q = am_up T22 a 9999 (.inr (am_cNd, [.int (nI i), .int r, .ref T2.2.1, .ref T20.2.1, .null, .null, .null])) := ⟨_, rfl⟩
  have zT23 : T23.2.1 = T22.2.1 ∧ T23.2.2 = T22.2.2 := by rw [eT23]; exact ⟨rfl, rfl⟩
  obtain ⟨y23, x23⟩ := zT23
  have old_23 : ∀ (b u : Nat) (x : am_K), S.1 b = some (u, x) → b ≠ a → T23.1 b = some (u, x) := fun b u x hb hne => by rw [eT23, am_up_ne _ _ _ hne]; exact old_22 b u x hb hne
  have fps_23 : T23.1 T2.2.1 = some (9998, (.inl (am_kP, [.ref T4.2.1, .ref T8.2.1, .ref T12.2.1, .ref T16.2.1]))) := by rw [eT23]; exact am_up_tag fps_22 fnd_22 (by omega)
  have fp0_23 : T23.1 T4.2.1 = some ((10 * (100 + (4 * i + 0)) + 1), (.inr (am_cPt, [.ref T5.2.1, .null, .int (-1), .int 0]))) := by rw [eT23]; exact am_up_tag fp0_22 fnd_22 (by omega)
  have fw0_23 : T23.1 T5.2.1 = some ((10 * (200 + (4 * i + 0)) + 1), (.inr (am_cAL, [.int 0, .ref e, .int 0]))) := by rw [eT23]; exact am_up_tag fw0_22 fnd_22 (by omega)
  have fp1_23 : T23.1 T8.2.1 = some ((10 * (100 + (4 * i + 1)) + 1), (.inr (am_cPt, [.ref T9.2.1, .null, .int (-1), .int 0]))) := by rw [eT23]; exact am_up_tag fp1_22 fnd_22 (by omega)
  have fw1_23 : T23.1 T9.2.1 = some ((10 * (200 + (4 * i + 1)) + 1), (.inr (am_cAL, [.int 0, .ref e, .int 0]))) := by rw [eT23]; exact am_up_tag fw1_22 fnd_22 (by omega)
  have fp2_23 : T23.1 T12.2.1 = some ((10 * (100 + (4 * i + 2)) + 1), (.inr (am_cPt, [.ref T13.2.1, .null, .int (-1), .int 0]))) := by rw [eT23]; exact am_up_tag fp2_22 fnd_22 (by omega)
  have fw2_23 : T23.1 T13.2.1 = some ((10 * (200 + (4 * i + 2)) + 1), (.inr (am_cAL, [.int 0, .ref e, .int 0]))) := by rw [eT23]; exact am_up_tag fw2_22 fnd_22 (by omega)
  have fp3_23 : T23.1 T16.2.1 = some ((10 * (100 + (4 * i + 3)) + 1), (.inr (am_cPt, [.ref T17.2.1, .null, .int (-1), .int 0]))) := by rw [eT23]; exact am_up_tag fp3_22 fnd_22 (by omega)
  have fw3_23 : T23.1 T17.2.1 = some ((10 * (200 + (4 * i + 3)) + 1), (.inr (am_cAL, [.int 0, .ref e, .int 0]))) := by rw [eT23]; exact am_up_tag fw3_22 fnd_22 (by omega)
  have fgu_23 : T23.1 T20.2.1 = some ((10 * (10 + i) + 1), (.inr (am_cAL, [.int 0, .ref e, .int 0]))) := by rw [eT23]; exact am_up_tag fgu_22 fnd_22 (by omega)
  have fnd_23 : T23.1 a = some (9999, (.inr (am_cNd, [.int (nI i), .int r, .ref T2.2.1, .ref T20.2.1, .null, .null, .null]))) := by rw [eT23]; exact am_up_at _ _ _ _
  have oT23 : am_ok T23 := by rw [eT23]; exact (am_fr.up (X := fun _ => True) fnd_22 trivial).2.2.2 oT22
  change am_W g _ _ _ _ _ _ _ (am_up T22 a 9999 (.inr (am_cNd, [.int (nI i), .int r, .ref T2.2.1, .ref T20.2.1, .null, .null, .null])))
  rw [← eT23]
  refine am_aload_n d_Nd_new_59 rfl (by first | exact am_rvR _ | exact am_rvN | assumption) ?_
  refine am_nw (10 * (20 + i) + 1) d_Nd_new_60 n_Nd_25 df_AL ?_
  obtain ⟨T24, eT24⟩ : ∃ q, q = am_mk T23 (10 * (20 + i) + 1) (3) (.inr (am_cAL, [.int 0, .null, .int 0])) := ⟨_, rfl⟩
  have zT24 : T24.2.1 = T23.2.1 + 1 ∧ T24.2.2 = T23.2.2 + (3) := by rw [eT24]; exact ⟨rfl, rfl⟩
  obtain ⟨y24, x24⟩ := zT24
  have old_24 : ∀ (b u : Nat) (x : am_K), S.1 b = some (u, x) → b ≠ a → T24.1 b = some (u, x) := fun b u x hb hne => by rw [eT24]; exact am_mk_old (old_23 b u x hb hne) oT23
  have fnd_24 : T24.1 a = some (9999, (.inr (am_cNd, [.int (nI i), .int r, .ref T2.2.1, .ref T20.2.1, .null, .null, .null]))) := by rw [eT24]; exact am_mk_old fnd_23 oT23
  have fps_24 : T24.1 T2.2.1 = some (9998, (.inl (am_kP, [.ref T4.2.1, .ref T8.2.1, .ref T12.2.1, .ref T16.2.1]))) := by rw [eT24]; exact am_mk_old fps_23 oT23
  have fp0_24 : T24.1 T4.2.1 = some ((10 * (100 + (4 * i + 0)) + 1), (.inr (am_cPt, [.ref T5.2.1, .null, .int (-1), .int 0]))) := by rw [eT24]; exact am_mk_old fp0_23 oT23
  have fw0_24 : T24.1 T5.2.1 = some ((10 * (200 + (4 * i + 0)) + 1), (.inr (am_cAL, [.int 0, .ref e, .int 0]))) := by rw [eT24]; exact am_mk_old fw0_23 oT23
  have fp1_24 : T24.1 T8.2.1 = some ((10 * (100 + (4 * i + 1)) + 1), (.inr (am_cPt, [.ref T9.2.1, .null, .int (-1), .int 0]))) := by rw [eT24]; exact am_mk_old fp1_23 oT23
  have fw1_24 : T24.1 T9.2.1 = some ((10 * (200 + (4 * i + 1)) + 1), (.inr (am_cAL, [.int 0, .ref e, .int 0]))) := by rw [eT24]; exact am_mk_old fw1_23 oT23
  have fp2_24 : T24.1 T12.2.1 = some ((10 * (100 + (4 * i + 2)) + 1), (.inr (am_cPt, [.ref T13.2.1, .null, .int (-1), .int 0]))) := by rw [eT24]; exact am_mk_old fp2_23 oT23
  have fw2_24 : T24.1 T13.2.1 = some ((10 * (200 + (4 * i + 2)) + 1), (.inr (am_cAL, [.int 0, .ref e, .int 0]))) := by rw [eT24]; exact am_mk_old fw2_23 oT23
  have fp3_24 : T24.1 T16.2.1 = some ((10 * (100 + (4 * i + 3)) + 1), (.inr (am_cPt, [.ref T17.2.1, .null, .int (-1), .int 0]))) := by rw [eT24]; exact am_mk_old fp3_23 oT23
  have fw3_24 : T24.1 T17.2.1 = some ((10 * (200 + (4 * i + 3)) + 1), (.inr (am_cAL, [.int 0, .ref e, .int 0]))) := by rw [eT24]; exact am_mk_old fw3_23 oT23
  have fgu_24 : T24.1 T20.2.1 = some ((10 * (10 + i) + 1), (.inr (am_cAL, [.int 0, .ref e, .int 0]))) := by rw [eT24]; exact am_mk_old fgu_23 oT23
  have fru_24 : T24.1 T23.2.1 = some ((10 * (20 + i) + 1), (.inr (am_cAL, [.int 0, .null, .int 0]))) := by rw [eT24]; exact am_mk_at _ _ _ _
  have oT24 : am_ok T24 := by rw [eT24]; exact (am_fr.mk (fun _ => False) _ _ _ oT23).2.2.2 oT23
  change am_W g _ _ _ _ _ _ _ (am_mk T23 (10 * (20 + i) + 1) (3) (.inr (am_cAL, [.int 0, .null, .int 0])))
  rw [← eT24]
  refine am_dup d_Nd_new_63 rfl ?_
  refine am_cI (b := T23.2.1) d_Nd_new_64 i_Nd_27 (vs := []) (st := [.ref T23.2.1, .ref a]) rfl rfl (by decide) (Nat.le_of_ble_eq_true rfl) (al_new fru_24 (by omega) he) ?_
  rintro v S2 ⟨rfl, rfl⟩
  obtain ⟨T25, eT25⟩ : ∃ q, q = am_up T24 T23.2.1 (10 * (20 + i) + 1) (.inr (am_cAL, [.int 0, .ref e, .int 0])) := ⟨_, rfl⟩
  have zT25 : T25.2.1 = T24.2.1 ∧ T25.2.2 = T24.2.2 := by rw [eT25]; exact ⟨rfl, rfl⟩
  obtain ⟨y25, x25⟩ := zT25
  have old_25 : ∀ (b u : Nat) (x : am_K), S.1 b = some (u, x) → b ≠ a → T25.1 b = some (u, x) := fun b u x hb hne => by rw [eT25, am_up_ne _ _ _ (by have := o _ _ hb; omega)]; exact old_24 b u x hb hne
  have fnd_25 : T25.1 a = some (9999, (.inr (am_cNd, [.int (nI i), .int r, .ref T2.2.1, .ref T20.2.1, .null, .null, .null]))) := by rw [eT25]; exact am_up_tag fnd_24 fru_24 (by omega)
  have fps_25 : T25.1 T2.2.1 = some (9998, (.inl (am_kP, [.ref T4.2.1, .ref T8.2.1, .ref T12.2.1, .ref T16.2.1]))) := by rw [eT25]; exact am_up_tag fps_24 fru_24 (by omega)
  have fp0_25 : T25.1 T4.2.1 = some ((10 * (100 + (4 * i + 0)) + 1), (.inr (am_cPt, [.ref T5.2.1, .null, .int (-1), .int 0]))) := by rw [eT25]; exact am_up_tag fp0_24 fru_24 (by omega)
  have fw0_25 : T25.1 T5.2.1 = some ((10 * (200 + (4 * i + 0)) + 1), (.inr (am_cAL, [.int 0, .ref e, .int 0]))) := by rw [eT25]; exact am_up_tag fw0_24 fru_24 (by omega)
  have fp1_25 : T25.1 T8.2.1 = some ((10 * (100 + (4 * i + 1)) + 1), (.inr (am_cPt, [.ref T9.2.1, .null, .int (-1), .int 0]))) := by rw [eT25]; exact am_up_tag fp1_24 fru_24 (by omega)
  have fw1_25 : T25.1 T9.2.1 = some ((10 * (200 + (4 * i + 1)) + 1), (.inr (am_cAL, [.int 0, .ref e, .int 0]))) := by rw [eT25]; exact am_up_tag fw1_24 fru_24 (by omega)
  have fp2_25 : T25.1 T12.2.1 = some ((10 * (100 + (4 * i + 2)) + 1), (.inr (am_cPt, [.ref T13.2.1, .null, .int (-1), .int 0]))) := by rw [eT25]; exact am_up_tag fp2_24 fru_24 (by omega)
  have fw2_25 : T25.1 T13.2.1 = some ((10 * (200 + (4 * i + 2)) + 1), (.inr (am_cAL, [.int 0, .ref e, .int 0]))) := by rw [eT25]; exact am_up_tag fw2_24 fru_24 (by omega)
  have fp3_25 : T25.1 T16.2.1 = some ((10 * (100 + (4 * i + 3)) + 1), (.inr (am_cPt, [.ref T17.2.1, .null, .int (-1), .int 0]))) := by rw [eT25]; exact am_up_tag fp3_24 fru_24 (by omega)
  have fw3_25 : T25.1 T17.2.1 = some ((10 * (200 + (4 * i + 3)) + 1), (.inr (am_cAL, [.int 0, .ref e, .int 0]))) := by rw [eT25]; exact am_up_tag fw3_24 fru_24 (by omega)
  have fgu_25 : T25.1 T20.2.1 = some ((10 * (10 + i) + 1), (.inr (am_cAL, [.int 0, .ref e, .int 0]))) := by rw [eT25]; exact am_up_tag fgu_24 fru_24 (by omega)
  have fru_25 : T25.1 T23.2.1 = some ((10 * (20 + i) + 1), (.inr (am_cAL, [.int 0, .ref e, .int 0]))) := by rw [eT25]; exact am_up_at _ _ _ _
  have oT25 : am_ok T25 := by rw [eT25]; exact (am_fr.up (X := fun _ => True) fru_24 trivial).2.2.2 oT24
  change am_W g _ _ _ _ _ _ _ (am_up T24 T23.2.1 (10 * (20 + i) + 1) (.inr (am_cAL, [.int 0, .ref e, .int 0])))
  rw [← eT25]
  refine am_put _ d_Nd_new_67 f_Nd_32 p_Nd_32 fnd_25 (by decide) rfl rfl ?_
  obtain ⟨T26, eT26⟩ : ∃ q, q = am_up T25 a 9999 (.inr (am_cNd, [.int (nI i), .int r, .ref T2.2.1, .ref T20.2.1, .ref T23.2.1, .null, .null])) := ⟨_, rfl⟩
  have zT26 : T26.2.1 = T25.2.1 ∧ T26.2.2 = T25.2.2 := by rw [eT26]; exact ⟨rfl, rfl⟩
  obtain ⟨y26, x26⟩ := zT26
  have old_26 : ∀ (b u : Nat) (x : am_K), S.1 b = some (u, x) → b ≠ a → T26.1 b = some (u, x) := fun b u x hb hne => by rw [eT26, am_up_ne _ _ _ hne]; exact old_25 b u x hb hne
  have fps_26 : T26.1 T2.2.1 = some (9998, (.inl (am_kP, [.ref T4.2.1, .ref T8.2.1, .ref T12.2.1, .ref T16.2.1]))) := by rw [eT26]; exact am_up_tag fps_25 fnd_25 (by omega)
  have fp0_26 : T26.1 T4.2.1 = some ((10 * (100 + (4 * i + 0)) + 1), (.inr (am_cPt, [.ref T5.2.1, .null, .int (-1), .int 0]))) := by rw [eT26]; exact am_up_tag fp0_25 fnd_25 (by omega)
  have fw0_26 : T26.1 T5.2.1 = some ((10 * (200 + (4 * i + 0)) + 1), (.inr (am_cAL, [.int 0, .ref e, .int 0]))) := by rw [eT26]; exact am_up_tag fw0_25 fnd_25 (by omega)
  have fp1_26 : T26.1 T8.2.1 = some ((10 * (100 + (4 * i + 1)) + 1), (.inr (am_cPt, [.ref T9.2.1, .null, .int (-1), .int 0]))) := by rw [eT26]; exact am_up_tag fp1_25 fnd_25 (by omega)
  have fw1_26 : T26.1 T9.2.1 = some ((10 * (200 + (4 * i + 1)) + 1), (.inr (am_cAL, [.int 0, .ref e, .int 0]))) := by rw [eT26]; exact am_up_tag fw1_25 fnd_25 (by omega)
  have fp2_26 : T26.1 T12.2.1 = some ((10 * (100 + (4 * i + 2)) + 1), (.inr (am_cPt, [.ref T13.2.1, .null, .int (-1), .int 0]))) := by rw [eT26]; exact am_up_tag fp2_25 fnd_25 (by omega)
  have fw2_26 : T26.1 T13.2.1 = some ((10 * (200 + (4 * i + 2)) + 1), (.inr (am_cAL, [.int 0, .ref e, .int 0]))) := by rw [eT26]; exact am_up_tag fw2_25 fnd_25 (by omega)
  have fp3_26 : T26.1 T16.2.1 = some ((10 * (100 + (4 * i + 3)) + 1), (.inr (am_cPt, [.ref T17.2.1, .null, .int (-1), .int 0]))) := by rw [eT26]; exact am_up_tag fp3_25 fnd_25 (by omega)
  have fw3_26 : T26.1 T17.2.1 = some ((10 * (200 + (4 * i + 3)) + 1), (.inr (am_cAL, [.int 0, .ref e, .int 0]))) := by rw [eT26]; exact am_up_tag fw3_25 fnd_25 (by omega)
  have fgu_26 : T26.1 T20.2.1 = some ((10 * (10 + i) + 1), (.inr (am_cAL, [.int 0, .ref e, .int 0]))) := by rw [eT26]; exact am_up_tag fgu_25 fnd_25 (by omega)
  have fru_26 : T26.1 T23.2.1 = some ((10 * (20 + i) + 1), (.inr (am_cAL, [.int 0, .ref e, .int 0]))) := by rw [eT26]; exact am_up_tag fru_25 fnd_25 (by omega)
  have fnd_26 : T26.1 a = some (9999, (.inr (am_cNd, [.int (nI i), .int r, .ref T2.2.1, .ref T20.2.1, .ref T23.2.1, .null, .null]))) := by rw [eT26]; exact am_up_at _ _ _ _
  have oT26 : am_ok T26 := by rw [eT26]; exact (am_fr.up (X := fun _ => True) fnd_25 trivial).2.2.2 oT25
  change am_W g _ _ _ _ _ _ _ (am_up T25 a 9999 (.inr (am_cNd, [.int (nI i), .int r, .ref T2.2.1, .ref T20.2.1, .ref T23.2.1, .null, .null])))
  rw [← eT26]
  refine am_aload_n d_Nd_new_70 rfl (by first | exact am_rvR _ | exact am_rvN | assumption) ?_
  refine am_nw (10 * (30 + i) + 1) d_Nd_new_71 n_Nd_25 df_AL ?_
  obtain ⟨T27, eT27⟩ : ∃ q, q = am_mk T26 (10 * (30 + i) + 1) (3) (.inr (am_cAL, [.int 0, .null, .int 0])) := ⟨_, rfl⟩
  have zT27 : T27.2.1 = T26.2.1 + 1 ∧ T27.2.2 = T26.2.2 + (3) := by rw [eT27]; exact ⟨rfl, rfl⟩
  obtain ⟨y27, x27⟩ := zT27
  have old_27 : ∀ (b u : Nat) (x : am_K), S.1 b = some (u, x) → b ≠ a → T27.1 b = some (u, x) := fun b u x hb hne => by rw [eT27]; exact am_mk_old (old_26 b u x hb hne) oT26
  have fnd_27 : T27.1 a = some (9999, (.inr (am_cNd, [.int (nI i), .int r, .ref T2.2.1, .ref T20.2.1, .ref T23.2.1, .null, .null]))) := by rw [eT27]; exact am_mk_old fnd_26 oT26
  have fps_27 : T27.1 T2.2.1 = some (9998, (.inl (am_kP, [.ref T4.2.1, .ref T8.2.1, .ref T12.2.1, .ref T16.2.1]))) := by rw [eT27]; exact am_mk_old fps_26 oT26
  have fp0_27 : T27.1 T4.2.1 = some ((10 * (100 + (4 * i + 0)) + 1), (.inr (am_cPt, [.ref T5.2.1, .null, .int (-1), .int 0]))) := by rw [eT27]; exact am_mk_old fp0_26 oT26
  have fw0_27 : T27.1 T5.2.1 = some ((10 * (200 + (4 * i + 0)) + 1), (.inr (am_cAL, [.int 0, .ref e, .int 0]))) := by rw [eT27]; exact am_mk_old fw0_26 oT26
  have fp1_27 : T27.1 T8.2.1 = some ((10 * (100 + (4 * i + 1)) + 1), (.inr (am_cPt, [.ref T9.2.1, .null, .int (-1), .int 0]))) := by rw [eT27]; exact am_mk_old fp1_26 oT26
  have fw1_27 : T27.1 T9.2.1 = some ((10 * (200 + (4 * i + 1)) + 1), (.inr (am_cAL, [.int 0, .ref e, .int 0]))) := by rw [eT27]; exact am_mk_old fw1_26 oT26
  have fp2_27 : T27.1 T12.2.1 = some ((10 * (100 + (4 * i + 2)) + 1), (.inr (am_cPt, [.ref T13.2.1, .null, .int (-1), .int 0]))) := by rw [eT27]; exact am_mk_old fp2_26 oT26
  have fw2_27 : T27.1 T13.2.1 = some ((10 * (200 + (4 * i + 2)) + 1), (.inr (am_cAL, [.int 0, .ref e, .int 0]))) := by rw [eT27]; exact am_mk_old fw2_26 oT26
  have fp3_27 : T27.1 T16.2.1 = some ((10 * (100 + (4 * i + 3)) + 1), (.inr (am_cPt, [.ref T17.2.1, .null, .int (-1), .int 0]))) := by rw [eT27]; exact am_mk_old fp3_26 oT26
  have fw3_27 : T27.1 T17.2.1 = some ((10 * (200 + (4 * i + 3)) + 1), (.inr (am_cAL, [.int 0, .ref e, .int 0]))) := by rw [eT27]; exact am_mk_old fw3_26 oT26
  have fgu_27 : T27.1 T20.2.1 = some ((10 * (10 + i) + 1), (.inr (am_cAL, [.int 0, .ref e, .int 0]))) := by rw [eT27]; exact am_mk_old fgu_26 oT26
  have fru_27 : T27.1 T23.2.1 = some ((10 * (20 + i) + 1), (.inr (am_cAL, [.int 0, .ref e, .int 0]))) := by rw [eT27]; exact am_mk_old fru_26 oT26
  have for_27 : T27.1 T26.2.1 = some ((10 * (30 + i) + 1), (.inr (am_cAL, [.int 0, .null, .int 0]))) := by rw [eT27]; exact am_mk_at _ _ _ _
  have oT27 : am_ok T27 := by rw [eT27]; exact (am_fr.mk (fun _ => False) _ _ _ oT26).2.2.2 oT26
  change am_W g _ _ _ _ _ _ _ (am_mk T26 (10 * (30 + i) + 1) (3) (.inr (am_cAL, [.int 0, .null, .int 0])))
  rw [← eT27]
  refine am_dup d_Nd_new_74 rfl ?_
  refine am_cI (b := T26.2.1) d_Nd_new_75 i_Nd_27 (vs := []) (st := [.ref T26.2.1, .ref a]) rfl rfl (by decide) (Nat.le_of_ble_eq_true rfl) (al_new for_27 (by omega) he) ?_
  rintro v S2 ⟨rfl, rfl⟩
  obtain ⟨T28, eT28⟩ : ∃ q, q = am_up T27 T26.2.1 (10 * (30 + i) + 1) (.inr (am_cAL, [.int 0, .ref e, .int 0])) := ⟨_, rfl⟩
  have zT28 : T28.2.1 = T27.2.1 ∧ T28.2.2 = T27.2.2 := by rw [eT28]; exact ⟨rfl, rfl⟩
  obtain ⟨y28, x28⟩ := zT28
  have old_28 : ∀ (b u : Nat) (x : am_K), S.1 b = some (u, x) → b ≠ a → T28.1 b = some (u, x) := fun b u x hb hne => by rw [eT28, am_up_ne _ _ _ (by have := o _ _ hb; omega)]; exact old_27 b u x hb hne
  have fnd_28 : T28.1 a = some (9999, (.inr (am_cNd, [.int (nI i), .int r, .ref T2.2.1, .ref T20.2.1, .ref T23.2.1, .null, .null]))) := by rw [eT28]; exact am_up_tag fnd_27 for_27 (by omega)
  have fps_28 : T28.1 T2.2.1 = some (9998, (.inl (am_kP, [.ref T4.2.1, .ref T8.2.1, .ref T12.2.1, .ref T16.2.1]))) := by rw [eT28]; exact am_up_tag fps_27 for_27 (by omega)
  have fp0_28 : T28.1 T4.2.1 = some ((10 * (100 + (4 * i + 0)) + 1), (.inr (am_cPt, [.ref T5.2.1, .null, .int (-1), .int 0]))) := by rw [eT28]; exact am_up_tag fp0_27 for_27 (by omega)
  have fw0_28 : T28.1 T5.2.1 = some ((10 * (200 + (4 * i + 0)) + 1), (.inr (am_cAL, [.int 0, .ref e, .int 0]))) := by rw [eT28]; exact am_up_tag fw0_27 for_27 (by omega)
  have fp1_28 : T28.1 T8.2.1 = some ((10 * (100 + (4 * i + 1)) + 1), (.inr (am_cPt, [.ref T9.2.1, .null, .int (-1), .int 0]))) := by rw [eT28]; exact am_up_tag fp1_27 for_27 (by omega)
  have fw1_28 : T28.1 T9.2.1 = some ((10 * (200 + (4 * i + 1)) + 1), (.inr (am_cAL, [.int 0, .ref e, .int 0]))) := by rw [eT28]; exact am_up_tag fw1_27 for_27 (by omega)
  have fp2_28 : T28.1 T12.2.1 = some ((10 * (100 + (4 * i + 2)) + 1), (.inr (am_cPt, [.ref T13.2.1, .null, .int (-1), .int 0]))) := by rw [eT28]; exact am_up_tag fp2_27 for_27 (by omega)
  have fw2_28 : T28.1 T13.2.1 = some ((10 * (200 + (4 * i + 2)) + 1), (.inr (am_cAL, [.int 0, .ref e, .int 0]))) := by rw [eT28]; exact am_up_tag fw2_27 for_27 (by omega)
  have fp3_28 : T28.1 T16.2.1 = some ((10 * (100 + (4 * i + 3)) + 1), (.inr (am_cPt, [.ref T17.2.1, .null, .int (-1), .int 0]))) := by rw [eT28]; exact am_up_tag fp3_27 for_27 (by omega)
  have fw3_28 : T28.1 T17.2.1 = some ((10 * (200 + (4 * i + 3)) + 1), (.inr (am_cAL, [.int 0, .ref e, .int 0]))) := by rw [eT28]; exact am_up_tag fw3_27 for_27 (by omega)
  have fgu_28 : T28.1 T20.2.1 = some ((10 * (10 + i) + 1), (.inr (am_cAL, [.int 0, .ref e, .int 0]))) := by rw [eT28]; exact am_up_tag fgu_27 for_27 (by omega)
  have fru_28 : T28.1 T23.2.1 = some ((10 * (20 + i) + 1), (.inr (am_cAL, [.int 0, .ref e, .int 0]))) := by rw [eT28]; exact am_up_tag fru_27 for_27 (by omega)
  have for_28 : T28.1 T26.2.1 = some ((10 * (30 + i) + 1), (.inr (am_cAL, [.int 0, .ref e, .int 0]))) := by rw [eT28]; exact am_up_at _ _ _ _
  have oT28 : am_ok T28 := by rw [eT28]; exact (am_fr.up (X := fun _ => True) for_27 trivial).2.2.2 oT27
  change am_W g _ _ _ _ _ _ _ (am_up T27 T26.2.1 (10 * (30 + i) + 1) (.inr (am_cAL, [.int 0, .ref e, .int 0])))
  rw [← eT28]
  refine am_put _ d_Nd_new_78 f_Nd_35 p_Nd_35 fnd_28 (by decide) rfl rfl ?_
  obtain ⟨T29, eT29⟩ : ∃ q, q = am_up T28 a 9999 (.inr (am_cNd, [.int (nI i), .int r, .ref T2.2.1, .ref T20.2.1, .ref T23.2.1, .ref T26.2.1, .null])) := ⟨_, rfl⟩
  have zT29 : T29.2.1 = T28.2.1 ∧ T29.2.2 = T28.2.2 := by rw [eT29]; exact ⟨rfl, rfl⟩
  obtain ⟨y29, x29⟩ := zT29
  have old_29 : ∀ (b u : Nat) (x : am_K), S.1 b = some (u, x) → b ≠ a → T29.1 b = some (u, x) := fun b u x hb hne => by rw [eT29, am_up_ne _ _ _ hne]; exact old_28 b u x hb hne
  have fps_29 : T29.1 T2.2.1 = some (9998, (.inl (am_kP, [.ref T4.2.1, .ref T8.2.1, .ref T12.2.1, .ref T16.2.1]))) := by rw [eT29]; exact am_up_tag fps_28 fnd_28 (by omega)
  have fp0_29 : T29.1 T4.2.1 = some ((10 * (100 + (4 * i + 0)) + 1), (.inr (am_cPt, [.ref T5.2.1, .null, .int (-1), .int 0]))) := by rw [eT29]; exact am_up_tag fp0_28 fnd_28 (by omega)
  have fw0_29 : T29.1 T5.2.1 = some ((10 * (200 + (4 * i + 0)) + 1), (.inr (am_cAL, [.int 0, .ref e, .int 0]))) := by rw [eT29]; exact am_up_tag fw0_28 fnd_28 (by omega)
  have fp1_29 : T29.1 T8.2.1 = some ((10 * (100 + (4 * i + 1)) + 1), (.inr (am_cPt, [.ref T9.2.1, .null, .int (-1), .int 0]))) := by rw [eT29]; exact am_up_tag fp1_28 fnd_28 (by omega)
  have fw1_29 : T29.1 T9.2.1 = some ((10 * (200 + (4 * i + 1)) + 1), (.inr (am_cAL, [.int 0, .ref e, .int 0]))) := by rw [eT29]; exact am_up_tag fw1_28 fnd_28 (by omega)
  have fp2_29 : T29.1 T12.2.1 = some ((10 * (100 + (4 * i + 2)) + 1), (.inr (am_cPt, [.ref T13.2.1, .null, .int (-1), .int 0]))) := by rw [eT29]; exact am_up_tag fp2_28 fnd_28 (by omega)
  have fw2_29 : T29.1 T13.2.1 = some ((10 * (200 + (4 * i + 2)) + 1), (.inr (am_cAL, [.int 0, .ref e, .int 0]))) := by rw [eT29]; exact am_up_tag fw2_28 fnd_28 (by omega)
  have fp3_29 : T29.1 T16.2.1 = some ((10 * (100 + (4 * i + 3)) + 1), (.inr (am_cPt, [.ref T17.2.1, .null, .int (-1), .int 0]))) := by rw [eT29]; exact am_up_tag fp3_28 fnd_28 (by omega)
  have fw3_29 : T29.1 T17.2.1 = some ((10 * (200 + (4 * i + 3)) + 1), (.inr (am_cAL, [.int 0, .ref e, .int 0]))) := by rw [eT29]; exact am_up_tag fw3_28 fnd_28 (by omega)
  have fgu_29 : T29.1 T20.2.1 = some ((10 * (10 + i) + 1), (.inr (am_cAL, [.int 0, .ref e, .int 0]))) := by rw [eT29]; exact am_up_tag fgu_28 fnd_28 (by omega)
  have fru_29 : T29.1 T23.2.1 = some ((10 * (20 + i) + 1), (.inr (am_cAL, [.int 0, .ref e, .int 0]))) := by rw [eT29]; exact am_up_tag fru_28 fnd_28 (by omega)
  have for_29 : T29.1 T26.2.1 = some ((10 * (30 + i) + 1), (.inr (am_cAL, [.int 0, .ref e, .int 0]))) := by rw [eT29]; exact am_up_tag for_28 fnd_28 (by omega)
  have fnd_29 : T29.1 a = some (9999, (.inr (am_cNd, [.int (nI i), .int r, .ref T2.2.1, .ref T20.2.1, .ref T23.2.1, .ref T26.2.1, .null]))) := by rw [eT29]; exact am_up_at _ _ _ _
  have oT29 : am_ok T29 := by rw [eT29]; exact (am_fr.up (X := fun _ => True) fnd_28 trivial).2.2.2 oT28
  change am_W g _ _ _ _ _ _ _ (am_up T28 a 9999 (.inr (am_cNd, [.int (nI i), .int r, .ref T2.2.1, .ref T20.2.1, .ref T23.2.1, .ref T26.2.1, .null])))
  rw [← eT29]
  refine am_aload_n d_Nd_new_81 rfl (by first | exact am_rvR _ | exact am_rvN | assumption) ?_
  refine am_nw (10 * (40 + i) + 1) d_Nd_new_82 n_Nd_25 df_AL ?_
  obtain ⟨T30, eT30⟩ : ∃ q, q = am_mk T29 (10 * (40 + i) + 1) (3) (.inr (am_cAL, [.int 0, .null, .int 0])) := ⟨_, rfl⟩
  have zT30 : T30.2.1 = T29.2.1 + 1 ∧ T30.2.2 = T29.2.2 + (3) := by rw [eT30]; exact ⟨rfl, rfl⟩
  obtain ⟨y30, x30⟩ := zT30
  have old_30 : ∀ (b u : Nat) (x : am_K), S.1 b = some (u, x) → b ≠ a → T30.1 b = some (u, x) := fun b u x hb hne => by rw [eT30]; exact am_mk_old (old_29 b u x hb hne) oT29
  have fnd_30 : T30.1 a = some (9999, (.inr (am_cNd, [.int (nI i), .int r, .ref T2.2.1, .ref T20.2.1, .ref T23.2.1, .ref T26.2.1, .null]))) := by rw [eT30]; exact am_mk_old fnd_29 oT29
  have fps_30 : T30.1 T2.2.1 = some (9998, (.inl (am_kP, [.ref T4.2.1, .ref T8.2.1, .ref T12.2.1, .ref T16.2.1]))) := by rw [eT30]; exact am_mk_old fps_29 oT29
  have fp0_30 : T30.1 T4.2.1 = some ((10 * (100 + (4 * i + 0)) + 1), (.inr (am_cPt, [.ref T5.2.1, .null, .int (-1), .int 0]))) := by rw [eT30]; exact am_mk_old fp0_29 oT29
  have fw0_30 : T30.1 T5.2.1 = some ((10 * (200 + (4 * i + 0)) + 1), (.inr (am_cAL, [.int 0, .ref e, .int 0]))) := by rw [eT30]; exact am_mk_old fw0_29 oT29
  have fp1_30 : T30.1 T8.2.1 = some ((10 * (100 + (4 * i + 1)) + 1), (.inr (am_cPt, [.ref T9.2.1, .null, .int (-1), .int 0]))) := by rw [eT30]; exact am_mk_old fp1_29 oT29
  have fw1_30 : T30.1 T9.2.1 = some ((10 * (200 + (4 * i + 1)) + 1), (.inr (am_cAL, [.int 0, .ref e, .int 0]))) := by rw [eT30]; exact am_mk_old fw1_29 oT29
  have fp2_30 : T30.1 T12.2.1 = some ((10 * (100 + (4 * i + 2)) + 1), (.inr (am_cPt, [.ref T13.2.1, .null, .int (-1), .int 0]))) := by rw [eT30]; exact am_mk_old fp2_29 oT29
  have fw2_30 : T30.1 T13.2.1 = some ((10 * (200 + (4 * i + 2)) + 1), (.inr (am_cAL, [.int 0, .ref e, .int 0]))) := by rw [eT30]; exact am_mk_old fw2_29 oT29
  have fp3_30 : T30.1 T16.2.1 = some ((10 * (100 + (4 * i + 3)) + 1), (.inr (am_cPt, [.ref T17.2.1, .null, .int (-1), .int 0]))) := by rw [eT30]; exact am_mk_old fp3_29 oT29
  have fw3_30 : T30.1 T17.2.1 = some ((10 * (200 + (4 * i + 3)) + 1), (.inr (am_cAL, [.int 0, .ref e, .int 0]))) := by rw [eT30]; exact am_mk_old fw3_29 oT29
  have fgu_30 : T30.1 T20.2.1 = some ((10 * (10 + i) + 1), (.inr (am_cAL, [.int 0, .ref e, .int 0]))) := by rw [eT30]; exact am_mk_old fgu_29 oT29
  have fru_30 : T30.1 T23.2.1 = some ((10 * (20 + i) + 1), (.inr (am_cAL, [.int 0, .ref e, .int 0]))) := by rw [eT30]; exact am_mk_old fru_29 oT29
  have for_30 : T30.1 T26.2.1 = some ((10 * (30 + i) + 1), (.inr (am_cAL, [.int 0, .ref e, .int 0]))) := by rw [eT30]; exact am_mk_old for_29 oT29
  have fre_30 : T30.1 T29.2.1 = some ((10 * (40 + i) + 1), (.inr (am_cAL, [.int 0, .null, .int 0]))) := by rw [eT30]; exact am_mk_at _ _ _ _
  have oT30 : am_ok T30 := by rw [eT30]; exact (am_fr.mk (fun _ => False) _ _ _ oT29).2.2.2 oT29
  change am_W g _ _ _ _ _ _ _ (am_mk T29 (10 * (40 + i) + 1) (3) (.inr (am_cAL, [.int 0, .null, .int 0])))
  rw [← eT30]
  refine am_dup d_Nd_new_85 rfl ?_
  refine am_cI (b := T29.2.1) d_Nd_new_86 i_Nd_27 (vs := []) (st := [.ref T29.2.1, .ref a]) rfl rfl (by decide) (Nat.le_of_ble_eq_true rfl) (al_new fre_30 (by omega) he) ?_
  rintro v S2 ⟨rfl, rfl⟩
  obtain ⟨T31, eT31⟩ : ∃ q, q = am_up T30 T29.2.1 (10 * (40 + i) + 1) (.inr (am_cAL, [.int 0, .ref e, .int 0])) := ⟨_, rfl⟩
  have zT31 : T31.2.1 = T30.2.1 ∧ T31.2.2 = T30.2.2 := by rw [eT31]; exact ⟨rfl, rfl⟩
  obtain ⟨y31, x31⟩ := zT31
  have old_31 : ∀ (b u : Nat) (x : am_K), S.1 b = some (u, x) → b ≠ a → T31.1 b = some (u, x) := fun b u x hb hne => by rw [eT31, am_up_ne _ _ _ (by have := o _ _ hb; omega)]; exact old_30 b u x hb hne
  have fnd_31 : T31.1 a = some (9999, (.inr (am_cNd, [.int (nI i), .int r, .ref T2.2.1, .ref T20.2.1, .ref T23.2.1, .ref T26.2.1, .null]))) := by rw [eT31]; exact am_up_tag fnd_30 fre_30 (by omega)
  have fps_31 : T31.1 T2.2.1 = some (9998, (.inl (am_kP, [.ref T4.2.1, .ref T8.2.1, .ref T12.2.1, .ref T16.2.1]))) := by rw [eT31]; exact am_up_tag fps_30 fre_30 (by omega)
  have fp0_31 : T31.1 T4.2.1 = some ((10 * (100 + (4 * i + 0)) + 1), (.inr (am_cPt, [.ref T5.2.1, .null, .int (-1), .int 0]))) := by rw [eT31]; exact am_up_tag fp0_30 fre_30 (by omega)
  have fw0_31 : T31.1 T5.2.1 = some ((10 * (200 + (4 * i + 0)) + 1), (.inr (am_cAL, [.int 0, .ref e, .int 0]))) := by rw [eT31]; exact am_up_tag fw0_30 fre_30 (by omega)
  have fp1_31 : T31.1 T8.2.1 = some ((10 * (100 + (4 * i + 1)) + 1), (.inr (am_cPt, [.ref T9.2.1, .null, .int (-1), .int 0]))) := by rw [eT31]; exact am_up_tag fp1_30 fre_30 (by omega)
  have fw1_31 : T31.1 T9.2.1 = some ((10 * (200 + (4 * i + 1)) + 1), (.inr (am_cAL, [.int 0, .ref e, .int 0]))) := by rw [eT31]; exact am_up_tag fw1_30 fre_30 (by omega)
  have fp2_31 : T31.1 T12.2.1 = some ((10 * (100 + (4 * i + 2)) + 1), (.inr (am_cPt, [.ref T13.2.1, .null, .int (-1), .int 0]))) := by rw [eT31]; exact am_up_tag fp2_30 fre_30 (by omega)
  have fw2_31 : T31.1 T13.2.1 = some ((10 * (200 + (4 * i + 2)) + 1), (.inr (am_cAL, [.int 0, .ref e, .int 0]))) := by rw [eT31]; exact am_up_tag fw2_30 fre_30 (by omega)
  have fp3_31 : T31.1 T16.2.1 = some ((10 * (100 + (4 * i + 3)) + 1), (.inr (am_cPt, [.ref T17.2.1, .null, .int (-1), .int 0]))) := by rw [eT31]; exact am_up_tag fp3_30 fre_30 (by omega)
  have fw3_31 : T31.1 T17.2.1 = some ((10 * (200 + (4 * i + 3)) + 1), (.inr (am_cAL, [.int 0, .ref e, .int 0]))) := by rw [eT31]; exact am_up_tag fw3_30 fre_30 (by omega)
  have fgu_31 : T31.1 T20.2.1 = some ((10 * (10 + i) + 1), (.inr (am_cAL, [.int 0, .ref e, .int 0]))) := by rw [eT31]; exact am_up_tag fgu_30 fre_30 (by omega)
  have fru_31 : T31.1 T23.2.1 = some ((10 * (20 + i) + 1), (.inr (am_cAL, [.int 0, .ref e, .int 0]))) := by rw [eT31]; exact am_up_tag fru_30 fre_30 (by omega)
  have for_31 : T31.1 T26.2.1 = some ((10 * (30 + i) + 1), (.inr (am_cAL, [.int 0, .ref e, .int 0]))) := by rw [eT31]; exact am_up_tag for_30 fre_30 (by omega)
  have fre_31 : T31.1 T29.2.1 = some ((10 * (40 + i) + 1), (.inr (am_cAL, [.int 0, .ref e, .int 0]))) := by rw [eT31]; exact am_up_at _ _ _ _
  have oT31 : am_ok T31 := by rw [eT31]; exact (am_fr.up (X := fun _ => True) fre_30 trivial).2.2.2 oT30
  change am_W g _ _ _ _ _ _ _ (am_up T30 T29.2.1 (10 * (40 + i) + 1) (.inr (am_cAL, [.int 0, .ref e, .int 0])))
  rw [← eT31]
  refine am_put _ d_Nd_new_89 f_Nd_38 p_Nd_38 fnd_31 (by decide) rfl rfl ?_
  obtain ⟨T32, eT32⟩ : ∃ q, q = am_up T31 a 9999 (.inr (am_cNd, [.int (nI i), .int r, .ref T2.2.1, .ref T20.2.1, .ref T23.2.1, .ref T26.2.1, .ref T29.2.1])) := ⟨_, rfl⟩
  have zT32 : T32.2.1 = T31.2.1 ∧ T32.2.2 = T31.2.2 := by rw [eT32]; exact ⟨rfl, rfl⟩
  obtain ⟨y32, x32⟩ := zT32
  have old_32 : ∀ (b u : Nat) (x : am_K), S.1 b = some (u, x) → b ≠ a → T32.1 b = some (u, x) := fun b u x hb hne => by rw [eT32, am_up_ne _ _ _ hne]; exact old_31 b u x hb hne
  have fps_32 : T32.1 T2.2.1 = some (9998, (.inl (am_kP, [.ref T4.2.1, .ref T8.2.1, .ref T12.2.1, .ref T16.2.1]))) := by rw [eT32]; exact am_up_tag fps_31 fnd_31 (by omega)
  have fp0_32 : T32.1 T4.2.1 = some ((10 * (100 + (4 * i + 0)) + 1), (.inr (am_cPt, [.ref T5.2.1, .null, .int (-1), .int 0]))) := by rw [eT32]; exact am_up_tag fp0_31 fnd_31 (by omega)
  have fw0_32 : T32.1 T5.2.1 = some ((10 * (200 + (4 * i + 0)) + 1), (.inr (am_cAL, [.int 0, .ref e, .int 0]))) := by rw [eT32]; exact am_up_tag fw0_31 fnd_31 (by omega)
  have fp1_32 : T32.1 T8.2.1 = some ((10 * (100 + (4 * i + 1)) + 1), (.inr (am_cPt, [.ref T9.2.1, .null, .int (-1), .int 0]))) := by rw [eT32]; exact am_up_tag fp1_31 fnd_31 (by omega)
  have fw1_32 : T32.1 T9.2.1 = some ((10 * (200 + (4 * i + 1)) + 1), (.inr (am_cAL, [.int 0, .ref e, .int 0]))) := by rw [eT32]; exact am_up_tag fw1_31 fnd_31 (by omega)
  have fp2_32 : T32.1 T12.2.1 = some ((10 * (100 + (4 * i + 2)) + 1), (.inr (am_cPt, [.ref T13.2.1, .null, .int (-1), .int 0]))) := by rw [eT32]; exact am_up_tag fp2_31 fnd_31 (by omega)
  have fw2_32 : T32.1 T13.2.1 = some ((10 * (200 + (4 * i + 2)) + 1), (.inr (am_cAL, [.int 0, .ref e, .int 0]))) := by rw [eT32]; exact am_up_tag fw2_31 fnd_31 (by omega)
  have fp3_32 : T32.1 T16.2.1 = some ((10 * (100 + (4 * i + 3)) + 1), (.inr (am_cPt, [.ref T17.2.1, .null, .int (-1), .int 0]))) := by rw [eT32]; exact am_up_tag fp3_31 fnd_31 (by omega)
  have fw3_32 : T32.1 T17.2.1 = some ((10 * (200 + (4 * i + 3)) + 1), (.inr (am_cAL, [.int 0, .ref e, .int 0]))) := by rw [eT32]; exact am_up_tag fw3_31 fnd_31 (by omega)
  have fgu_32 : T32.1 T20.2.1 = some ((10 * (10 + i) + 1), (.inr (am_cAL, [.int 0, .ref e, .int 0]))) := by rw [eT32]; exact am_up_tag fgu_31 fnd_31 (by omega)
  have fru_32 : T32.1 T23.2.1 = some ((10 * (20 + i) + 1), (.inr (am_cAL, [.int 0, .ref e, .int 0]))) := by rw [eT32]; exact am_up_tag fru_31 fnd_31 (by omega)
  have for_32 : T32.1 T26.2.1 = some ((10 * (30 + i) + 1), (.inr (am_cAL, [.int 0, .ref e, .int 0]))) := by rw [eT32]; exact am_up_tag for_31 fnd_31 (by omega)
  have fre_32 : T32.1 T29.2.1 = some ((10 * (40 + i) + 1), (.inr (am_cAL, [.int 0, .ref e, .int 0]))) := by rw [eT32]; exact am_up_tag fre_31 fnd_31 (by omega)
  have fnd_32 : T32.1 a = some (9999, (.inr (am_cNd, [.int (nI i), .int r, .ref T2.2.1, .ref T20.2.1, .ref T23.2.1, .ref T26.2.1, .ref T29.2.1]))) := by rw [eT32]; exact am_up_at _ _ _ _
  have oT32 : am_ok T32 := by rw [eT32]; exact (am_fr.up (X := fun _ => True) fnd_31 trivial).2.2.2 oT31
  change am_W g _ _ _ _ _ _ _ (am_up T31 a 9999 (.inr (am_cNd, [.int (nI i), .int r, .ref T2.2.1, .ref T20.2.1, .ref T23.2.1, .ref T26.2.1, .ref T29.2.1])))
  rw [← eT32]
  refine am_retag 0 fps_32 (by decide) ?_
  obtain ⟨T33, eT33⟩ : ∃ q, q = am_up T32 T2.2.1 0 (.inl (am_kP, [.ref T4.2.1, .ref T8.2.1, .ref T12.2.1, .ref T16.2.1])) := ⟨_, rfl⟩
  have zT33 : T33.2.1 = T32.2.1 ∧ T33.2.2 = T32.2.2 := by rw [eT33]; exact ⟨rfl, rfl⟩
  obtain ⟨y33, x33⟩ := zT33
  have old_33 : ∀ (b u : Nat) (x : am_K), S.1 b = some (u, x) → b ≠ a → T33.1 b = some (u, x) := fun b u x hb hne => by rw [eT33, am_up_ne _ _ _ (by have := o _ _ hb; omega)]; exact old_32 b u x hb hne
  have fnd_33 : T33.1 a = some (9999, (.inr (am_cNd, [.int (nI i), .int r, .ref T2.2.1, .ref T20.2.1, .ref T23.2.1, .ref T26.2.1, .ref T29.2.1]))) := by rw [eT33]; exact am_up_tag fnd_32 fps_32 (by omega)
  have fp0_33 : T33.1 T4.2.1 = some ((10 * (100 + (4 * i + 0)) + 1), (.inr (am_cPt, [.ref T5.2.1, .null, .int (-1), .int 0]))) := by rw [eT33]; exact am_up_tag fp0_32 fps_32 (by omega)
  have fw0_33 : T33.1 T5.2.1 = some ((10 * (200 + (4 * i + 0)) + 1), (.inr (am_cAL, [.int 0, .ref e, .int 0]))) := by rw [eT33]; exact am_up_tag fw0_32 fps_32 (by omega)
  have fp1_33 : T33.1 T8.2.1 = some ((10 * (100 + (4 * i + 1)) + 1), (.inr (am_cPt, [.ref T9.2.1, .null, .int (-1), .int 0]))) := by rw [eT33]; exact am_up_tag fp1_32 fps_32 (by omega)
  have fw1_33 : T33.1 T9.2.1 = some ((10 * (200 + (4 * i + 1)) + 1), (.inr (am_cAL, [.int 0, .ref e, .int 0]))) := by rw [eT33]; exact am_up_tag fw1_32 fps_32 (by omega)
  have fp2_33 : T33.1 T12.2.1 = some ((10 * (100 + (4 * i + 2)) + 1), (.inr (am_cPt, [.ref T13.2.1, .null, .int (-1), .int 0]))) := by rw [eT33]; exact am_up_tag fp2_32 fps_32 (by omega)
  have fw2_33 : T33.1 T13.2.1 = some ((10 * (200 + (4 * i + 2)) + 1), (.inr (am_cAL, [.int 0, .ref e, .int 0]))) := by rw [eT33]; exact am_up_tag fw2_32 fps_32 (by omega)
  have fp3_33 : T33.1 T16.2.1 = some ((10 * (100 + (4 * i + 3)) + 1), (.inr (am_cPt, [.ref T17.2.1, .null, .int (-1), .int 0]))) := by rw [eT33]; exact am_up_tag fp3_32 fps_32 (by omega)
  have fw3_33 : T33.1 T17.2.1 = some ((10 * (200 + (4 * i + 3)) + 1), (.inr (am_cAL, [.int 0, .ref e, .int 0]))) := by rw [eT33]; exact am_up_tag fw3_32 fps_32 (by omega)
  have fgu_33 : T33.1 T20.2.1 = some ((10 * (10 + i) + 1), (.inr (am_cAL, [.int 0, .ref e, .int 0]))) := by rw [eT33]; exact am_up_tag fgu_32 fps_32 (by omega)
  have fru_33 : T33.1 T23.2.1 = some ((10 * (20 + i) + 1), (.inr (am_cAL, [.int 0, .ref e, .int 0]))) := by rw [eT33]; exact am_up_tag fru_32 fps_32 (by omega)
  have for_33 : T33.1 T26.2.1 = some ((10 * (30 + i) + 1), (.inr (am_cAL, [.int 0, .ref e, .int 0]))) := by rw [eT33]; exact am_up_tag for_32 fps_32 (by omega)
  have fre_33 : T33.1 T29.2.1 = some ((10 * (40 + i) + 1), (.inr (am_cAL, [.int 0, .ref e, .int 0]))) := by rw [eT33]; exact am_up_tag fre_32 fps_32 (by omega)
  have fps_33 : T33.1 T2.2.1 = some (0, (.inl (am_kP, [.ref T4.2.1, .ref T8.2.1, .ref T12.2.1, .ref T16.2.1]))) := by rw [eT33]; exact am_up_at _ _ _ _
  have oT33 : am_ok T33 := by rw [eT33]; exact (am_fr.up (X := fun _ => True) fps_32 trivial).2.2.2 oT32
  change am_W g _ _ _ _ _ _ _ (am_up T32 T2.2.1 0 (.inl (am_kP, [.ref T4.2.1, .ref T8.2.1, .ref T12.2.1, .ref T16.2.1])))
  rw [← eT33]
  refine am_vret d_Nd_new_92 rfl ?_
  have aps : T2.2.1 = S.2.1 := by omega
  have ap0 : T4.2.1 = S.2.1 + 1 := by omega
  have aw0 : T5.2.1 = S.2.1 + 2 := by omega
  have ap1 : T8.2.1 = S.2.1 + 3 := by omega
  have aw1 : T9.2.1 = S.2.1 + 4 := by omega
  have ap2 : T12.2.1 = S.2.1 + 5 := by omega
  have aw2 : T13.2.1 = S.2.1 + 6 := by omega
  have ap3 : T16.2.1 = S.2.1 + 7 := by omega
  have aw3 : T17.2.1 = S.2.1 + 8 := by omega
  have agu : T20.2.1 = S.2.1 + 9 := by omega
  have aru : T23.2.1 = S.2.1 + 10 := by omega
  have aor : T26.2.1 = S.2.1 + 11 := by omega
  have are : T29.2.1 = S.2.1 + 12 := by omega
  simp only [aps, ap0, aw0, ap1, aw1, ap2, aw2, ap3, aw3, agu, aru, aor, are] at fps_33
  simp only [aps, ap0, aw0, ap1, aw1, ap2, aw2, ap3, aw3, agu, aru, aor, are] at fp0_33
  simp only [aps, ap0, aw0, ap1, aw1, ap2, aw2, ap3, aw3, agu, aru, aor, are] at fw0_33
  simp only [aps, ap0, aw0, ap1, aw1, ap2, aw2, ap3, aw3, agu, aru, aor, are] at fp1_33
  simp only [aps, ap0, aw0, ap1, aw1, ap2, aw2, ap3, aw3, agu, aru, aor, are] at fw1_33
  simp only [aps, ap0, aw0, ap1, aw1, ap2, aw2, ap3, aw3, agu, aru, aor, are] at fp2_33
  simp only [aps, ap0, aw0, ap1, aw1, ap2, aw2, ap3, aw3, agu, aru, aor, are] at fw2_33
  simp only [aps, ap0, aw0, ap1, aw1, ap2, aw2, ap3, aw3, agu, aru, aor, are] at fp3_33
  simp only [aps, ap0, aw0, ap1, aw1, ap2, aw2, ap3, aw3, agu, aru, aor, are] at fw3_33
  simp only [aps, ap0, aw0, ap1, aw1, ap2, aw2, ap3, aw3, agu, aru, aor, are] at fgu_33
  simp only [aps, ap0, aw0, ap1, aw1, ap2, aw2, ap3, aw3, agu, aru, aor, are] at fru_33
  simp only [aps, ap0, aw0, ap1, aw1, ap2, aw2, ap3, aw3, agu, aru, aor, are] at for_33
  simp only [aps, ap0, aw0, ap1, aw1, ap2, aw2, ap3, aw3, agu, aru, aor, are] at fre_33
  simp only [aps, ap0, aw0, ap1, aw1, ap2, aw2, ap3, aw3, agu, aru, aor, are] at fnd_33
  refine ⟨rfl, ⟨by omega, by omega⟩, fnd_33, ⟨fps_33, fun p hp => ?_, fgu_33, fru_33, for_33, fre_33⟩, oT33, old_33⟩
  have hp4 : p = 0 ∨ p = 1 ∨ p = 2 ∨ p = 3 := by omega
  rcases hp4 with rfl | rfl | rfl | rfl
  · exact ⟨fp0_33, fw0_33⟩
  · exact ⟨fp1_33, fw1_33⟩
  · exact ⟨fp2_33, fw2_33⟩
  · exact ⟨fp3_33, fw3_33⟩
end CIB
