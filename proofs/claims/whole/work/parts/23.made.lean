/-! objects are made -/
/-- what a new object of a class holds -/
def am_df (ci : Nat) (fs : List Value) : Prop := ∃ q : vw_C, am_cl[ci]? = some q ∧ fs.length = q.2.2 ∧ ∀ j, j < q.2.2 → ∃ ty, parseFieldDescriptor (q.2.1 j).2.2.1 = some ty ∧ defaultValue ty = vp_V fs j
theorem am_df.of {ci : Nat} {fs : List Value} {q : vw_C} (h1 : am_cl[ci]? = some q) (h2 : fs.length = q.2.2) (h3 : (List.range q.2.2).all (fun j => match parseFieldDescriptor (q.2.1 j).2.2.1 with | some ty => decide (defaultValue ty = vp_V fs j) | none => false) = true) : am_df ci fs := by
  refine ⟨q, h1, h2, fun j hj => ?_⟩
  have h := List.all_eq_true.mp h3 j (List.mem_range.mpr hj)
  cases hp : parseFieldDescriptor (q.2.1 j).2.2.1 with
  | none => rw [hp] at h; cases h
  | some ty => rw [hp] at h; exact ⟨ty, rfl, of_decide_eq_true h⟩
section MDE
variable {g : am_G} {S : am_S}
theorem df_FF : am_df am_cFF [.int 0, .null, .null, .null, .int 0, .int 0] := am_df.of (q := am_qFF) rfl rfl (by decide +kernel)
theorem df_Nd : am_df am_cNd [.int 0, .int 0, .null, .null, .null, .null, .null] := am_df.of (q := am_qNd) rfl rfl (by decide +kernel)
theorem df_Pt : am_df am_cPt [.null, .null, .int 0, .int 0] := am_df.of (q := am_qPt) rfl rfl (by decide +kernel)
theorem df_Ho : am_df am_cHo [.int 0, .int 0, .int 0, .int 0, .int 0, .int 0] := am_df.of (q := am_qHo) rfl rfl (by decide +kernel)
theorem df_Ct : am_df am_cCt [.null, .null, .null, .null, .null, .null, .int 0] := am_df.of (q := am_qCt) rfl rfl (by decide +kernel)
theorem df_Co : am_df am_cCo [.int 0, .int 0, .int 0, .null, .null, .int 0, .int 0, .int 0] := am_df.of (q := am_qCo) rfl rfl (by decide +kernel)
theorem df_Dg : am_df am_cDg [.int 0, .int 0, .int 0] := am_df.of (q := am_qDg) rfl rfl (by decide +kernel)
theorem df_Fr : am_df am_cFr [.null, .int 0] := am_df.of (q := am_qFr) rfl rfl (by decide +kernel)
theorem df_Gd : am_df am_cGd [.int 0, .int 0, .int 0, .int 0] := am_df.of (q := am_qGd) rfl rfl (by decide +kernel)
theorem df_Ms : am_df am_cMs [.int 0, .int 0, .int 0, .int 0, .int 0] := am_df.of (q := am_qMs) rfl rfl (by decide +kernel)
theorem df_Rl : am_df am_cRl [.int 0, .int 0, .int 0, .int 0, .int 0, .int 0] := am_df.of (q := am_qRl) rfl rfl (by decide +kernel)
theorem df_M : am_df am_cM [.int 0, .int 0, .int 0, .int 0, .null, .null, .null, .int 0, .null, .null, .null, .null, .null, .null, .null, .null, .null, .null, .null, .null, .null, .null, .null, .null, .null, .null, .null, .null, .null, .null, .null, .int 0, .int 0, .null, .null, .null, .null, .null, .null, .null, .null, .null, .int 0, .null] := am_df.of (q := am_qM) rfl rfl (by decide +kernel)
theorem df_AL : am_df am_cAL [.int 0, .null, .int 0] := am_df.of (q := am_qAL) rfl rfl (by decide +kernel)
theorem am_nw {y : am_N} {d lo pc pc1 idx ci : Nat} {L : List (Option Value)} {st : List Value} {post : Option Value → am_S → Prop} (t : Nat) {fs : List Value} (hd : am_D y.2.2.1 pc (.new idx) 3 pc1) (hN : am_NW y.1 idx ci) (hD : am_df ci fs)
    (h : am_W g y d lo post pc1 L (.ref S.2.1 :: st) (am_mk S t fs.length (.inr (ci, fs)))) : am_W g y d lo post pc L st S := by
  obtain ⟨q, h1, h2, h3, h4⟩ := hN
  obtain ⟨q', k1, k2, k3⟩ := hD
  cases k1.symm.trans h1
  rw [k2] at h
  exact am_new t hd h1 h2 h3 h4 k2 k3 h
theorem mk_Dg {a t : Nat} (ht : t ≠ 0) (ha : S.1 a = some (t, .inr (am_cDg, [.int 0, .int 0, .int 0]))) (x : Int32) (z : Int32) (n : Int32) : am_M g y_Dg_new "(III)V" 1 14 [.ref a, .int x, .int z, .int n] S (fun v S' => v = none ∧ S' = am_up S a t (.inr (am_cDg, [.int x, .int z, .int n]))) := by
  refine am_Mof (L0 := [some (.ref a), some (.int x), some (.int z), some (.int n)]) pl_Dg_new (am_k1 rfl (am_k1 rfl (am_k1 rfl (am_k1 rfl am_k0)))) (Nat.le_of_ble_eq_true rfl) rfl ?_
  refine am_aload_n d_Dg_new_0 rfl (by first | exact am_rvR _ | exact am_rvN | assumption) ?_
  refine am_objInit d_Dg_new_1 o_Dg_1 o_hi o_hc (by decide) (Nat.le_of_ble_eq_true rfl) ?_
  refine am_aload_n d_Dg_new_4 rfl (by first | exact am_rvR _ | exact am_rvN | assumption) ?_
  refine am_iload_n d_Dg_new_5 rfl ?_
  refine am_put _ d_Dg_new_6 f_Dg_7 p_Dg_7 (by first | assumption | exact am_up_at _ _ _ _) (by first | decide | omega) (by first | rfl | exact am_b_nar _) (by first | rfl | exact am_b_fit _) ?_
  refine am_aload_n d_Dg_new_9 rfl (by first | exact am_rvR _ | exact am_rvN | assumption) ?_
  refine am_iload_n d_Dg_new_10 rfl ?_
  refine am_put _ d_Dg_new_11 f_Dg_13 p_Dg_13 (by first | assumption | exact am_up_at _ _ _ _) (by first | decide | omega) (by first | rfl | exact am_b_nar _) (by first | rfl | exact am_b_fit _) ?_
  refine am_aload_n d_Dg_new_14 rfl (by first | exact am_rvR _ | exact am_rvN | assumption) ?_
  refine am_iload_n d_Dg_new_15 rfl ?_
  refine am_put _ d_Dg_new_16 f_Dg_16 p_Dg_16 (by first | assumption | exact am_up_at _ _ _ _) (by first | decide | omega) (by first | rfl | exact am_b_nar _) (by first | rfl | exact am_b_fit _) ?_
  refine am_vret d_Dg_new_19 rfl ?_
  exact ⟨rfl, by simp only [am_up_up]; rfl⟩
theorem mk_Ms {a t : Nat} (ht : t ≠ 0) (ha : S.1 a = some (t, .inr (am_cMs, [.int 0, .int 0, .int 0, .int 0, .int 0]))) (x0 : Int32) (x1 : Int32) (x2 : Int32) (x3 : Int32) (x4 : Int32) : am_M g y_Ms_new "(IIIII)V" 1 14 [.ref a, .int x0, .int x1, .int x2, .int x3, .int x4] S (fun v S' => v = none ∧ S' = am_up S a t (.inr (am_cMs, [.int x0, .int x1, .int x2, .int x3, .int x4]))) := by
  refine am_Mof (L0 := [some (.ref a), some (.int x0), some (.int x1), some (.int x2), some (.int x3), some (.int x4)]) pl_Ms_new (am_k1 rfl (am_k1 rfl (am_k1 rfl (am_k1 rfl (am_k1 rfl (am_k1 rfl am_k0)))))) (Nat.le_of_ble_eq_true rfl) rfl ?_
  refine am_aload_n d_Ms_new_0 rfl (by first | exact am_rvR _ | exact am_rvN | assumption) ?_
  refine am_objInit d_Ms_new_1 o_Ms_3 o_hi o_hc (by decide) (Nat.le_of_ble_eq_true rfl) ?_
  refine am_aload_n d_Ms_new_4 rfl (by first | exact am_rvR _ | exact am_rvN | assumption) ?_
  refine am_iload_n d_Ms_new_5 rfl ?_
  refine am_put _ d_Ms_new_6 f_Ms_9 p_Ms_9 (by first | assumption | exact am_up_at _ _ _ _) (by first | decide | omega) (by first | rfl | exact am_b_nar _) (by first | rfl | exact am_b_fit _) ?_
  refine am_aload_n d_Ms_new_9 rfl (by first | exact am_rvR _ | exact am_rvN | assumption) ?_
  refine am_iload_n d_Ms_new_10 rfl ?_
  refine am_put _ d_Ms_new_11 f_Ms_15 p_Ms_15 (by first | assumption | exact am_up_at _ _ _ _) (by first | decide | omega) (by first | rfl | exact am_b_nar _) (by first | rfl | exact am_b_fit _) ?_
  refine am_aload_n d_Ms_new_14 rfl (by first | exact am_rvR _ | exact am_rvN | assumption) ?_
  refine am_iload_n d_Ms_new_15 rfl ?_
  refine am_put _ d_Ms_new_16 f_Ms_18 p_Ms_18 (by first | assumption | exact am_up_at _ _ _ _) (by first | decide | omega) (by first | rfl | exact am_b_nar _) (by first | rfl | exact am_b_fit _) ?_
  refine am_aload_n d_Ms_new_19 rfl (by first | exact am_rvR _ | exact am_rvN | assumption) ?_
  refine am_iload d_Ms_new_20 rfl ?_
  refine am_put _ d_Ms_new_22 f_Ms_21 p_Ms_21 (by first | assumption | exact am_up_at _ _ _ _) (by first | decide | omega) (by first | rfl | exact am_b_nar _) (by first | rfl | exact am_b_fit _) ?_
  refine am_aload_n d_Ms_new_25 rfl (by first | exact am_rvR _ | exact am_rvN | assumption) ?_
  refine am_iload d_Ms_new_26 rfl ?_
  refine am_put _ d_Ms_new_28 f_Ms_24 p_Ms_24 (by first | assumption | exact am_up_at _ _ _ _) (by first | decide | omega) (by first | rfl | exact am_b_nar _) (by first | rfl | exact am_b_fit _) ?_
  refine am_vret d_Ms_new_31 rfl ?_
  exact ⟨rfl, by simp only [am_up_up]; rfl⟩
theorem mk_Gd {a t : Nat} (ht : t ≠ 0) (ha : S.1 a = some (t, .inr (am_cGd, [.int 0, .int 0, .int 0, .int 0]))) (x0 : Int32) (x1 : Int32) (x2 : Int32) : am_M g y_Gd_new "(III)V" 1 14 [.ref a, .int x0, .int x1, .int x2] S (fun v S' => v = none ∧ S' = am_up S a t (.inr (am_cGd, [.int x0, .int x1, .int x2, .int 0]))) := by
  refine am_Mof (L0 := [some (.ref a), some (.int x0), some (.int x1), some (.int x2)]) pl_Gd_new (am_k1 rfl (am_k1 rfl (am_k1 rfl (am_k1 rfl am_k0)))) (Nat.le_of_ble_eq_true rfl) rfl ?_
  refine am_aload_n d_Gd_new_0 rfl (by first | exact am_rvR _ | exact am_rvN | assumption) ?_
  refine am_objInit d_Gd_new_1 o_Gd_3 o_hi o_hc (by decide) (Nat.le_of_ble_eq_true rfl) ?_
  refine am_aload_n d_Gd_new_4 rfl (by first | exact am_rvR _ | exact am_rvN | assumption) ?_
  refine am_iload_n d_Gd_new_5 rfl ?_
  refine am_put _ d_Gd_new_6 f_Gd_9 p_Gd_9 (by first | assumption | exact am_up_at _ _ _ _) (by first | decide | omega) (by first | rfl | exact am_b_nar _) (by first | rfl | exact am_b_fit _) ?_
  refine am_aload_n d_Gd_new_9 rfl (by first | exact am_rvR _ | exact am_rvN | assumption) ?_
  refine am_iload_n d_Gd_new_10 rfl ?_
  refine am_put _ d_Gd_new_11 f_Gd_15 p_Gd_15 (by first | assumption | exact am_up_at _ _ _ _) (by first | decide | omega) (by first | rfl | exact am_b_nar _) (by first | rfl | exact am_b_fit _) ?_
  refine am_aload_n d_Gd_new_14 rfl (by first | exact am_rvR _ | exact am_rvN | assumption) ?_
  refine am_iload_n d_Gd_new_15 rfl ?_
  refine am_put _ d_Gd_new_16 f_Gd_18 p_Gd_18 (by first | assumption | exact am_up_at _ _ _ _) (by first | decide | omega) (by first | rfl | exact am_b_nar _) (by first | rfl | exact am_b_fit _) ?_
  refine am_aload_n d_Gd_new_19 rfl (by first | exact am_rvR _ | exact am_rvN | assumption) ?_
  refine am_iconst (v := nI 0) d_Gd_new_20 (by decide) ?_
  refine am_put _ d_Gd_new_21 f_Gd_21 (p_Gd_21 _) (by first | assumption | exact am_up_at _ _ _ _) (by first | decide | omega) (by first | rfl | exact am_b_nar _) (by first | rfl | exact am_b_fit _) ?_
  refine am_vret d_Gd_new_24 rfl ?_
  exact ⟨rfl, by simp only [am_up_up]; rfl⟩
theorem mk_Rl {a t : Nat} (ht : t ≠ 0) (ha : S.1 a = some (t, .inr (am_cRl, [.int 0, .int 0, .int 0, .int 0, .int 0, .int 0]))) (x0 : Int32) (x1 : Int32) (x2 : Int32) (x3 : Int32) : am_M g y_Rl_new "(IIII)V" 1 14 [.ref a, .int x0, .int x1, .int x2, .int x3] S (fun v S' => v = none ∧ S' = am_up S a t (.inr (am_cRl, [.int x0, .int x1, .int x2, .int x3, .int x3, .int 0]))) := by
  refine am_Mof (L0 := [some (.ref a), some (.int x0), some (.int x1), some (.int x2), some (.int x3)]) pl_Rl_new (am_k1 rfl (am_k1 rfl (am_k1 rfl (am_k1 rfl (am_k1 rfl am_k0))))) (Nat.le_of_ble_eq_true rfl) rfl ?_
  refine am_aload_n d_Rl_new_0 rfl (by first | exact am_rvR _ | exact am_rvN | assumption) ?_
  refine am_objInit d_Rl_new_1 o_Rl_3 o_hi o_hc (by decide) (Nat.le_of_ble_eq_true rfl) ?_
  refine am_aload_n d_Rl_new_4 rfl (by first | exact am_rvR _ | exact am_rvN | assumption) ?_
  refine am_iload_n d_Rl_new_5 rfl ?_
  refine am_put _ d_Rl_new_6 f_Rl_9 p_Rl_9 (by first | assumption | exact am_up_at _ _ _ _) (by first | decide | omega) (by first | rfl | exact am_b_nar _) (by first | rfl | exact am_b_fit _) ?_
  refine am_aload_n d_Rl_new_9 rfl (by first | exact am_rvR _ | exact am_rvN | assumption) ?_
  refine am_iload_n d_Rl_new_10 rfl ?_
  refine am_put _ d_Rl_new_11 f_Rl_15 p_Rl_15 (by first | assumption | exact am_up_at _ _ _ _) (by first | decide | omega) (by first | rfl | exact am_b_nar _) (by first | rfl | exact am_b_fit _) ?_
  refine am_aload_n d_Rl_new_14 rfl (by first | exact am_rvR _ | exact am_rvN | assumption) ?_
  refine am_iload_n d_Rl_new_15 rfl ?_
  refine am_put _ d_Rl_new_16 f_Rl_18 p_Rl_18 (by first | assumption | exact am_up_at _ _ _ _) (by first | decide | omega) (by first | rfl | exact am_b_nar _) (by first | rfl | exact am_b_fit _) ?_
  refine am_aload_n d_Rl_new_19 rfl (by first | exact am_rvR _ | exact am_rvN | assumption) ?_
  refine am_iload d_Rl_new_20 rfl ?_
  refine am_put _ d_Rl_new_22 f_Rl_21 p_Rl_21 (by first | assumption | exact am_up_at _ _ _ _) (by first | decide | omega) (by first | rfl | exact am_b_nar _) (by first | rfl | exact am_b_fit _) ?_
  refine am_aload_n d_Rl_new_25 rfl (by first | exact am_rvR _ | exact am_rvN | assumption) ?_
  refine am_iload d_Rl_new_26 rfl ?_
  refine am_put _ d_Rl_new_28 f_Rl_24 (p_Rl_24 _) (by first | assumption | exact am_up_at _ _ _ _) (by first | decide | omega) (by first | rfl | exact am_b_nar _) (by first | rfl | exact am_b_fit _) ?_
  refine am_aload_n d_Rl_new_31 rfl (by first | exact am_rvR _ | exact am_rvN | assumption) ?_
  refine am_iconst (v := nI 0) d_Rl_new_32 (by decide) ?_
  refine am_put _ d_Rl_new_33 f_Rl_27 (p_Rl_27 _) (by first | assumption | exact am_up_at _ _ _ _) (by first | decide | omega) (by first | rfl | exact am_b_nar _) (by first | rfl | exact am_b_fit _) ?_
  refine am_vret d_Rl_new_36 rfl ?_
  exact ⟨rfl, by simp only [am_up_up]; rfl⟩
theorem mk_Ho {a t : Nat} (ht : t ≠ 0) (ha : S.1 a = some (t, .inr (am_cHo, [.int 0, .int 0, .int 0, .int 0, .int 0, .int 0]))) (x0 : Int32) (x1 : Int32) (x2 : Int32) : am_M g y_Ho_new "(III)V" 1 14 [.ref a, .int x0, .int x1, .int x2] S (fun v S' => v = none ∧ S' = am_up S a t (.inr (am_cHo, [.int x0, .int x1, .int x2, .int 0, .int 0, .int (-1)]))) := by
  refine am_Mof (L0 := [some (.ref a), some (.int x0), some (.int x1), some (.int x2)]) pl_Ho_new (am_k1 rfl (am_k1 rfl (am_k1 rfl (am_k1 rfl am_k0)))) (Nat.le_of_ble_eq_true rfl) rfl ?_
  refine am_aload_n d_Ho_new_0 rfl (by first | exact am_rvR _ | exact am_rvN | assumption) ?_
  refine am_objInit d_Ho_new_1 o_Ho_3 o_hi o_hc (by decide) (Nat.le_of_ble_eq_true rfl) ?_
  refine am_aload_n d_Ho_new_4 rfl (by first | exact am_rvR _ | exact am_rvN | assumption) ?_
  refine am_iload_n d_Ho_new_5 rfl ?_
  refine am_put _ d_Ho_new_6 f_Ho_9 p_Ho_9 (by first | assumption | exact am_up_at _ _ _ _) (by first | decide | omega) (by first | rfl | exact am_b_nar _) (by first | rfl | exact am_b_fit _) ?_
  refine am_aload_n d_Ho_new_9 rfl (by first | exact am_rvR _ | exact am_rvN | assumption) ?_
  refine am_iload_n d_Ho_new_10 rfl ?_
  refine am_put _ d_Ho_new_11 f_Ho_15 p_Ho_15 (by first | assumption | exact am_up_at _ _ _ _) (by first | decide | omega) (by first | rfl | exact am_b_nar _) (by first | rfl | exact am_b_fit _) ?_
  refine am_aload_n d_Ho_new_14 rfl (by first | exact am_rvR _ | exact am_rvN | assumption) ?_
  refine am_iload_n d_Ho_new_15 rfl ?_
  refine am_put _ d_Ho_new_16 f_Ho_18 p_Ho_18 (by first | assumption | exact am_up_at _ _ _ _) (by first | decide | omega) (by first | rfl | exact am_b_nar _) (by first | rfl | exact am_b_fit _) ?_
  refine am_aload_n d_Ho_new_19 rfl (by first | exact am_rvR _ | exact am_rvN | assumption) ?_
  refine am_iconst (v := nI 0) d_Ho_new_20 (by decide) ?_
  refine am_put _ d_Ho_new_21 f_Ho_21 (p_Ho_21 _) (by first | assumption | exact am_up_at _ _ _ _) (by first | decide | omega) (by first | rfl | exact am_b_nar _) (by first | rfl | exact am_b_fit _) ?_
  refine am_aload_n d_Ho_new_24 rfl (by first | exact am_rvR _ | exact am_rvN | assumption) ?_
  refine am_iconst (v := nI 0) d_Ho_new_25 (by decide) ?_
  refine am_put _ d_Ho_new_26 f_Ho_24 (p_Ho_24 _) (by first | assumption | exact am_up_at _ _ _ _) (by first | decide | omega) (by first | rfl | exact am_b_nar _) (by first | rfl | exact am_b_fit _) ?_
  refine am_aload_n d_Ho_new_29 rfl (by first | exact am_rvR _ | exact am_rvN | assumption) ?_
  refine am_iconst (v := (-1)) d_Ho_new_30 (by decide) ?_
  refine am_put _ d_Ho_new_31 f_Ho_27 (p_Ho_27 _) (by first | assumption | exact am_up_at _ _ _ _) (by first | decide | omega) (by first | rfl | exact am_b_nar _) (by first | rfl | exact am_b_fit _) ?_
  refine am_vret d_Ho_new_34 rfl ?_
  exact ⟨rfl, by simp only [am_up_up]; rfl⟩
theorem mk_Fr {a t : Nat} (ht : t ≠ 0) (ha : S.1 a = some (t, .inr (am_cFr, [.null, .int 0]))) {u : Value} (hu : am_rv u) (hc : u.category = 1) (x : Int32) : am_M g y_Fr_new "(LFlowFabric$Datagram;I)V" 1 14 [.ref a, u, .int x] S (fun v S' => v = none ∧ S' = am_up S a t (.inr (am_cFr, [u, .int x]))) := by
  have hn : narrow (.object "FlowFabric$Datagram") u = u := by rcases hu with rfl | ⟨b, rfl⟩ <;> rfl
  have hf : fits (.object "FlowFabric$Datagram") u = true := by rcases hu with rfl | ⟨b, rfl⟩ <;> rfl
  refine am_Mof (L0 := [some (.ref a), some (u), some (.int x)]) pl_Fr_new (am_k1 rfl (am_k1 hc (am_k1 rfl am_k0))) (Nat.le_of_ble_eq_true rfl) rfl ?_
  refine am_aload_n d_Fr_new_0 rfl (by first | exact am_rvR _ | exact am_rvN | assumption) ?_
  refine am_objInit d_Fr_new_1 o_Fr_3 o_hi o_hc (by decide) (Nat.le_of_ble_eq_true rfl) ?_
  refine am_aload_n d_Fr_new_4 rfl (by first | exact am_rvR _ | exact am_rvN | assumption) ?_
  refine am_aload_n d_Fr_new_5 rfl (by first | exact am_rvR _ | exact am_rvN | assumption) ?_
  refine am_put _ d_Fr_new_6 f_Fr_9 p_Fr_9 ha ht hn hf ?_
  refine am_aload_n d_Fr_new_9 rfl (by first | exact am_rvR _ | exact am_rvN | assumption) ?_
  refine am_iload_n d_Fr_new_10 rfl ?_
  refine am_put _ d_Fr_new_11 f_Fr_15 p_Fr_15 (by first | assumption | exact am_up_at _ _ _ _) (by first | decide | omega) (by first | rfl | exact am_b_nar _) (by first | rfl | exact am_b_fit _) ?_
  refine am_vret d_Fr_new_14 rfl ?_
  exact ⟨rfl, by simp only [am_up_up]; rfl⟩
end MDE
