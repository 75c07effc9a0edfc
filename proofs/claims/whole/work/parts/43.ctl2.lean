/-! the class: ways of courses, clearing, leading -/
section CTB
variable {g : am_G} {e nw ns room idle : Nat} {A : Nat → Nat} {s : cl_S} {S : am_S}
theorem fc_any_take {way : List Int32} {p : Int32 → Bool} {k : Nat} (hk : k < way.length) (h : p (way.getD k 0) = true) : way.any p = true := by
  rw [List.any_eq_true]
  exact ⟨way.getD k 0, by rw [List.getD_eq_getElem?_getD, List.getElem?_eq_getElem hk]; exact List.getElem_mem hk, h⟩
theorem fc_any_no {way : List Int32} {p : Int32 → Bool} (h : ∀ j, j < way.length → p (way.getD j 0) = false) : way.any p = false := by
  rw [List.any_eq_false]
  intro x hx
  obtain ⟨j, hj⟩ := List.getElem?_of_mem hx
  have h1 := (List.getElem?_eq_some_iff.mp hj).1
  have h2 := h j h1
  rw [List.getD_eq_getElem?_getD, hj] at h2
  simpa using h2
theorem co_out {a w : Nat} {kv : Value} {f t st wv aw ld : Int32} (ho : cl_cow a w kv f t st wv aw ld S) {way : List Int32} (hw : S.1 w = some (0, .inl (am_kI, way.map Value.int))) (hl : way.length ≤ 5) (x : Int32) : am_M g y_Co_leadsOutOf "(I)Z" 0 0 [.ref a, .int x] S (fun v S' => v = some (.int (am_b (way.any (fun y => y == x)))) ∧ S' = S) := by
  have ho' : S.1 a = some (73, .inr (am_cCo, [.int f, .int t, .int st, .ref w, kv, .int wv, .int aw, .int ld])) := ho
  have key : ∀ (m k : Nat) (o5 : Option Value), k + m = way.length → (∀ j, j < k → (fun y => y == x) (way.getD j 0) = false) → am_W g y_Co_leadsOutOf 0 0 (fun v S' => v = some (.int (am_b (way.any (fun y => y == x)))) ∧ S' = S) 11 [some (.ref a), some (.int x), some (.ref w), some (.int (nI way.length)), some (.int (nI k)), o5] [] S := by
    intro m
    induction m with
    | zero =>
      intro k o5 hk hj
      have ek : k = way.length := by omega
      subst ek
      refine am_iload d_Co_leadsOutOf_11 rfl ?_
      refine am_iload_n d_Co_leadsOutOf_13 rfl ?_
      refine am_icmp_geN (tgt := 37) d_Co_leadsOutOf_14 (by decide) (by omega) (by omega) (fun _ => ?_) (fun q => absurd q (by omega))
      refine am_iconst (v := nI 0) d_Co_leadsOutOf_37 (by decide) ?_
      refine am_iret d_Co_leadsOutOf_38 rfl (by first | rfl | exact am_b_nar _) ?_
      exact ⟨am_bf (fc_any_no hj), rfl⟩
    | succ m ih =>
      intro k o5 hk hj
      refine am_iload d_Co_leadsOutOf_11 rfl ?_
      refine am_iload_n d_Co_leadsOutOf_13 rfl ?_
      refine am_icmp_geN (tgt := 37) d_Co_leadsOutOf_14 (by decide) (by omega) (by omega) (fun q => absurd q (by omega)) (fun _ => ?_)
      refine am_aload_n d_Co_leadsOutOf_17 rfl (by first | exact am_rvR _ | exact am_rvN | assumption) ?_
      refine am_iload d_Co_leadsOutOf_18 rfl ?_
      refine am_iald (j := k) d_Co_leadsOutOf_20 am_kI_ok hw rfl (cl_fld (by omega)) (by simp; omega) ?_
      refine am_istore (L1 := [_, _, _, _, _, _]) d_Co_leadsOutOf_21 (by decide) rfl ?_
      refine am_iload d_Co_leadsOutOf_23 rfl ?_
      refine am_iload_n d_Co_leadsOutOf_25 rfl ?_
      first | refine am_icmp_neN (tgt := 31) d_Co_leadsOutOf_26 (by decide) (by omega) (by omega) (fun q1 => ?_) (fun q1 => ?_) | refine am_icmp_ne (tgt := 31) d_Co_leadsOutOf_26 (by decide) (fun q1 => ?_) (fun q1 => ?_)
      · first | refine am_iincN (b := 1) (L1 := [_, _, _, _, _, _]) d_Co_leadsOutOf_31 rfl (by decide) (by decide) rfl ?_ | refine am_iinc (L1 := [_, _, _, _, _, _]) d_Co_leadsOutOf_31 rfl rfl (by decide) rfl ?_
        refine am_goto (tgt := 11) d_Co_leadsOutOf_34 (by decide) ?_
        refine ih (k + 1) _ (by omega) (fun j hj2 => ?_)
        by_cases ej : j = k
        · subst ej
          simpa using q1
        · exact hj j (by omega)
      · refine am_iconst (v := nI 1) d_Co_leadsOutOf_29 (by decide) ?_
        refine am_iret d_Co_leadsOutOf_30 rfl (by first | rfl | exact am_b_nar _) ?_
        exact ⟨am_bt (fc_any_take (k := k) (by omega) (by simpa using q1)), rfl⟩
  refine am_Mof (L0 := [some (.ref a), some (.int x), none, none, none, none]) pl_Co_leadsOutOf (am_k1 rfl (am_k1 rfl am_k0)) (Nat.le_of_ble_eq_true rfl) rfl ?_
  refine am_aload_n d_Co_leadsOutOf_0 rfl (by first | exact am_rvR _ | exact am_rvN | assumption) ?_
  refine am_get d_Co_leadsOutOf_1 f_Co_25 ho' (by rfl) ?_
  refine am_astore_n (L1 := [_, _, _, _, _, _]) d_Co_leadsOutOf_4 (by decide) (by first | exact am_rvR _ | exact am_rvN | assumption) rfl ?_
  refine am_aload_n d_Co_leadsOutOf_5 rfl (by first | exact am_rvR _ | exact am_rvN | assumption) ?_
  refine am_alen (v := nI way.length) d_Co_leadsOutOf_6 am_kI_ok hw (by simp; rfl) ?_
  refine am_istore_n (L1 := [_, _, _, _, _, _]) d_Co_leadsOutOf_7 (by decide) rfl ?_
  refine am_iconst (v := nI 0) d_Co_leadsOutOf_8 (by decide) ?_
  refine am_istore (L1 := [_, _, _, _, _, _]) d_Co_leadsOutOf_9 (by decide) rfl ?_
  exact key _ 0 _ (Nat.zero_add _) (fun j h => absurd h (Nat.not_lt_zero _))
theorem co_pass {a w : Nat} {kv : Value} {f t st wv aw ld : Int32} (ho : cl_cow a w kv f t st wv aw ld S) {way : List Int32} (hw : S.1 w = some (0, .inl (am_kI, way.map Value.int))) (hl : way.length ≤ 5) {i : Nat} (hi : i < 5) (he : ∀ y ∈ way, ∃ m, m < 20 ∧ y = nI m) : am_M g y_Co_passes "(I)Z" 1 20 [.ref a, .int (nI i)] S (fun v S' => v = some (.int (am_b (way.any (fun y => y.toNatClampNeg / 4 == i)))) ∧ S' = S) := by
  have ho' : S.1 a = some (73, .inr (am_cCo, [.int f, .int t, .int st, .ref w, kv, .int wv, .int aw, .int ld])) := ho
  have key : ∀ (m k : Nat) (o5 : Option Value), k + m = way.length → (∀ j, j < k → (fun y => y.toNatClampNeg / 4 == i) (way.getD j 0) = false) → am_W g y_Co_passes 1 20 (fun v S' => v = some (.int (am_b (way.any (fun y => y.toNatClampNeg / 4 == i)))) ∧ S' = S) 11 [some (.ref a), some (.int (nI i)), some (.ref w), some (.int (nI way.length)), some (.int (nI k)), o5] [] S := by
    intro m
    induction m with
    | zero =>
      intro k o5 hk hj
      have ek : k = way.length := by omega
      subst ek
      refine am_iload d_Co_passes_11 rfl ?_
      refine am_iload_n d_Co_passes_13 rfl ?_
      refine am_icmp_geN (tgt := 40) d_Co_passes_14 (by decide) (by omega) (by omega) (fun _ => ?_) (fun q => absurd q (by omega))
      refine am_iconst (v := nI 0) d_Co_passes_40 (by decide) ?_
      refine am_iret d_Co_passes_41 rfl (by first | rfl | exact am_b_nar _) ?_
      exact ⟨am_bf (fc_any_no hj), rfl⟩
    | succ m ih =>
      intro k o5 hk hj
      obtain ⟨mm, hmm, em⟩ := he (way.getD k 0) (by rw [List.getD_eq_getElem?_getD, List.getElem?_eq_getElem (show k < way.length by omega)]; exact List.getElem_mem _)
      refine am_iload d_Co_passes_11 rfl ?_
      refine am_iload_n d_Co_passes_13 rfl ?_
      refine am_icmp_geN (tgt := 40) d_Co_passes_14 (by decide) (by omega) (by omega) (fun q => absurd q (by omega)) (fun _ => ?_)
      refine am_aload_n d_Co_passes_17 rfl (by first | exact am_rvR _ | exact am_rvN | assumption) ?_
      refine am_iload d_Co_passes_18 rfl ?_
      refine am_iald (j := k) d_Co_passes_20 am_kI_ok hw rfl (cl_fld (by omega)) (by simp; omega) ?_
      rw [em]
      refine am_istore (L1 := [_, _, _, _, _, _]) d_Co_passes_21 (by decide) rfl ?_
      refine am_iload d_Co_passes_23 rfl ?_
      refine am_cS d_Co_passes_25 s_Co_41 (vs := [.int (nI mm)]) (st := []) rfl rfl (by decide) (Nat.le_of_ble_eq_true rfl) (ff_switchOf (by omega)) ?_
      rintro v S2 ⟨rfl, rfl⟩
      refine am_iload_n d_Co_passes_28 rfl ?_
      first | refine am_icmp_neN (tgt := 34) d_Co_passes_29 (by decide) (by omega) (by omega) (fun q1 => ?_) (fun q1 => ?_) | refine am_icmp_ne (tgt := 34) d_Co_passes_29 (by decide) (fun q1 => ?_) (fun q1 => ?_)
      · first | refine am_iincN (b := 1) (L1 := [_, _, _, _, _, _]) d_Co_passes_34 rfl (by decide) (by decide) rfl ?_ | refine am_iinc (L1 := [_, _, _, _, _, _]) d_Co_passes_34 rfl rfl (by decide) rfl ?_
        refine am_goto (tgt := 11) d_Co_passes_37 (by decide) ?_
        refine ih (k + 1) _ (by omega) (fun j hj2 => ?_)
        by_cases ej : j = k
        · subst ej
          show ((way.getD j 0).toNatClampNeg / 4 == i) = false
          rw [em, nI_clamp (by omega)]
          simpa using q1
        · exact hj j (by omega)
      · refine am_iconst (v := nI 1) d_Co_passes_32 (by decide) ?_
        refine am_iret d_Co_passes_33 rfl (by first | rfl | exact am_b_nar _) ?_
        refine ⟨am_bt (fc_any_take (k := k) (by omega) ?_), rfl⟩
        show ((way.getD k 0).toNatClampNeg / 4 == i) = true
        rw [em, nI_clamp (by omega)]
        simpa using q1
  refine am_Mof (L0 := [some (.ref a), some (.int (nI i)), none, none, none, none]) pl_Co_passes (am_k1 rfl (am_k1 rfl am_k0)) (Nat.le_of_ble_eq_true rfl) rfl ?_
  refine am_aload_n d_Co_passes_0 rfl (by first | exact am_rvR _ | exact am_rvN | assumption) ?_
  refine am_get d_Co_passes_1 f_Co_25 ho' (by rfl) ?_
  refine am_astore_n (L1 := [_, _, _, _, _, _]) d_Co_passes_4 (by decide) (by first | exact am_rvR _ | exact am_rvN | assumption) rfl ?_
  refine am_aload_n d_Co_passes_5 rfl (by first | exact am_rvR _ | exact am_rvN | assumption) ?_
  refine am_alen (v := nI way.length) d_Co_passes_6 am_kI_ok hw (by simp; rfl) ?_
  refine am_istore_n (L1 := [_, _, _, _, _, _]) d_Co_passes_7 (by decide) rfl ?_
  refine am_iconst (v := nI 0) d_Co_passes_8 (by decide) ?_
  refine am_istore (L1 := [_, _, _, _, _, _]) d_Co_passes_9 (by decide) rfl ?_
  exact key _ 0 _ (Nat.zero_add _) (fun j h => absurd h (Nat.not_lt_zero _))
theorem co_begin {a w : Nat} {kv : Value} {f t st wv aw ld : Int32} (ho : cl_cow a w kv f t st wv aw ld S) {w2 : Nat} {way : List Int32} (hw : S.1 w2 = some (0, .inl (am_kI, way.map Value.int))) : am_M g y_Co_beginLaying "([I)V" 0 0 [.ref a, .ref w2] S (fun v S' => v = none ∧ S' = am_up S a 73 (.inr (am_cCo, [.int f, .int t, .int 2, .ref w2, kv, .int wv, .int aw, .int (nI way.length)]))) := by
  have ho' : S.1 a = some (73, .inr (am_cCo, [.int f, .int t, .int st, .ref w, kv, .int wv, .int aw, .int ld])) := ho
  refine am_Mof (L0 := [some (.ref a), some (.ref w2)]) pl_Co_beginLaying (am_k1 rfl (am_k1 rfl am_k0)) (Nat.le_of_ble_eq_true rfl) rfl ?_
  refine am_aload_n d_Co_beginLaying_0 rfl (by first | exact am_rvR _ | exact am_rvN | assumption) ?_
  refine am_iconst (v := 2) d_Co_beginLaying_1 (by decide) ?_
  refine am_put _ d_Co_beginLaying_2 f_Co_18 (p_Co_18 _) ho' (by decide) rfl rfl ?_
  refine am_aload_n d_Co_beginLaying_5 rfl (by first | exact am_rvR _ | exact am_rvN | assumption) ?_
  refine am_aload_n d_Co_beginLaying_6 rfl (by first | exact am_rvR _ | exact am_rvN | assumption) ?_
  refine am_put _ d_Co_beginLaying_7 f_Co_25 (p_Co_25 _) (am_up_at _ _ _ _) (by decide) rfl rfl ?_
  rw [am_up_up]
  refine am_aload_n d_Co_beginLaying_10 rfl (by first | exact am_rvR _ | exact am_rvN | assumption) ?_
  refine am_aload_n d_Co_beginLaying_11 rfl (by first | exact am_rvR _ | exact am_rvN | assumption) ?_
  refine am_alen (v := nI way.length) d_Co_beginLaying_12 am_kI_ok (am_up_tag hw ho' (by decide)) (by simp; rfl) ?_
  refine am_put _ d_Co_beginLaying_13 f_Co_38 (p_Co_38 _) (am_up_at _ _ _ _) (by decide) rfl rfl ?_
  refine am_vret d_Co_beginLaying_16 rfl ?_
  exact ⟨rfl, by rw [am_up_up]; rfl⟩
/-- the rows as a course is being cleared, j switches told -/
def fc_cb (s : fc_S) (k : Nat) : fc_S := fc_put (fc_put (fc_put (fc_put s 2 0 0 (fc_get s 2 0 0 + 1)) 7 k 2 1) 7 k 3 (fc_get s 2 0 0 + 1)) 7 k 4 (nI (fc_way s k).length)
def fc_cj (s : fc_S) (k j : Nat) : fc_S := ((fc_way s k).take j).foldl (fun u e => fc_ord (fc_ord u e [1, -1, fc_get s 7 k 0, fc_get s 7 k 1, 0]) e [2, fc_get s 2 0 0 + 1, -1, -1, 0]) (fc_cb s k)
theorem fc_cj_0 (s : fc_S) (k : Nat) : fc_cj s k 0 = fc_cb s k := rfl
theorem fc_cj_n (s : fc_S) (k : Nat) : fc_cj s k (fc_way s k).length = fc_clr s k := by
  unfold fc_cj fc_clr
  rw [List.take_length]
  rfl
theorem fc_cj_s {s : fc_S} {k j : Nat} {x : Int32} (hx : (fc_way s k)[j]? = some x) : fc_cj s k (j + 1) = fc_ord (fc_ord (fc_cj s k j) x [1, -1, fc_get s 7 k 0, fc_get s 7 k 1, 0]) x [2, fc_get s 2 0 0 + 1, -1, -1, 0] := by
  unfold fc_cj
  rw [List.take_add_one, hx, List.foldl_append]
  rfl
theorem fc_ord_len (s : fc_S) (x : Int32) (row : List Int32) (c : Nat) : (s c).length ≤ (fc_ord s x row c).length := by
  unfold fc_ord fc_add
  rw [fc_up_at]
  split
  · next h => subst h; simp
  · exact Nat.le_refl _
theorem fc_cj_mono (s : fc_S) (k c : Nat) : ∀ {j m : Nat}, j + m = (fc_way s k).length → (fc_cj s k j c).length ≤ (fc_clr s k c).length
  | j, 0, h => by rw [← fc_cj_n, show j = (fc_way s k).length by omega]; exact Nat.le_refl _
  | j, m + 1, h => by
    have hx := List.getElem?_eq_getElem (l := fc_way s k) (i := j) (by omega)
    have h1 := fc_cj_mono s k c (j := j + 1) (m := m) (by omega)
    rw [fc_cj_s hx] at h1
    exact Nat.le_trans (fc_ord_len _ _ _ c) (Nat.le_trans (fc_ord_len _ _ _ c) h1)
theorem fc_cb_eq {s : fc_S} {k : Nat} {f t st wv aw ld kp kn x0 : Int32} {way : List Int32} (hr : (s 7)[k]? = some ([f, t, st, wv, aw, ld, kp, kn] ++ way)) (h2 : s 2 = [[x0]]) : fc_cb s k = fc_up (fc_put s 2 0 0 (x0 + 1)) 7 ((s 7).set k ([f, t, 1, x0 + 1, nI way.length, ld, kp, kn] ++ way)) ∧ fc_way s k = way ∧ fc_get s 2 0 0 = x0 ∧ fc_get s 7 k 0 = f ∧ fc_get s 7 k 1 = t := by
  have g2 : fc_get s 2 0 0 = x0 := by unfold fc_get; rw [h2]; rfl
  have gw : fc_way s k = way := by unfold fc_way; rw [List.getD_eq_getElem?_getD, hr]; rfl
  refine ⟨?_, gw, g2, fc_get_row hr 0, fc_get_row hr 1⟩
  have e7 : ∀ x, fc_put s 2 0 0 x 7 = s 7 := fun x => fc_put_ne _ _ _ (by omega)
  unfold fc_cb
  rw [g2, gw]
  have hr' : (fc_put s 2 0 0 (x0 + 1) 7)[k]? = some ([f, t, st, wv, aw, ld, kp, kn] ++ way) := by rw [e7]; exact hr
  have hk := (List.getElem?_eq_some_iff.mp hr').1
  rw [fc_put2 hr']
  have hr2 : (fc_up (fc_put s 2 0 0 (x0 + 1)) 7 ((fc_put s 2 0 0 (x0 + 1) 7).set k ((([f, t, st, wv, aw, ld, kp, kn] ++ way).set 2 1).set 3 (x0 + 1))) 7)[k]? = some ((([f, t, st, wv, aw, ld, kp, kn] ++ way).set 2 1).set 3 (x0 + 1)) := by rw [fc_up_same, List.getElem?_set_self hk]
  rw [fc_put1 hr2, fc_up_same, List.set_set, e7]
  funext q
  simp only [fc_up_at]
  by_cases e : q = 7
  · simp only [e, if_true]
    rfl
  · simp only [e, if_false]
end CTB
