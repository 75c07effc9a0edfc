/-! the class: the nodes at the start -/
section CIC
variable {g : am_G} {e nw ns room idle : Nat} {A : Nat → Nat} {s : cl_S} {S : am_S}
theorem ci_nd.keep {i z : Nat} {S S' : am_S} (h : ci_nd e i z S) (hk : ∀ (b u : Nat) (x : am_K), S.1 b = some (u, x) → z ≤ b → b < z + 13 → S'.1 b = some (u, x)) : ci_nd e i z S' := by
  obtain ⟨h1, h2, h3, h4, h5, h6⟩ := h
  exact ⟨hk _ _ _ h1 (by omega) (by omega), fun p hp => ⟨hk _ _ _ (h2 p hp).1 (by omega) (by omega), hk _ _ _ (h2 p hp).2 (by omega) (by omega)⟩, hk _ _ _ h3 (by omega) (by omega), hk _ _ _ h4 (by omega) (by omega), hk _ _ _ h5 (by omega) (by omega), hk _ _ _ h6 (by omega) (by omega)⟩
def ci_row (z0 ns k : Nat) : List Value := (List.range k).map (fun j => Value.ref (z0 + 1 + 14 * j)) ++ List.replicate (ns - k) Value.null
theorem ci_row_len {z0 ns k : Nat} (h : k ≤ ns) : (ci_row z0 ns k).length = ns := by unfold ci_row; simp; omega
theorem ci_row_set {z0 ns k : Nat} (h : k < ns) : (ci_row z0 ns k).set k (.ref (z0 + 1 + 14 * k)) = ci_row z0 ns (k + 1) := by
  unfold ci_row
  rw [List.set_append_right _ _ (by simp), show ns - k = (ns - (k + 1)) + 1 by omega, List.replicate_succ, List.range_succ, List.map_append]
  simp
/-- k nodes are made -/
def ci_N (e ns rm z0 n0 k : Nat) (S0 S1 : am_S) : Prop := am_ok S1 ∧ (S1.2.1 = z0 + 1 + 14 * k ∧ S1.2.2 = n0 + 51 * k) ∧ S1.1 z0 = some (9997, .inl (am_kN, ci_row z0 ns k)) ∧
  (∀ j, j < k → S1.1 (z0 + 1 + 14 * j) = some (0, .inr (am_cNd, [.int (nI j), .int (nI rm), .ref (z0 + 2 + 14 * j), .ref (z0 + 2 + 14 * j + 9), .ref (z0 + 2 + 14 * j + 10), .ref (z0 + 2 + 14 * j + 11), .ref (z0 + 2 + 14 * j + 12)])) ∧ ci_nd e j (z0 + 2 + 14 * j) S1) ∧ ∀ (b u : Nat) (x : am_K), S0.1 b = some (u, x) → S1.1 b = some (u, x)
theorem ci_N.next {rm z0 n0 k : Nat} {S0 S1 S4 : am_S} (H : ci_N e ns rm z0 n0 k S0 S1) (hk : k < ns) (o0 : am_ok S0) (hz : S0.2.1 = z0) (o4 : am_ok S4) (y4 : S4.2.1 = z0 + 1 + 14 * k + 14) (x4 : S4.2.2 = n0 + 51 * k + 51) (hnd : S4.1 (z0 + 1 + 14 * k) = some (0, .inr (am_cNd, [.int (nI k), .int (nI rm), .ref (z0 + 2 + 14 * k), .ref (z0 + 2 + 14 * k + 9), .ref (z0 + 2 + 14 * k + 10), .ref (z0 + 2 + 14 * k + 11), .ref (z0 + 2 + 14 * k + 12)]))) (hci : ci_nd e k (z0 + 2 + 14 * k) S4) (hold : ∀ (b u : Nat) (x : am_K), S1.1 b = some (u, x) → S4.1 b = some (u, x)) :
    ci_N e ns rm z0 n0 (k + 1) S0 (am_up S4 z0 9997 (.inl (am_kN, (ci_row z0 ns k).set k (.ref (z0 + 1 + 14 * k))))) := by
  obtain ⟨o1, ⟨y1, x1⟩, hrow, hnds, hold1⟩ := H
  have hr4 := hold _ _ _ hrow
  have ne : ∀ (b u : Nat) (x : am_K), S4.1 b = some (u, x) → b ≠ z0 → (am_up S4 z0 9997 (.inl (am_kN, (ci_row z0 ns k).set k (.ref (z0 + 1 + 14 * k))))).1 b = some (u, x) := fun b u x h hne => by rw [am_up_ne _ _ _ hne]; exact h
  refine ⟨(am_fr.up (X := fun _ => True) hr4 trivial).2.2.2 o4, ⟨by show S4.2.1 = _; omega, by show S4.2.2 = _; omega⟩, by rw [am_up_at, ci_row_set hk], fun j hj => ?_, fun b u x hb => ne _ _ _ (hold _ _ _ (hold1 _ _ _ hb)) (by have := o0 _ _ hb; omega)⟩
  by_cases e1 : j = k
  · subst e1
    exact ⟨ne _ _ _ hnd (by omega), hci.keep (fun b u x h h1 h2 => ne _ _ _ h (by omega))⟩
  · obtain ⟨g1, g2⟩ := hnds j (by omega)
    exact ⟨ne _ _ _ (hold _ _ _ g1) (by omega), g2.keep (fun b u x h h1 h2 => ne _ _ _ (hold _ _ _ h) (by omega))⟩
theorem mk_FF1 (hn : ns ≤ 5) (he : am_gE g e) {a z0 n0 rm : Nat} {xx yy zz : Int32} {S0 : am_S} (hrm : (if (1 : Int32) < (if yy < 8 then yy else 8) then (if yy < 8 then yy else 8) else 1) = nI rm) (o0 : am_ok S0) (hz : S0.2.1 = z0) {post : Option Value → am_S → Prop} (K : ∀ S1, ci_N e ns rm z0 n0 ns S0 S1 → am_W g y_FF_new 6 117 post 53 [some (.ref a), some (.int xx), some (.int yy), some (.int zz), some (.ref z0), some (.int (nI ns))] [] S1) : ∀ (m k : Nat) (S1 : am_S), k + m = ns → ci_N e ns rm z0 n0 k S0 S1 → am_W g y_FF_new 6 117 post 18 [some (.ref a), some (.int xx), some (.int yy), some (.int zz), some (.ref z0), some (.int (nI k))] [] S1 := by
  intro m
  induction m with
  | zero =>
    intro k S1 hk H
    have ek : k = ns := by omega
    subst ek
    have hrow := H.2.2.1
    refine am_iload d_FF_new_18 rfl ?_
    refine am_aload d_FF_new_20 rfl (by first | exact am_rvR _ | exact am_rvN | assumption) ?_
    refine am_alen (v := nI k) d_FF_new_22 am_kN_ok hrow (by rw [ci_row_len (by omega)]; rfl) ?_
    refine am_icmp_geN (tgt := 53) d_FF_new_23 (by decide) (by omega) (by omega) (fun _ => ?_) (fun q => absurd q (by omega))
    exact K S1 H
  | succ m ih =>
    intro k S1 hk H
    have hrow := H.2.2.1
    have o1 := H.1
    obtain ⟨y1, x1⟩ := H.2.1
    refine am_iload d_FF_new_18 rfl ?_
    refine am_aload d_FF_new_20 rfl (by first | exact am_rvR _ | exact am_rvN | assumption) ?_
    refine am_alen (v := nI ns) d_FF_new_22 am_kN_ok hrow (by rw [ci_row_len (by omega)]; rfl) ?_
    refine am_icmp_geN (tgt := 53) d_FF_new_23 (by decide) (by omega) (by omega) (fun q => absurd q (by omega)) (fun _ => ?_)
    refine am_aload d_FF_new_26 rfl (by first | exact am_rvR _ | exact am_rvN | assumption) ?_
    refine am_iload d_FF_new_28 rfl ?_
    refine am_nw 9999 d_FF_new_30 n_FF_13 df_Nd ?_
    have hb0 := am_mk_at S1 9999 7 (.inr (am_cNd, [.int 0, .int 0, .null, .null, .null, .null, .null]))
    have o2 : am_ok (am_mk S1 9999 7 (.inr (am_cNd, [.int 0, .int 0, .null, .null, .null, .null, .null]))) := (am_fr.mk (fun _ => False) _ _ _ o1).2.2.2 o1
    refine am_dup d_FF_new_33 rfl ?_
    refine am_iload d_FF_new_34 rfl ?_
    refine am_iload_n d_FF_new_36 rfl ?_
    refine am_iconst (v := (1)) d_FF_new_37 (by decide) ?_
    refine am_bipush (v := (8)) d_FF_new_38 (by decide) ?_
    refine am_cS d_FF_new_40 s_FF_7 (vs := [.int yy, .int 1, .int 8]) (st := [.int (nI k), .ref S1.2.1, .ref S1.2.1, .int (nI k), .ref z0]) rfl rfl (by decide) (Nat.le_of_ble_eq_true rfl) (ff_within yy 1 8) ?_
    rintro v S9 ⟨rfl, hS9⟩
    rw [hS9, hrm]
    refine am_cI (b := S1.2.1) d_FF_new_43 i_FF_15 (vs := [.int (nI k), .int (nI rm)]) (st := [.ref S1.2.1, .int (nI k), .ref z0]) rfl rfl (by decide) (Nat.le_of_ble_eq_true rfl) (mk_Nd he (i := k) (by omega) (nI rm) o2 hb0) ?_
    rintro v S3 ⟨rfl, ⟨y3, x3⟩, hnd, hci, o3, hold⟩
    replace y3 : S3.2.1 = S1.2.1 + 1 + 13 := y3
    replace x3 : S3.2.2 = S1.2.2 + 7 + 44 := x3
    replace hci : ci_nd e k (S1.2.1 + 1) S3 := hci
    replace hnd : S3.1 S1.2.1 = some (9999, .inr (am_cNd, [.int (nI k), .int (nI rm), .ref (S1.2.1 + 1), .ref (S1.2.1 + 1 + 9), .ref (S1.2.1 + 1 + 10), .ref (S1.2.1 + 1 + 11), .ref (S1.2.1 + 1 + 12)])) := hnd
    refine am_retag 0 hnd (by decide) ?_
    have hnd4 := am_up_at S3 S1.2.1 0 (.inr (am_cNd, [.int (nI k), .int (nI rm), .ref (S1.2.1 + 1), .ref (S1.2.1 + 1 + 9), .ref (S1.2.1 + 1 + 10), .ref (S1.2.1 + 1 + 11), .ref (S1.2.1 + 1 + 12)]))
    have o4 := (am_fr.up (X := fun _ => True) (t' := 0) (x' := .inr (am_cNd, [.int (nI k), .int (nI rm), .ref (S1.2.1 + 1), .ref (S1.2.1 + 1 + 9), .ref (S1.2.1 + 1 + 10), .ref (S1.2.1 + 1 + 11), .ref (S1.2.1 + 1 + 12)])) hnd trivial).2.2.2 o3
    obtain ⟨S4, eS4⟩ : ∃ q, q = am_up S3 S1.2.1 0 (.inr (am_cNd, [.int (nI k), .int (nI rm), .ref (S1.2.1 + 1), .ref (S1.2.1 + 1 + 9), .ref (S1.2.1 + 1 + 10), .ref (S1.2.1 + 1 + 11), .ref (S1.2.1 + 1 + 12)])) := ⟨_, rfl⟩
    have hold4 : ∀ (b u : Nat) (x : am_K), S1.1 b = some (u, x) → S4.1 b = some (u, x) := fun b u x hb => by
      have hlt := o1 _ _ hb
      rw [eS4, am_up_ne _ _ _ (by omega)]
      exact hold b u x (am_mk_old hb o1) (by omega)
    have hci4 : ci_nd e k (S1.2.1 + 1) S4 := hci.keep (fun b u x h h1 h2 => by rw [eS4, am_up_ne _ _ _ (by omega)]; exact h)
    have y4 : S4.2.1 = S3.2.1 := by rw [eS4]; rfl
    have x4 : S4.2.2 = S3.2.2 := by rw [eS4]; rfl
    rw [← eS4] at hnd4 o4 ⊢
    have hrow4 := hold4 _ _ _ hrow
    rw [y1] at hnd4 hci4 ⊢
    rw [show z0 + 1 + 14 * k + 1 = z0 + 2 + 14 * k by omega] at hnd4 hci4
    refine am_aast (j := k) d_FF_new_46 am_kN_ok hrow4 (by decide) hnd4 (q := am_qNd) rfl (Or.inl rfl) rfl (by rw [ci_row_len (by omega)]; omega) (by rw [ci_row_len (by omega)]; omega) ?_
    first | refine am_iincN (b := 1) (L1 := [_, _, _, _, _, _]) d_FF_new_47 rfl (by decide) (by decide) rfl ?_ | refine am_iinc (L1 := [_, _, _, _, _, _]) d_FF_new_47 rfl rfl (by decide) rfl ?_
    refine am_goto (tgt := 18) d_FF_new_50 (by decide) ?_
    exact ih (k + 1) _ (by omega) (H.next (by omega) o0 hz o4 (by omega) (by omega) hnd4 hci4 hold4)
end CIC
