/-! the reference: lists, rules, courses -/
section REG
variable {g : am_G} {A : Nat → Nat} {r : fr_S}
/-- the first of n places from lo on that holds x -/
def fr_find (r : fr_S) (f lo n : Nat) (x : Int32) : Option Nat := (List.range n).find? (fun k => r.2 f (lo + k) == x)
theorem fr_find_some {r : fr_S} {f lo n k : Nat} {x : Int32} (hk : k < n) (h : ∀ j, j < k → r.2 f (lo + j) ≠ x) (e : r.2 f (lo + k) = x) : fr_find r f lo n x = some k := by
  unfold fr_find
  rw [List.find?_range_eq_some]
  exact ⟨by simp [e], List.mem_range.mpr hk, fun j hj => by simp [h j hj]⟩
theorem fr_find_none {r : fr_S} {f lo n : Nat} {x : Int32} (h : ∀ j, j < n → r.2 f (lo + j) ≠ x) : fr_find r f lo n x = none := by
  unfold fr_find
  rw [List.find?_range_eq_none]
  intro j hj
  simp [h j hj]
def fr_pos (o : Option Nat) (lo : Nat) : Int32 := match o with | none => -1 | some k => nI (lo + k)
/-- in the arrays of fs the places from lo on, m of them, take the values that lie dd behind -/
def fr_sh (r : fr_S) (fs : List Nat) (lo m dd : Nat) : fr_S := (r.1, fun q j => if q ∈ fs ∧ lo ≤ j ∧ j < lo + m then r.2 q (j + dd) else r.2 q j)
theorem fr_sh_0 (r : fr_S) (fs : List Nat) (lo dd : Nat) : fr_sh r fs lo 0 dd = r := by
  unfold fr_sh
  refine Prod.ext rfl ?_
  funext q j
  exact if_neg (fun h => by omega)
theorem fr_sh_at (r : fr_S) (fs : List Nat) (lo m dd q j : Nat) : (fr_sh r fs lo m dd).2 q j = if q ∈ fs ∧ lo ≤ j ∧ j < lo + m then r.2 q (j + dd) else r.2 q j := rfl
theorem fr_sh_s (r : fr_S) (fs : List Nat) (lo m dd : Nat) : (fr_sh r fs lo m dd).1 = r.1 := rfl
theorem fr_sh_out {r : fr_S} {fs : List Nat} {lo m dd q j : Nat} (h : lo + m ≤ j) : (fr_sh r fs lo m dd).2 q j = r.2 q j := if_neg (fun z => by omega)
theorem fr_sh_not {r : fr_S} {fs : List Nat} {lo m dd q j : Nat} (h : q ∉ fs) : (fr_sh r fs lo m dd).2 q j = r.2 q j := if_neg (fun z => h z.1)
theorem rf_tell {i n c : Nat} (hi : i < 5) (hn : r.2 25 (2 * i + 1) = nI n) (h60 : n < 60) (hc : c < 100) (x1 x2 x3 x4 : Int32) : gm_M (fr_P A) fr_X g y_M_tell "(IIIIII)V" 1 27 [.ref (A 44), .int (nI i), .int (nI c), .int x1, .int x2, .int x3, .int x4] (fun v r' => v = none ∧ r' = if (c ≠ 0 ∧ c ≠ 1) ∨ n < 8 then fr_add r (2 * i + 1) n (nI c) x1 x2 x3 x4 else r) r := by
  refine gm_Mof (L0 := [some (.ref (A 44)), some (.int (nI i)), some (.int (nI c)), some (.int x1), some (.int x2), some (.int x3), some (.int x4), none]) pl_M_tell (am_k1 rfl (am_k1 rfl (am_k1 rfl (am_k1 rfl (am_k1 rfl (am_k1 rfl (am_k1 rfl am_k0))))))) (Nat.le_of_ble_eq_true rfl) rfl ?_
  refine gm_iload_n d_M_tell_0 rfl ?_
  first | refine gm_if_eqB (tgt := 9) d_M_tell_1 (by decide) (fun q1 => ?_) (fun q1 => ?_) | refine gm_if_eqN (tgt := 9) d_M_tell_1 (by decide) (by omega) (fun q1 => ?_) (fun q1 => ?_) | refine gm_if_eq (tgt := 9) d_M_tell_1 (by decide) (fun q1 => ?_) (fun q1 => ?_)
  · refine gm_iconst (v := nI 1) d_M_tell_9 (by decide) ?_
    refine gm_goto (tgt := 14) d_M_tell_10 (by decide) ?_
    refine gm_istore (L1 := [_, _, _, _, _, _, _, _]) d_M_tell_14 (by decide) rfl ?_
    refine gm_iload d_M_tell_16 rfl ?_
    first | refine gm_if_eqB (tgt := 36) d_M_tell_18 (by decide) (fun q2 => ?_) (fun q2 => ?_) | refine gm_if_eqN (tgt := 36) d_M_tell_18 (by decide) (by omega) (fun q2 => ?_) (fun q2 => ?_) | refine gm_if_eq (tgt := 36) d_M_tell_18 (by decide) (fun q2 => ?_) (fun q2 => ?_)
    · refine gm_aload_n d_M_tell_36 rfl (by first | exact am_rvR _ | exact am_rvN | assumption) ?_
      refine gm_iconst (v := nI 2) d_M_tell_37 (by decide) ?_
      refine gm_iload_n d_M_tell_38 rfl ?_
      first | refine gm_imulN d_M_tell_39 ?_ | refine gm_imul d_M_tell_39 ?_
      refine gm_iconst (v := nI 1) d_M_tell_40 (by decide) ?_
      first | refine gm_iaddN d_M_tell_41 ?_ | refine gm_iadd d_M_tell_41 ?_
      refine gm_iload_n d_M_tell_42 rfl ?_
      refine gm_iload_n d_M_tell_43 rfl ?_
      refine gm_iload d_M_tell_44 rfl ?_
      refine gm_iload d_M_tell_46 rfl ?_
      refine gm_iload d_M_tell_48 rfl ?_
      refine gm_cV (b := A 44) d_M_tell_50 v_M_155 (vs := [.int (nI (2 * i + 1)), .int (nI c), .int x1, .int x2, .int x3, .int x4]) (st := []) rfl rfl (by decide) (Nat.le_of_ble_eq_true rfl) (fr_at _) (rf_add (by omega) hn h60 _ _ _ _ _) ?_
      rintro v r1 ⟨rfl, rfl⟩
      refine gm_vret d_M_tell_53 rfl ?_
      first | (exfalso; omega) | exact ⟨rfl, by rw [if_pos (by omega)]⟩ | exact ⟨rfl, by rw [if_neg (by omega)]⟩
    · refine gm_aload_n d_M_tell_21 rfl (by first | exact am_rvR _ | exact am_rvN | assumption) ?_
      refine fr_gA 25 d_M_tell_22 f_M_71 (by decide) (by decide) ?_
      refine gm_iconst (v := nI 2) d_M_tell_25 (by decide) ?_
      refine gm_iload_n d_M_tell_26 rfl ?_
      first | refine gm_imulN d_M_tell_27 ?_ | refine gm_imul d_M_tell_27 ?_
      refine gm_iconst (v := nI 1) d_M_tell_28 (by decide) ?_
      first | refine gm_iaddN d_M_tell_29 ?_ | refine gm_iadd d_M_tell_29 ?_
      refine fr_aldv d_M_tell_30 (by decide) rfl (show _ < 10 by omega) (by first | assumption | (simp only [fr_up_at, fr_up_s, fr_sc_at, fr_sc_a, Nat.reduceEqDiff, false_and, if_false, ite_false, reduceCtorEq]; first | assumption | rfl) | rfl) ?_
      refine gm_bipush (v := nI 8) d_M_tell_31 (by decide) ?_
      first | refine gm_icmp_geN (tgt := 53) d_M_tell_33 (by decide) (by omega) (by omega) (fun q3 => ?_) (fun q3 => ?_) | refine gm_icmp_ge (tgt := 53) d_M_tell_33 (by decide) (fun q3 => ?_) (fun q3 => ?_)
      · refine gm_vret d_M_tell_53 rfl ?_
        first | (exfalso; omega) | exact ⟨rfl, by rw [if_pos (by omega)]⟩ | exact ⟨rfl, by rw [if_neg (by omega)]⟩
      · refine gm_aload_n d_M_tell_36 rfl (by first | exact am_rvR _ | exact am_rvN | assumption) ?_
        refine gm_iconst (v := nI 2) d_M_tell_37 (by decide) ?_
        refine gm_iload_n d_M_tell_38 rfl ?_
        first | refine gm_imulN d_M_tell_39 ?_ | refine gm_imul d_M_tell_39 ?_
        refine gm_iconst (v := nI 1) d_M_tell_40 (by decide) ?_
        first | refine gm_iaddN d_M_tell_41 ?_ | refine gm_iadd d_M_tell_41 ?_
        refine gm_iload_n d_M_tell_42 rfl ?_
        refine gm_iload_n d_M_tell_43 rfl ?_
        refine gm_iload d_M_tell_44 rfl ?_
        refine gm_iload d_M_tell_46 rfl ?_
        refine gm_iload d_M_tell_48 rfl ?_
        refine gm_cV (b := A 44) d_M_tell_50 v_M_155 (vs := [.int (nI (2 * i + 1)), .int (nI c), .int x1, .int x2, .int x3, .int x4]) (st := []) rfl rfl (by decide) (Nat.le_of_ble_eq_true rfl) (fr_at _) (rf_add (by omega) hn h60 _ _ _ _ _) ?_
        rintro v r1 ⟨rfl, rfl⟩
        refine gm_vret d_M_tell_53 rfl ?_
        first | (exfalso; omega) | exact ⟨rfl, by rw [if_pos (by omega)]⟩ | exact ⟨rfl, by rw [if_neg (by omega)]⟩
  · refine gm_iload_n d_M_tell_4 rfl ?_
    refine gm_iconst (v := nI 1) d_M_tell_5 (by decide) ?_
    first | refine gm_icmp_neN (tgt := 13) d_M_tell_6 (by decide) (by omega) (by omega) (fun q4 => ?_) (fun q4 => ?_) | refine gm_icmp_ne (tgt := 13) d_M_tell_6 (by decide) (fun q4 => ?_) (fun q4 => ?_)
    · refine gm_iconst (v := nI 0) d_M_tell_13 (by decide) ?_
      refine gm_istore (L1 := [_, _, _, _, _, _, _, _]) d_M_tell_14 (by decide) rfl ?_
      refine gm_iload d_M_tell_16 rfl ?_
      first | refine gm_if_eqB (tgt := 36) d_M_tell_18 (by decide) (fun q5 => ?_) (fun q5 => ?_) | refine gm_if_eqN (tgt := 36) d_M_tell_18 (by decide) (by omega) (fun q5 => ?_) (fun q5 => ?_) | refine gm_if_eq (tgt := 36) d_M_tell_18 (by decide) (fun q5 => ?_) (fun q5 => ?_)
      · refine gm_aload_n d_M_tell_36 rfl (by first | exact am_rvR _ | exact am_rvN | assumption) ?_
        refine gm_iconst (v := nI 2) d_M_tell_37 (by decide) ?_
        refine gm_iload_n d_M_tell_38 rfl ?_
        first | refine gm_imulN d_M_tell_39 ?_ | refine gm_imul d_M_tell_39 ?_
        refine gm_iconst (v := nI 1) d_M_tell_40 (by decide) ?_
        first | refine gm_iaddN d_M_tell_41 ?_ | refine gm_iadd d_M_tell_41 ?_
        refine gm_iload_n d_M_tell_42 rfl ?_
        refine gm_iload_n d_M_tell_43 rfl ?_
        refine gm_iload d_M_tell_44 rfl ?_
        refine gm_iload d_M_tell_46 rfl ?_
        refine gm_iload d_M_tell_48 rfl ?_
        refine gm_cV (b := A 44) d_M_tell_50 v_M_155 (vs := [.int (nI (2 * i + 1)), .int (nI c), .int x1, .int x2, .int x3, .int x4]) (st := []) rfl rfl (by decide) (Nat.le_of_ble_eq_true rfl) (fr_at _) (rf_add (by omega) hn h60 _ _ _ _ _) ?_
        rintro v r1 ⟨rfl, rfl⟩
        refine gm_vret d_M_tell_53 rfl ?_
        first | (exfalso; omega) | exact ⟨rfl, by rw [if_pos (by omega)]⟩ | exact ⟨rfl, by rw [if_neg (by omega)]⟩
      · refine gm_aload_n d_M_tell_21 rfl (by first | exact am_rvR _ | exact am_rvN | assumption) ?_
        refine fr_gA 25 d_M_tell_22 f_M_71 (by decide) (by decide) ?_
        refine gm_iconst (v := nI 2) d_M_tell_25 (by decide) ?_
        refine gm_iload_n d_M_tell_26 rfl ?_
        first | refine gm_imulN d_M_tell_27 ?_ | refine gm_imul d_M_tell_27 ?_
        refine gm_iconst (v := nI 1) d_M_tell_28 (by decide) ?_
        first | refine gm_iaddN d_M_tell_29 ?_ | refine gm_iadd d_M_tell_29 ?_
        refine fr_aldv d_M_tell_30 (by decide) rfl (show _ < 10 by omega) (by first | assumption | (simp only [fr_up_at, fr_up_s, fr_sc_at, fr_sc_a, Nat.reduceEqDiff, false_and, if_false, ite_false, reduceCtorEq]; first | assumption | rfl) | rfl) ?_
        refine gm_bipush (v := nI 8) d_M_tell_31 (by decide) ?_
        first | refine gm_icmp_geN (tgt := 53) d_M_tell_33 (by decide) (by omega) (by omega) (fun q6 => ?_) (fun q6 => ?_) | refine gm_icmp_ge (tgt := 53) d_M_tell_33 (by decide) (fun q6 => ?_) (fun q6 => ?_)
        · refine gm_vret d_M_tell_53 rfl ?_
          first | (exfalso; omega) | exact ⟨rfl, by rw [if_pos (by omega)]⟩ | exact ⟨rfl, by rw [if_neg (by omega)]⟩
        · refine gm_aload_n d_M_tell_36 rfl (by first | exact am_rvR _ | exact am_rvN | assumption) ?_
          refine gm_iconst (v := nI 2) d_M_tell_37 (by decide) ?_
          refine gm_iload_n d_M_tell_38 rfl ?_
          first | refine gm_imulN d_M_tell_39 ?_ | refine gm_imul d_M_tell_39 ?_
          refine gm_iconst (v := nI 1) d_M_tell_40 (by decide) ?_
          first | refine gm_iaddN d_M_tell_41 ?_ | refine gm_iadd d_M_tell_41 ?_
          refine gm_iload_n d_M_tell_42 rfl ?_
          refine gm_iload_n d_M_tell_43 rfl ?_
          refine gm_iload d_M_tell_44 rfl ?_
          refine gm_iload d_M_tell_46 rfl ?_
          refine gm_iload d_M_tell_48 rfl ?_
          refine gm_cV (b := A 44) d_M_tell_50 v_M_155 (vs := [.int (nI (2 * i + 1)), .int (nI c), .int x1, .int x2, .int x3, .int x4]) (st := []) rfl rfl (by decide) (Nat.le_of_ble_eq_true rfl) (fr_at _) (rf_add (by omega) hn h60 _ _ _ _ _) ?_
          rintro v r1 ⟨rfl, rfl⟩
          refine gm_vret d_M_tell_53 rfl ?_
          first | (exfalso; omega) | exact ⟨rfl, by rw [if_pos (by omega)]⟩ | exact ⟨rfl, by rw [if_neg (by omega)]⟩
    · refine gm_iconst (v := nI 1) d_M_tell_9 (by decide) ?_
      refine gm_goto (tgt := 14) d_M_tell_10 (by decide) ?_
      refine gm_istore (L1 := [_, _, _, _, _, _, _, _]) d_M_tell_14 (by decide) rfl ?_
      refine gm_iload d_M_tell_16 rfl ?_
      first | refine gm_if_eqB (tgt := 36) d_M_tell_18 (by decide) (fun q7 => ?_) (fun q7 => ?_) | refine gm_if_eqN (tgt := 36) d_M_tell_18 (by decide) (by omega) (fun q7 => ?_) (fun q7 => ?_) | refine gm_if_eq (tgt := 36) d_M_tell_18 (by decide) (fun q7 => ?_) (fun q7 => ?_)
      · refine gm_aload_n d_M_tell_36 rfl (by first | exact am_rvR _ | exact am_rvN | assumption) ?_
        refine gm_iconst (v := nI 2) d_M_tell_37 (by decide) ?_
        refine gm_iload_n d_M_tell_38 rfl ?_
        first | refine gm_imulN d_M_tell_39 ?_ | refine gm_imul d_M_tell_39 ?_
        refine gm_iconst (v := nI 1) d_M_tell_40 (by decide) ?_
        first | refine gm_iaddN d_M_tell_41 ?_ | refine gm_iadd d_M_tell_41 ?_
        refine gm_iload_n d_M_tell_42 rfl ?_
        refine gm_iload_n d_M_tell_43 rfl ?_
        refine gm_iload d_M_tell_44 rfl ?_
        refine gm_iload d_M_tell_46 rfl ?_
        refine gm_iload d_M_tell_48 rfl ?_
        refine gm_cV (b := A 44) d_M_tell_50 v_M_155 (vs := [.int (nI (2 * i + 1)), .int (nI c), .int x1, .int x2, .int x3, .int x4]) (st := []) rfl rfl (by decide) (Nat.le_of_ble_eq_true rfl) (fr_at _) (rf_add (by omega) hn h60 _ _ _ _ _) ?_
        rintro v r1 ⟨rfl, rfl⟩
        refine gm_vret d_M_tell_53 rfl ?_
        first | (exfalso; omega) | exact ⟨rfl, by rw [if_pos (by omega)]⟩ | exact ⟨rfl, by rw [if_neg (by omega)]⟩
      · refine gm_aload_n d_M_tell_21 rfl (by first | exact am_rvR _ | exact am_rvN | assumption) ?_
        refine fr_gA 25 d_M_tell_22 f_M_71 (by decide) (by decide) ?_
        refine gm_iconst (v := nI 2) d_M_tell_25 (by decide) ?_
        refine gm_iload_n d_M_tell_26 rfl ?_
        first | refine gm_imulN d_M_tell_27 ?_ | refine gm_imul d_M_tell_27 ?_
        refine gm_iconst (v := nI 1) d_M_tell_28 (by decide) ?_
        first | refine gm_iaddN d_M_tell_29 ?_ | refine gm_iadd d_M_tell_29 ?_
        refine fr_aldv d_M_tell_30 (by decide) rfl (show _ < 10 by omega) (by first | assumption | (simp only [fr_up_at, fr_up_s, fr_sc_at, fr_sc_a, Nat.reduceEqDiff, false_and, if_false, ite_false, reduceCtorEq]; first | assumption | rfl) | rfl) ?_
        refine gm_bipush (v := nI 8) d_M_tell_31 (by decide) ?_
        first | refine gm_icmp_geN (tgt := 53) d_M_tell_33 (by decide) (by omega) (by omega) (fun q8 => ?_) (fun q8 => ?_) | refine gm_icmp_ge (tgt := 53) d_M_tell_33 (by decide) (fun q8 => ?_) (fun q8 => ?_)
        · refine gm_vret d_M_tell_53 rfl ?_
          first | (exfalso; omega) | exact ⟨rfl, by rw [if_pos (by omega)]⟩ | exact ⟨rfl, by rw [if_neg (by omega)]⟩
        · refine gm_aload_n d_M_tell_36 rfl (by first | exact am_rvR _ | exact am_rvN | assumption) ?_
          refine gm_iconst (v := nI 2) d_M_tell_37 (by decide) ?_
          refine gm_iload_n d_M_tell_38 rfl ?_
          first | refine gm_imulN d_M_tell_39 ?_ | refine gm_imul d_M_tell_39 ?_
          refine gm_iconst (v := nI 1) d_M_tell_40 (by decide) ?_
          first | refine gm_iaddN d_M_tell_41 ?_ | refine gm_iadd d_M_tell_41 ?_
          refine gm_iload_n d_M_tell_42 rfl ?_
          refine gm_iload_n d_M_tell_43 rfl ?_
          refine gm_iload d_M_tell_44 rfl ?_
          refine gm_iload d_M_tell_46 rfl ?_
          refine gm_iload d_M_tell_48 rfl ?_
          refine gm_cV (b := A 44) d_M_tell_50 v_M_155 (vs := [.int (nI (2 * i + 1)), .int (nI c), .int x1, .int x2, .int x3, .int x4]) (st := []) rfl rfl (by decide) (Nat.le_of_ble_eq_true rfl) (fr_at _) (rf_add (by omega) hn h60 _ _ _ _ _) ?_
          rintro v r1 ⟨rfl, rfl⟩
          refine gm_vret d_M_tell_53 rfl ?_
          first | (exfalso; omega) | exact ⟨rfl, by rw [if_pos (by omega)]⟩ | exact ⟨rfl, by rw [if_neg (by omega)]⟩
theorem rf_order {i n c : Nat} (hi : i < 5) (hn : r.2 25 (2 * i) = nI n) (h60 : n < 60) (hc : c < 100) (x1 x2 x3 x4 : Int32) : gm_M (fr_P A) fr_X g y_M_order "(IIIIII)V" 1 27 [.ref (A 44), .int (nI i), .int (nI c), .int x1, .int x2, .int x3, .int x4] (fun v r' => v = none ∧ r' = if c ≠ 3 ∨ n < 16 then fr_add r (2 * i) n (nI c) x1 x2 x3 x4 else r) r := by
  refine gm_Mof (L0 := [some (.ref (A 44)), some (.int (nI i)), some (.int (nI c)), some (.int x1), some (.int x2), some (.int x3), some (.int x4)]) pl_M_order (am_k1 rfl (am_k1 rfl (am_k1 rfl (am_k1 rfl (am_k1 rfl (am_k1 rfl (am_k1 rfl am_k0))))))) (Nat.le_of_ble_eq_true rfl) rfl ?_
  refine gm_iload_n d_M_order_0 rfl ?_
  refine gm_iconst (v := nI 3) d_M_order_1 (by decide) ?_
  first | refine gm_icmp_neN (tgt := 18) d_M_order_2 (by decide) (by omega) (by omega) (fun q1 => ?_) (fun q1 => ?_) | refine gm_icmp_ne (tgt := 18) d_M_order_2 (by decide) (fun q1 => ?_) (fun q1 => ?_)
  · refine gm_aload_n d_M_order_18 rfl (by first | exact am_rvR _ | exact am_rvN | assumption) ?_
    refine gm_iconst (v := nI 2) d_M_order_19 (by decide) ?_
    refine gm_iload_n d_M_order_20 rfl ?_
    first | refine gm_imulN d_M_order_21 ?_ | refine gm_imul d_M_order_21 ?_
    refine gm_iload_n d_M_order_22 rfl ?_
    refine gm_iload_n d_M_order_23 rfl ?_
    refine gm_iload d_M_order_24 rfl ?_
    refine gm_iload d_M_order_26 rfl ?_
    refine gm_iload d_M_order_28 rfl ?_
    refine gm_cV (b := A 44) d_M_order_30 v_M_155 (vs := [.int (nI (2 * i)), .int (nI c), .int x1, .int x2, .int x3, .int x4]) (st := []) rfl rfl (by decide) (Nat.le_of_ble_eq_true rfl) (fr_at _) (rf_add (by omega) hn h60 _ _ _ _ _) ?_
    rintro v r1 ⟨rfl, rfl⟩
    refine gm_vret d_M_order_33 rfl ?_
    first | (exfalso; omega) | exact ⟨rfl, by rw [if_pos (by omega)]⟩ | exact ⟨rfl, by rw [if_neg (by omega)]⟩
  · refine gm_aload_n d_M_order_5 rfl (by first | exact am_rvR _ | exact am_rvN | assumption) ?_
    refine fr_gA 25 d_M_order_6 f_M_71 (by decide) (by decide) ?_
    refine gm_iconst (v := nI 2) d_M_order_9 (by decide) ?_
    refine gm_iload_n d_M_order_10 rfl ?_
    first | refine gm_imulN d_M_order_11 ?_ | refine gm_imul d_M_order_11 ?_
    refine fr_aldv d_M_order_12 (by decide) rfl (show _ < 10 by omega) (by first | assumption | (simp only [fr_up_at, fr_up_s, fr_sc_at, fr_sc_a, Nat.reduceEqDiff, false_and, if_false, ite_false, reduceCtorEq]; first | assumption | rfl) | rfl) ?_
    refine gm_bipush (v := nI 16) d_M_order_13 (by decide) ?_
    first | refine gm_icmp_geN (tgt := 33) d_M_order_15 (by decide) (by omega) (by omega) (fun q2 => ?_) (fun q2 => ?_) | refine gm_icmp_ge (tgt := 33) d_M_order_15 (by decide) (fun q2 => ?_) (fun q2 => ?_)
    · refine gm_vret d_M_order_33 rfl ?_
      first | (exfalso; omega) | exact ⟨rfl, by rw [if_pos (by omega)]⟩ | exact ⟨rfl, by rw [if_neg (by omega)]⟩
    · refine gm_aload_n d_M_order_18 rfl (by first | exact am_rvR _ | exact am_rvN | assumption) ?_
      refine gm_iconst (v := nI 2) d_M_order_19 (by decide) ?_
      refine gm_iload_n d_M_order_20 rfl ?_
      first | refine gm_imulN d_M_order_21 ?_ | refine gm_imul d_M_order_21 ?_
      refine gm_iload_n d_M_order_22 rfl ?_
      refine gm_iload_n d_M_order_23 rfl ?_
      refine gm_iload d_M_order_24 rfl ?_
      refine gm_iload d_M_order_26 rfl ?_
      refine gm_iload d_M_order_28 rfl ?_
      refine gm_cV (b := A 44) d_M_order_30 v_M_155 (vs := [.int (nI (2 * i)), .int (nI c), .int x1, .int x2, .int x3, .int x4]) (st := []) rfl rfl (by decide) (Nat.le_of_ble_eq_true rfl) (fr_at _) (rf_add (by omega) hn h60 _ _ _ _ _) ?_
      rintro v r1 ⟨rfl, rfl⟩
      refine gm_vret d_M_order_33 rfl ?_
      first | (exfalso; omega) | exact ⟨rfl, by rw [if_pos (by omega)]⟩ | exact ⟨rfl, by rw [if_neg (by omega)]⟩
theorem rf_ruleAt {i n : Nat} (hi : i < 5) (hn : r.2 19 i = nI n) (h8 : n ≤ 8) (x : Int32) : gm_M (fr_P A) fr_X g y_M_ruleAt "(II)I" 0 0 [.ref (A 44), .int (nI i), .int x] (fun v r' => v = some (.int (fr_pos (fr_find r 20 (8 * i) n x) (8 * i))) ∧ r' = r) r := by
  have key : ∀ (m k : Nat) (r1 : fr_S), k + m = n → r1 = r → (∀ j, j < k → r.2 20 (8 * i + j) ≠ x) → gm_W (fr_P A) fr_X g y_M_ruleAt 0 0 (fun v r' => v = some (.int (fr_pos (fr_find r 20 (8 * i) n x) (8 * i))) ∧ r' = r) 5 [some (.ref (A 44)), some (.int (nI i)), some (.int x), some (.int (nI (8 * i + k)))] [] r1 := by
    intro m
    induction m with
    | zero =>
      intro k r1 hk hr hj
      subst hr
      have e1 : k = n := by omega
      subst e1
      refine gm_iload_n d_M_ruleAt_5 rfl ?_
      refine gm_bipush (v := nI 8) d_M_ruleAt_6 (by decide) ?_
      refine gm_iload_n d_M_ruleAt_8 rfl ?_
      first | refine gm_imulN d_M_ruleAt_9 ?_ | refine gm_imul d_M_ruleAt_9 ?_
      refine gm_aload_n d_M_ruleAt_10 rfl (by first | exact am_rvR _ | exact am_rvN | assumption) ?_
      refine fr_gA 19 d_M_ruleAt_11 f_M_53 (by decide) (by decide) ?_
      refine gm_iload_n d_M_ruleAt_14 rfl ?_
      refine fr_aldv d_M_ruleAt_15 (by decide) rfl (show _ < 5 by omega) (by first | assumption | (simp only [fr_up_at, fr_up_s, fr_sc_at, fr_sc_a, Nat.reduceEqDiff, false_and, if_false, ite_false, reduceCtorEq]; first | assumption | rfl) | rfl) ?_
      first | refine gm_iaddN d_M_ruleAt_16 ?_ | refine gm_iadd d_M_ruleAt_16 ?_
      refine gm_icmp_geN (tgt := 38) d_M_ruleAt_17 (by decide) (by omega) (by omega) (fun _ => ?_) (fun q => absurd q (by omega))
      refine gm_iconst (v := (-1)) d_M_ruleAt_38 (by decide) ?_
      refine gm_iret d_M_ruleAt_39 rfl rfl ?_
      exact ⟨by rw [fr_find_none hj]; rfl, rfl⟩
    | succ m ih =>
      intro k r1 hk hr hj
      subst hr
      refine gm_iload_n d_M_ruleAt_5 rfl ?_
      refine gm_bipush (v := nI 8) d_M_ruleAt_6 (by decide) ?_
      refine gm_iload_n d_M_ruleAt_8 rfl ?_
      first | refine gm_imulN d_M_ruleAt_9 ?_ | refine gm_imul d_M_ruleAt_9 ?_
      refine gm_aload_n d_M_ruleAt_10 rfl (by first | exact am_rvR _ | exact am_rvN | assumption) ?_
      refine fr_gA 19 d_M_ruleAt_11 f_M_53 (by decide) (by decide) ?_
      refine gm_iload_n d_M_ruleAt_14 rfl ?_
      refine fr_aldv d_M_ruleAt_15 (by decide) rfl (show _ < 5 by omega) (by first | assumption | (simp only [fr_up_at, fr_up_s, fr_sc_at, fr_sc_a, Nat.reduceEqDiff, false_and, if_false, ite_false, reduceCtorEq]; first | assumption | rfl) | rfl) ?_
      first | refine gm_iaddN d_M_ruleAt_16 ?_ | refine gm_iadd d_M_ruleAt_16 ?_
      refine gm_icmp_geN (tgt := 38) d_M_ruleAt_17 (by decide) (by omega) (by omega) (fun q => absurd q (by omega)) (fun _ => ?_)
      refine gm_aload_n d_M_ruleAt_20 rfl (by first | exact am_rvR _ | exact am_rvN | assumption) ?_
      refine fr_gA 20 d_M_ruleAt_21 f_M_56 (by decide) (by decide) ?_
      refine gm_iload_n d_M_ruleAt_24 rfl ?_
      refine fr_aldv d_M_ruleAt_25 (by decide) rfl (show _ < 40 by omega) (by first | assumption | (simp only [fr_up_at, fr_up_s, fr_sc_at, fr_sc_a, Nat.reduceEqDiff, false_and, if_false, ite_false, reduceCtorEq]; first | assumption | rfl) | rfl) ?_
      refine gm_iload_n d_M_ruleAt_26 rfl ?_
      first | refine gm_icmp_neN (tgt := 32) d_M_ruleAt_27 (by decide) (by omega) (by omega) (fun q1 => ?_) (fun q1 => ?_) | refine gm_icmp_ne (tgt := 32) d_M_ruleAt_27 (by decide) (fun q1 => ?_) (fun q1 => ?_)
      · first | refine gm_iincN (b := 1) (L1 := [_, _, _, _]) d_M_ruleAt_32 rfl (by decide) (by decide) rfl ?_ | refine gm_iinc (L1 := [_, _, _, _]) d_M_ruleAt_32 rfl rfl (by decide) rfl ?_
        refine gm_goto (tgt := 5) d_M_ruleAt_35 (by decide) ?_
        exact ih (k + 1) _ (by omega) rfl (fun j hj2 => by
          by_cases e : j = k
          · subst e; exact q1
          · exact hj j (by omega))
      · refine gm_iload_n d_M_ruleAt_30 rfl ?_
        refine gm_iret d_M_ruleAt_31 rfl rfl ?_
        exact ⟨by rw [fr_find_some (by omega) hj q1]; rfl, rfl⟩
  refine gm_Mof (L0 := [some (.ref (A 44)), some (.int (nI i)), some (.int x), none]) pl_M_ruleAt (am_k1 rfl (am_k1 rfl (am_k1 rfl am_k0))) (Nat.le_of_ble_eq_true rfl) rfl ?_
  refine gm_bipush (v := nI 8) d_M_ruleAt_0 (by decide) ?_
  refine gm_iload_n d_M_ruleAt_2 rfl ?_
  first | refine gm_imulN d_M_ruleAt_3 ?_ | refine gm_imul d_M_ruleAt_3 ?_
  refine gm_istore_n (L1 := [_, _, _, _]) d_M_ruleAt_4 (by decide) rfl ?_
  exact key n 0 r (by omega) rfl (fun j h => absurd h (Nat.not_lt_zero _))
theorem rf_courseOf {n : Nat} (hn : r.1 32 = nI n) (h6 : n ≤ 6) (x : Int32) : gm_M (fr_P A) fr_X g y_M_courseOf "(I)I" 0 0 [.ref (A 44), .int x] (fun v r' => v = some (.int (fr_pos (fr_find r 33 0 n x) 0)) ∧ r' = r) r := by
  have key : ∀ (m k : Nat) (r1 : fr_S), k + m = n → r1 = r → (∀ j, j < k → r.2 33 (0 + j) ≠ x) → gm_W (fr_P A) fr_X g y_M_courseOf 0 0 (fun v r' => v = some (.int (fr_pos (fr_find r 33 0 n x) 0)) ∧ r' = r) 2 [some (.ref (A 44)), some (.int x), some (.int (nI k))] [] r1 := by
    intro m
    induction m with
    | zero =>
      intro k r1 hk hr hj
      subst hr
      have e1 : k = n := by omega
      subst e1
      refine gm_iload_n d_M_courseOf_2 rfl ?_
      refine gm_aload_n d_M_courseOf_3 rfl (by first | exact am_rvR _ | exact am_rvN | assumption) ?_
      refine fr_gSv 32 d_M_courseOf_4 f_M_206 (by decide) rfl (by first | assumption | (simp only [fr_up_at, fr_up_s, fr_sc_at, fr_sc_a, Nat.reduceEqDiff, false_and, if_false, ite_false, reduceCtorEq]; first | assumption | rfl) | rfl) ?_
      refine gm_icmp_geN (tgt := 28) d_M_courseOf_7 (by decide) (by omega) (by omega) (fun _ => ?_) (fun q => absurd q (by omega))
      refine gm_iconst (v := (-1)) d_M_courseOf_28 (by decide) ?_
      refine gm_iret d_M_courseOf_29 rfl rfl ?_
      exact ⟨by rw [fr_find_none hj]; rfl, rfl⟩
    | succ m ih =>
      intro k r1 hk hr hj
      subst hr
      refine gm_iload_n d_M_courseOf_2 rfl ?_
      refine gm_aload_n d_M_courseOf_3 rfl (by first | exact am_rvR _ | exact am_rvN | assumption) ?_
      refine fr_gSv 32 d_M_courseOf_4 f_M_206 (by decide) rfl (by first | assumption | (simp only [fr_up_at, fr_up_s, fr_sc_at, fr_sc_a, Nat.reduceEqDiff, false_and, if_false, ite_false, reduceCtorEq]; first | assumption | rfl) | rfl) ?_
      refine gm_icmp_geN (tgt := 28) d_M_courseOf_7 (by decide) (by omega) (by omega) (fun q => absurd q (by omega)) (fun _ => ?_)
      refine gm_aload_n d_M_courseOf_10 rfl (by first | exact am_rvR _ | exact am_rvN | assumption) ?_
      refine fr_gA 33 d_M_courseOf_11 f_M_89 (by decide) (by decide) ?_
      refine gm_iload_n d_M_courseOf_14 rfl ?_
      refine fr_aldv d_M_courseOf_15 (by decide) rfl (show _ < 6 by omega) (by first | assumption | (simp only [fr_up_at, fr_up_s, fr_sc_at, fr_sc_a, Nat.reduceEqDiff, false_and, if_false, ite_false, reduceCtorEq]; first | assumption | rfl) | rfl) ?_
      refine gm_iload_n d_M_courseOf_16 rfl ?_
      first | refine gm_icmp_neN (tgt := 22) d_M_courseOf_17 (by decide) (by omega) (by omega) (fun q1 => ?_) (fun q1 => ?_) | refine gm_icmp_ne (tgt := 22) d_M_courseOf_17 (by decide) (fun q1 => ?_) (fun q1 => ?_)
      · first | refine gm_iincN (b := 1) (L1 := [_, _, _]) d_M_courseOf_22 rfl (by decide) (by decide) rfl ?_ | refine gm_iinc (L1 := [_, _, _]) d_M_courseOf_22 rfl rfl (by decide) rfl ?_
        refine gm_goto (tgt := 2) d_M_courseOf_25 (by decide) ?_
        exact ih (k + 1) _ (by omega) rfl (fun j hj2 => by
          by_cases e : j = k
          · subst e; rw [Nat.zero_add]; exact q1
          · exact hj j (by omega))
      · refine gm_iload_n d_M_courseOf_20 rfl ?_
        refine gm_iret d_M_courseOf_21 rfl rfl ?_
        exact ⟨by rw [fr_find_some (by omega) hj (by rw [Nat.zero_add]; exact q1)]; show _ = some (Value.int (nI (0 + k))); rw [Nat.zero_add], rfl⟩
  refine gm_Mof (L0 := [some (.ref (A 44)), some (.int x), none]) pl_M_courseOf (am_k1 rfl (am_k1 rfl am_k0)) (Nat.le_of_ble_eq_true rfl) rfl ?_
  refine gm_iconst (v := nI 0) d_M_courseOf_0 (by decide) ?_
  refine gm_istore_n (L1 := [_, _, _]) d_M_courseOf_1 (by decide) rfl ?_
  exact key n 0 r (by omega) rfl (fun j h => absurd h (Nat.not_lt_zero _))
def fr_itm (r : fr_S) (l k : Nat) : fr_S := (r.1, fun q j => if q = 27 ∧ j < k then r.2 26 (300 * l + j) else r.2 q j)
def fr_take (r : fr_S) (l n : Nat) : fr_S := fr_sh (fr_up (fr_itm r l 5) 25 l (nI (n - 1))) [26] (300 * l) (5 * (n - 1)) 5
theorem fr_itm_s (r : fr_S) (l k : Nat) : fr_up (fr_itm r l k) 27 k (r.2 26 (300 * l + k)) = fr_itm r l (k + 1) := by
  refine Prod.ext rfl ?_
  funext q j
  simp only [fr_up, fr_itm]
  by_cases h : q = 27
  · subst h
    by_cases h2 : j = k
    · subst h2; simp
    · by_cases h3 : j < k
      · simp [h2, h3, show j < k + 1 by omega]
      · simp [h2, h3, show ¬ j < k + 1 by omega]
  · simp [h]
theorem fr_sh_s1 (r : fr_S) (f lo m dd : Nat) : fr_up (fr_sh r [f] lo m dd) f (lo + m) (r.2 f (lo + m + dd)) = fr_sh r [f] lo (m + 1) dd := by
  refine Prod.ext rfl ?_
  funext q j
  simp only [fr_up, fr_sh, List.mem_singleton]
  by_cases h : q = f
  · subst h
    by_cases h2 : j = lo + m
    · subst h2; simp
    · by_cases h3 : lo ≤ j ∧ j < lo + m
      · rw [if_neg (fun z => h2 z.2), if_pos ⟨rfl, h3⟩, if_pos ⟨rfl, h3.1, by omega⟩]
      · rw [if_neg (fun z => h2 z.2), if_neg (fun z => h3 z.2), if_neg (fun z => h3 ⟨z.2.1, by omega⟩)]
  · simp [h]
theorem rf_take {l n : Nat} (hl : l < 10) (hn : r.2 25 l = nI n) (h0 : 0 < n) (h60 : n ≤ 60) : gm_M (fr_P A) fr_X g y_M_take "(I)V" 0 0 [.ref (A 44), .int (nI l)] (fun v r' => v = none ∧ r' = fr_take r l n) r := by
  have key2 : ∀ (m k : Nat) (r1 : fr_S), k + m = 5 * (n - 1) → r1 = fr_sh (fr_up (fr_itm r l 5) 25 l (nI (n - 1))) [26] (300 * l) k 5 → gm_W (fr_P A) fr_X g y_M_take 0 0 (fun v r' => v = none ∧ r' = fr_take r l n) 47 [some (.ref (A 44)), some (.int (nI l)), some (.int (nI (300 * l + k)))] [] r1 := by
    intro m
    induction m with
    | zero =>
      intro k r1 hk hr
      have hv : r1.2 25 l = nI (n - 1) := by rw [hr, fr_sh_not (by decide), fr_up_at, if_pos ⟨rfl, rfl⟩]
      have e1 : k = 5 * (n - 1) := by omega
      refine gm_iload_n d_M_take_47 rfl ?_
      refine gm_sipush (v := nI 300) d_M_take_48 (by decide) ?_
      refine gm_iload_n d_M_take_51 rfl ?_
      first | refine gm_imulN d_M_take_52 ?_ | refine gm_imul d_M_take_52 ?_
      refine gm_iconst (v := nI 5) d_M_take_53 (by decide) ?_
      refine gm_aload_n d_M_take_54 rfl (by first | exact am_rvR _ | exact am_rvN | assumption) ?_
      refine fr_gA 25 d_M_take_55 f_M_71 (by decide) (by decide) ?_
      refine gm_iload_n d_M_take_58 rfl ?_
      refine fr_aldv d_M_take_59 (by decide) rfl (show _ < 10 by omega) (by first | assumption | (simp only [fr_up_at, fr_up_s, fr_sc_at, fr_sc_a, Nat.reduceEqDiff, false_and, if_false, ite_false, reduceCtorEq]; first | assumption | rfl) | rfl) ?_
      first | refine gm_imulN d_M_take_60 ?_ | refine gm_imul d_M_take_60 ?_
      first | refine gm_iaddN d_M_take_61 ?_ | refine gm_iadd d_M_take_61 ?_
      refine gm_icmp_geN (tgt := 85) d_M_take_62 (by decide) (by omega) (by omega) (fun _ => ?_) (fun q => absurd q (by omega))
      refine gm_vret d_M_take_85 rfl ?_
      exact ⟨rfl, by rw [hr, e1]; rfl⟩
    | succ m ih =>
      intro k r1 hk hr
      have hv : r1.2 25 l = nI (n - 1) := by rw [hr, fr_sh_not (by decide), fr_up_at, if_pos ⟨rfl, rfl⟩]
      have hv2 : r1.2 26 (300 * l + k + 5) = (fr_up (fr_itm r l 5) 25 l (nI (n - 1))).2 26 (300 * l + k + 5) := by rw [hr, fr_sh_out (by omega)]
      refine gm_iload_n d_M_take_47 rfl ?_
      refine gm_sipush (v := nI 300) d_M_take_48 (by decide) ?_
      refine gm_iload_n d_M_take_51 rfl ?_
      first | refine gm_imulN d_M_take_52 ?_ | refine gm_imul d_M_take_52 ?_
      refine gm_iconst (v := nI 5) d_M_take_53 (by decide) ?_
      refine gm_aload_n d_M_take_54 rfl (by first | exact am_rvR _ | exact am_rvN | assumption) ?_
      refine fr_gA 25 d_M_take_55 f_M_71 (by decide) (by decide) ?_
      refine gm_iload_n d_M_take_58 rfl ?_
      refine fr_aldv d_M_take_59 (by decide) rfl (show _ < 10 by omega) (by first | assumption | (simp only [fr_up_at, fr_up_s, fr_sc_at, fr_sc_a, Nat.reduceEqDiff, false_and, if_false, ite_false, reduceCtorEq]; first | assumption | rfl) | rfl) ?_
      first | refine gm_imulN d_M_take_60 ?_ | refine gm_imul d_M_take_60 ?_
      first | refine gm_iaddN d_M_take_61 ?_ | refine gm_iadd d_M_take_61 ?_
      refine gm_icmp_geN (tgt := 85) d_M_take_62 (by decide) (by omega) (by omega) (fun q => absurd q (by omega)) (fun _ => ?_)
      refine gm_aload_n d_M_take_65 rfl (by first | exact am_rvR _ | exact am_rvN | assumption) ?_
      refine fr_gA 26 d_M_take_66 f_M_74 (by decide) (by decide) ?_
      refine gm_iload_n d_M_take_69 rfl ?_
      refine gm_aload_n d_M_take_70 rfl (by first | exact am_rvR _ | exact am_rvN | assumption) ?_
      refine fr_gA 26 d_M_take_71 f_M_74 (by decide) (by decide) ?_
      refine gm_iload_n d_M_take_74 rfl ?_
      refine gm_iconst (v := nI 5) d_M_take_75 (by decide) ?_
      first | refine gm_iaddN d_M_take_76 ?_ | refine gm_iadd d_M_take_76 ?_
      refine fr_aldv d_M_take_77 (by decide) rfl (show _ < 3000 by omega) (by first | assumption | (simp only [fr_up_at, fr_up_s, fr_sc_at, fr_sc_a, Nat.reduceEqDiff, false_and, if_false, ite_false, reduceCtorEq]; first | assumption | rfl) | rfl) ?_
      refine fr_ast d_M_take_78 (by decide) rfl (show _ < 3000 by omega) ?_
      rw [hr]
      first | refine gm_iincN (b := 1) (L1 := [_, _, _]) d_M_take_79 rfl (by decide) (by decide) rfl ?_ | refine gm_iinc (L1 := [_, _, _]) d_M_take_79 rfl rfl (by decide) rfl ?_
      refine gm_goto (tgt := 47) d_M_take_82 (by decide) ?_
      exact ih (k + 1) _ (by omega) (by rw [fr_sh_s1])
  have key1 : ∀ (m k : Nat) (r1 : fr_S), k + m = 5 → r1 = fr_itm r l k → gm_W (fr_P A) fr_X g y_M_take 0 0 (fun v r' => v = none ∧ r' = fr_take r l n) 2 [some (.ref (A 44)), some (.int (nI l)), some (.int (nI k))] [] r1 := by
    intro m
    induction m with
    | zero =>
      intro k r1 hk hr
      have hv : r1.2 25 l = nI n := by rw [hr]; simp [fr_itm, hn]
      have e1 : k = 5 := by omega
      subst e1
      refine gm_iload_n d_M_take_2 rfl ?_
      refine gm_iconst (v := nI 5) d_M_take_3 (by decide) ?_
      refine gm_icmp_geN (tgt := 31) d_M_take_4 (by decide) (by omega) (by omega) (fun _ => ?_) (fun q => absurd q (by omega))
      refine gm_aload_n d_M_take_31 rfl (by first | exact am_rvR _ | exact am_rvN | assumption) ?_
      refine fr_gA 25 d_M_take_32 f_M_71 (by decide) (by decide) ?_
      refine gm_iload_n d_M_take_35 rfl ?_
      refine gm_dup2 d_M_take_36 rfl rfl ?_
      refine fr_aldv d_M_take_37 (by decide) rfl (show _ < 10 by omega) (by first | assumption | (simp only [fr_up_at, fr_up_s, fr_sc_at, fr_sc_a, Nat.reduceEqDiff, false_and, if_false, ite_false, reduceCtorEq]; first | assumption | rfl) | rfl) ?_
      refine gm_iconst (v := nI 1) d_M_take_38 (by decide) ?_
      first | refine gm_isubN d_M_take_39 (by omega) ?_ | refine gm_isub d_M_take_39 ?_
      refine fr_ast d_M_take_40 (by decide) rfl (show _ < 10 by omega) ?_
      refine gm_sipush (v := nI 300) d_M_take_41 (by decide) ?_
      refine gm_iload_n d_M_take_44 rfl ?_
      first | refine gm_imulN d_M_take_45 ?_ | refine gm_imul d_M_take_45 ?_
      refine gm_istore_n (L1 := [_, _, _]) d_M_take_46 (by decide) rfl ?_
      exact key2 (5 * (n - 1)) 0 _ (by omega) (by rw [fr_sh_0, hr])
    | succ m ih =>
      intro k r1 hk hr
      have hv : r1.2 26 (300 * l + k) = r.2 26 (300 * l + k) := by rw [hr]; simp [fr_itm]
      refine gm_iload_n d_M_take_2 rfl ?_
      refine gm_iconst (v := nI 5) d_M_take_3 (by decide) ?_
      refine gm_icmp_geN (tgt := 31) d_M_take_4 (by decide) (by omega) (by omega) (fun q => absurd q (by omega)) (fun _ => ?_)
      refine gm_aload_n d_M_take_7 rfl (by first | exact am_rvR _ | exact am_rvN | assumption) ?_
      refine fr_gA 27 d_M_take_8 f_M_77 (by decide) (by decide) ?_
      refine gm_iload_n d_M_take_11 rfl ?_
      refine gm_aload_n d_M_take_12 rfl (by first | exact am_rvR _ | exact am_rvN | assumption) ?_
      refine fr_gA 26 d_M_take_13 f_M_74 (by decide) (by decide) ?_
      refine gm_sipush (v := nI 300) d_M_take_16 (by decide) ?_
      refine gm_iload_n d_M_take_19 rfl ?_
      first | refine gm_imulN d_M_take_20 ?_ | refine gm_imul d_M_take_20 ?_
      refine gm_iload_n d_M_take_21 rfl ?_
      first | refine gm_iaddN d_M_take_22 ?_ | refine gm_iadd d_M_take_22 ?_
      refine fr_aldv d_M_take_23 (by decide) rfl (show _ < 3000 by omega) (by first | assumption | (simp only [fr_up_at, fr_up_s, fr_sc_at, fr_sc_a, Nat.reduceEqDiff, false_and, if_false, ite_false, reduceCtorEq]; first | assumption | rfl) | rfl) ?_
      refine fr_ast d_M_take_24 (by decide) rfl (show _ < 5 by omega) ?_
      first | refine gm_iincN (b := 1) (L1 := [_, _, _]) d_M_take_25 rfl (by decide) (by decide) rfl ?_ | refine gm_iinc (L1 := [_, _, _]) d_M_take_25 rfl rfl (by decide) rfl ?_
      refine gm_goto (tgt := 2) d_M_take_28 (by decide) ?_
      exact ih (k + 1) _ (by omega) (by rw [hr, fr_itm_s])
  refine gm_Mof (L0 := [some (.ref (A 44)), some (.int (nI l)), none]) pl_M_take (am_k1 rfl (am_k1 rfl am_k0)) (Nat.le_of_ble_eq_true rfl) rfl ?_
  refine gm_iconst (v := nI 0) d_M_take_0 (by decide) ?_
  refine gm_istore_n (L1 := [_, _, _]) d_M_take_1 (by decide) rfl ?_
  exact key1 5 0 r (by omega) (by unfold fr_itm; refine Prod.ext rfl ?_; funext q j; simp)
def fr_rmr (r : fr_S) (i n k : Nat) : fr_S := fr_sh (fr_up r 19 i (nI (n - 1))) [20, 21, 22, 23, 24] (8 * i + k) (n - 1 - k) 1
theorem fr_sh_s5 (r : fr_S) (lo m : Nat) : fr_up (fr_up (fr_up (fr_up (fr_up (fr_sh r [20, 21, 22, 23, 24] lo m 1) 20 (lo + m) (r.2 20 (lo + m + 1))) 21 (lo + m) (r.2 21 (lo + m + 1))) 22 (lo + m) (r.2 22 (lo + m + 1))) 23 (lo + m) (r.2 23 (lo + m + 1))) 24 (lo + m) (r.2 24 (lo + m + 1)) = fr_sh r [20, 21, 22, 23, 24] lo (m + 1) 1 := by
  refine Prod.ext rfl ?_
  funext q j
  simp only [fr_up, fr_sh, List.mem_cons, List.not_mem_nil, or_false]
  by_cases h2 : j = lo + m
  · subst h2
    by_cases h0 : q = 20
    · subst h0; simp
    · by_cases h1 : q = 21
      · subst h1; simp
      · by_cases h3 : q = 22
        · subst h3; simp
        · by_cases h4 : q = 23
          · subst h4; simp
          · by_cases h5 : q = 24
            · subst h5; simp
            · simp [h0, h1, h3, h4, h5]
  · simp only [h2, and_false, if_false, ite_false]
    congr 1
    exact propext ⟨fun z => ⟨z.1, z.2.1, by omega⟩, fun z => ⟨z.1, z.2.1, by omega⟩⟩
theorem rf_rmr {i n k0 : Nat} (hi : i < 5) (hn : r.2 19 i = nI n) (h8 : n ≤ 8) (hk0 : k0 < n) : gm_M (fr_P A) fr_X g y_M_removeRule "(II)V" 0 0 [.ref (A 44), .int (nI i), .int (nI (8 * i + k0))] (fun v r' => v = none ∧ r' = fr_rmr r i n k0) r := by
  have key : ∀ (m k : Nat) (r1 : fr_S), k + m = n - 1 - k0 → r1 = fr_sh (fr_up r 19 i (nI (n - 1))) [20, 21, 22, 23, 24] (8 * i + k0) k 1 → gm_W (fr_P A) fr_X g y_M_removeRule 0 0 (fun v r' => v = none ∧ r' = fr_rmr r i n k0) 12 [some (.ref (A 44)), some (.int (nI i)), some (.int (nI (8 * i + k0))), some (.int (nI (8 * i + k0 + k)))] [] r1 := by
    intro m
    induction m with
    | zero =>
      intro k r1 hk hr
      have hv : r1.2 19 i = nI (n - 1) := by rw [hr, fr_sh_not (by decide), fr_up_at, if_pos ⟨rfl, rfl⟩]
      have e1 : k = n - 1 - k0 := by omega
      refine gm_iload_n d_M_removeRule_12 rfl ?_
      refine gm_bipush (v := nI 8) d_M_removeRule_13 (by decide) ?_
      refine gm_iload_n d_M_removeRule_15 rfl ?_
      first | refine gm_imulN d_M_removeRule_16 ?_ | refine gm_imul d_M_removeRule_16 ?_
      refine gm_aload_n d_M_removeRule_17 rfl (by first | exact am_rvR _ | exact am_rvN | assumption) ?_
      refine fr_gA 19 d_M_removeRule_18 f_M_53 (by decide) (by decide) ?_
      refine gm_iload_n d_M_removeRule_21 rfl ?_
      refine fr_aldv d_M_removeRule_22 (by decide) rfl (show _ < 5 by omega) (by first | assumption | (simp only [fr_up_at, fr_up_s, fr_sc_at, fr_sc_a, Nat.reduceEqDiff, false_and, if_false, ite_false, reduceCtorEq]; first | assumption | rfl) | rfl) ?_
      first | refine gm_iaddN d_M_removeRule_23 ?_ | refine gm_iadd d_M_removeRule_23 ?_
      refine gm_icmp_geN (tgt := 103) d_M_removeRule_24 (by decide) (by omega) (by omega) (fun _ => ?_) (fun q => absurd q (by omega))
      refine gm_vret d_M_removeRule_103 rfl ?_
      exact ⟨rfl, by rw [hr, e1]; rfl⟩
    | succ m ih =>
      intro k r1 hk hr
      have hv : r1.2 19 i = nI (n - 1) := by rw [hr, fr_sh_not (by decide), fr_up_at, if_pos ⟨rfl, rfl⟩]
      have hv20 : r1.2 20 (8 * i + k0 + k + 1) = (fr_up r 19 i (nI (n - 1))).2 20 (8 * i + k0 + k + 1) := by rw [hr, fr_sh_out (by omega)]
      have hv21 : r1.2 21 (8 * i + k0 + k + 1) = (fr_up r 19 i (nI (n - 1))).2 21 (8 * i + k0 + k + 1) := by rw [hr, fr_sh_out (by omega)]
      have hv22 : r1.2 22 (8 * i + k0 + k + 1) = (fr_up r 19 i (nI (n - 1))).2 22 (8 * i + k0 + k + 1) := by rw [hr, fr_sh_out (by omega)]
      have hv23 : r1.2 23 (8 * i + k0 + k + 1) = (fr_up r 19 i (nI (n - 1))).2 23 (8 * i + k0 + k + 1) := by rw [hr, fr_sh_out (by omega)]
      have hv24 : r1.2 24 (8 * i + k0 + k + 1) = (fr_up r 19 i (nI (n - 1))).2 24 (8 * i + k0 + k + 1) := by rw [hr, fr_sh_out (by omega)]
      refine gm_iload_n d_M_removeRule_12 rfl ?_
      refine gm_bipush (v := nI 8) d_M_removeRule_13 (by decide) ?_
      refine gm_iload_n d_M_removeRule_15 rfl ?_
      first | refine gm_imulN d_M_removeRule_16 ?_ | refine gm_imul d_M_removeRule_16 ?_
      refine gm_aload_n d_M_removeRule_17 rfl (by first | exact am_rvR _ | exact am_rvN | assumption) ?_
      refine fr_gA 19 d_M_removeRule_18 f_M_53 (by decide) (by decide) ?_
      refine gm_iload_n d_M_removeRule_21 rfl ?_
      refine fr_aldv d_M_removeRule_22 (by decide) rfl (show _ < 5 by omega) (by first | assumption | (simp only [fr_up_at, fr_up_s, fr_sc_at, fr_sc_a, Nat.reduceEqDiff, false_and, if_false, ite_false, reduceCtorEq]; first | assumption | rfl) | rfl) ?_
      first | refine gm_iaddN d_M_removeRule_23 ?_ | refine gm_iadd d_M_removeRule_23 ?_
      refine gm_icmp_geN (tgt := 103) d_M_removeRule_24 (by decide) (by omega) (by omega) (fun q => absurd q (by omega)) (fun _ => ?_)
      refine gm_aload_n d_M_removeRule_27 rfl (by first | exact am_rvR _ | exact am_rvN | assumption) ?_
      refine fr_gA 20 d_M_removeRule_28 f_M_56 (by decide) (by decide) ?_
      refine gm_iload_n d_M_removeRule_31 rfl ?_
      refine gm_aload_n d_M_removeRule_32 rfl (by first | exact am_rvR _ | exact am_rvN | assumption) ?_
      refine fr_gA 20 d_M_removeRule_33 f_M_56 (by decide) (by decide) ?_
      refine gm_iload_n d_M_removeRule_36 rfl ?_
      refine gm_iconst (v := nI 1) d_M_removeRule_37 (by decide) ?_
      first | refine gm_iaddN d_M_removeRule_38 ?_ | refine gm_iadd d_M_removeRule_38 ?_
      refine fr_aldv d_M_removeRule_39 (by decide) rfl (show _ < 40 by omega) (by first | assumption | (simp only [fr_up_at, fr_up_s, fr_sc_at, fr_sc_a, Nat.reduceEqDiff, false_and, if_false, ite_false, reduceCtorEq]; first | assumption | rfl) | rfl) ?_
      refine fr_ast d_M_removeRule_40 (by decide) rfl (show _ < 40 by omega) ?_
      refine gm_aload_n d_M_removeRule_41 rfl (by first | exact am_rvR _ | exact am_rvN | assumption) ?_
      refine fr_gA 21 d_M_removeRule_42 f_M_59 (by decide) (by decide) ?_
      refine gm_iload_n d_M_removeRule_45 rfl ?_
      refine gm_aload_n d_M_removeRule_46 rfl (by first | exact am_rvR _ | exact am_rvN | assumption) ?_
      refine fr_gA 21 d_M_removeRule_47 f_M_59 (by decide) (by decide) ?_
      refine gm_iload_n d_M_removeRule_50 rfl ?_
      refine gm_iconst (v := nI 1) d_M_removeRule_51 (by decide) ?_
      first | refine gm_iaddN d_M_removeRule_52 ?_ | refine gm_iadd d_M_removeRule_52 ?_
      refine fr_aldv d_M_removeRule_53 (by decide) rfl (show _ < 40 by omega) (by first | assumption | (simp only [fr_up_at, fr_up_s, fr_sc_at, fr_sc_a, Nat.reduceEqDiff, false_and, if_false, ite_false, reduceCtorEq]; first | assumption | rfl) | rfl) ?_
      refine fr_ast d_M_removeRule_54 (by decide) rfl (show _ < 40 by omega) ?_
      refine gm_aload_n d_M_removeRule_55 rfl (by first | exact am_rvR _ | exact am_rvN | assumption) ?_
      refine fr_gA 22 d_M_removeRule_56 f_M_62 (by decide) (by decide) ?_
      refine gm_iload_n d_M_removeRule_59 rfl ?_
      refine gm_aload_n d_M_removeRule_60 rfl (by first | exact am_rvR _ | exact am_rvN | assumption) ?_
      refine fr_gA 22 d_M_removeRule_61 f_M_62 (by decide) (by decide) ?_
      refine gm_iload_n d_M_removeRule_64 rfl ?_
      refine gm_iconst (v := nI 1) d_M_removeRule_65 (by decide) ?_
      first | refine gm_iaddN d_M_removeRule_66 ?_ | refine gm_iadd d_M_removeRule_66 ?_
      refine fr_aldv d_M_removeRule_67 (by decide) rfl (show _ < 40 by omega) (by first | assumption | (simp only [fr_up_at, fr_up_s, fr_sc_at, fr_sc_a, Nat.reduceEqDiff, false_and, if_false, ite_false, reduceCtorEq]; first | assumption | rfl) | rfl) ?_
      refine fr_ast d_M_removeRule_68 (by decide) rfl (show _ < 40 by omega) ?_
      refine gm_aload_n d_M_removeRule_69 rfl (by first | exact am_rvR _ | exact am_rvN | assumption) ?_
      refine fr_gA 23 d_M_removeRule_70 f_M_65 (by decide) (by decide) ?_
      refine gm_iload_n d_M_removeRule_73 rfl ?_
      refine gm_aload_n d_M_removeRule_74 rfl (by first | exact am_rvR _ | exact am_rvN | assumption) ?_
      refine fr_gA 23 d_M_removeRule_75 f_M_65 (by decide) (by decide) ?_
      refine gm_iload_n d_M_removeRule_78 rfl ?_
      refine gm_iconst (v := nI 1) d_M_removeRule_79 (by decide) ?_
      first | refine gm_iaddN d_M_removeRule_80 ?_ | refine gm_iadd d_M_removeRule_80 ?_
      refine fr_aldv d_M_removeRule_81 (by decide) rfl (show _ < 40 by omega) (by first | assumption | (simp only [fr_up_at, fr_up_s, fr_sc_at, fr_sc_a, Nat.reduceEqDiff, false_and, if_false, ite_false, reduceCtorEq]; first | assumption | rfl) | rfl) ?_
      refine fr_ast d_M_removeRule_82 (by decide) rfl (show _ < 40 by omega) ?_
      refine gm_aload_n d_M_removeRule_83 rfl (by first | exact am_rvR _ | exact am_rvN | assumption) ?_
      refine fr_gA 24 d_M_removeRule_84 f_M_68 (by decide) (by decide) ?_
      refine gm_iload_n d_M_removeRule_87 rfl ?_
      refine gm_aload_n d_M_removeRule_88 rfl (by first | exact am_rvR _ | exact am_rvN | assumption) ?_
      refine fr_gA 24 d_M_removeRule_89 f_M_68 (by decide) (by decide) ?_
      refine gm_iload_n d_M_removeRule_92 rfl ?_
      refine gm_iconst (v := nI 1) d_M_removeRule_93 (by decide) ?_
      first | refine gm_iaddN d_M_removeRule_94 ?_ | refine gm_iadd d_M_removeRule_94 ?_
      refine fr_aldv d_M_removeRule_95 (by decide) rfl (show _ < 40 by omega) (by first | assumption | (simp only [fr_up_at, fr_up_s, fr_sc_at, fr_sc_a, Nat.reduceEqDiff, false_and, if_false, ite_false, reduceCtorEq]; first | assumption | rfl) | rfl) ?_
      refine fr_ast d_M_removeRule_96 (by decide) rfl (show _ < 40 by omega) ?_
      rw [hr]
      first | refine gm_iincN (b := 1) (L1 := [_, _, _, _]) d_M_removeRule_97 rfl (by decide) (by decide) rfl ?_ | refine gm_iinc (L1 := [_, _, _, _]) d_M_removeRule_97 rfl rfl (by decide) rfl ?_
      refine gm_goto (tgt := 12) d_M_removeRule_100 (by decide) ?_
      exact ih (k + 1) _ (by omega) (by rw [fr_sh_s5])
  refine gm_Mof (L0 := [some (.ref (A 44)), some (.int (nI i)), some (.int (nI (8 * i + k0))), none]) pl_M_removeRule (am_k1 rfl (am_k1 rfl (am_k1 rfl am_k0))) (Nat.le_of_ble_eq_true rfl) rfl ?_
  refine gm_aload_n d_M_removeRule_0 rfl (by first | exact am_rvR _ | exact am_rvN | assumption) ?_
  refine fr_gA 19 d_M_removeRule_1 f_M_53 (by decide) (by decide) ?_
  refine gm_iload_n d_M_removeRule_4 rfl ?_
  refine gm_dup2 d_M_removeRule_5 rfl rfl ?_
  refine fr_aldv d_M_removeRule_6 (by decide) rfl (show _ < 5 by omega) (by first | assumption | (simp only [fr_up_at, fr_up_s, fr_sc_at, fr_sc_a, Nat.reduceEqDiff, false_and, if_false, ite_false, reduceCtorEq]; first | assumption | rfl) | rfl) ?_
  refine gm_iconst (v := nI 1) d_M_removeRule_7 (by decide) ?_
  first | refine gm_isubN d_M_removeRule_8 (by omega) ?_ | refine gm_isub d_M_removeRule_8 ?_
  refine fr_ast d_M_removeRule_9 (by decide) rfl (show _ < 5 by omega) ?_
  refine gm_iload_n d_M_removeRule_10 rfl ?_
  refine gm_istore_n (L1 := [_, _, _, _]) d_M_removeRule_11 (by decide) rfl ?_
  exact key (n - 1 - k0) 0 _ (by omega) (by rw [fr_sh_0])
end REG
