/-! waiting, rule, course: what they come to -/
section INY
variable {ns room idle : Nat}
theorem fc_waiting_no {s : fc_S} {x w : Int32} (h : fc_sw ns x = false) : fc_waiting ns s x w = -1 := by unfold fc_waiting; rw [if_neg (by rw [h]; decide)]
theorem fc_waiting_out {s : fc_S} {x w : Int32} (h : w < 0 ∨ ¬ w ≤ nI 5) : fc_waiting ns s x w = -1 := by
  unfold fc_waiting
  split
  · have h1 : ¬ ((decide (0 ≤ w) && decide (w < 4)) = true) := fun z => by
      rw [Bool.and_eq_true, decide_eq_true_eq, decide_eq_true_eq] at z
      rcases h with h | h
      · rw [Int32.lt_iff_toInt_lt] at h; rw [Int32.le_iff_toInt_le] at z; omega
      · refine h ?_
        have z2 := z.2
        rw [Int32.lt_iff_toInt_lt] at z2
        rw [Int32.le_iff_toInt_le]
        have e4 : (4 : Int32).toInt = 4 := by decide
        have e5 : (nI 5).toInt = 5 := by decide
        omega
    rw [if_neg h1, if_neg (fun e => by subst e; revert h; decide), if_neg (fun e => by subst e; revert h; decide)]
  · rfl
theorem fc_waiting_w {s : fc_S} (n5 : ns ≤ 5) {i k : Nat} (hi : i < ns) (h : fc_sw ns (nI i) = true) (hk : k < 4) : fc_waiting ns s (nI i) (nI k) = nI (s (200 + (4 * i + k))).length := by
  unfold fc_waiting fc_len
  have h0 : (0 : Int32) ≤ nI k := nI_pos' (by omega)
  have h4 : nI k < 4 := nI_lt (a := k) (b := 4) hk (by omega)
  rw [if_pos h, if_pos (by rw [Bool.and_eq_true, decide_eq_true_eq, decide_eq_true_eq]; exact ⟨h0, h4⟩), fc_e_nat (by omega) hk]
theorem fc_waiting_l {s : fc_S} {r : fr_S} (H : fr_rel ns room idle s r) (n5 : ns ≤ 5) {i k : Nat} (hi : i < ns) (h : fc_sw ns (nI i) = true) (hk : 4 ≤ k) (hk5 : k ≤ 5) : r.2 25 (2 * i + k - 4) = fc_waiting ns s (nI i) (nI k) := by
  unfold fc_waiting fc_len
  rcases (show k = 4 ∨ k = 5 by omega) with rfl | rfl
  · rw [if_pos h, if_neg (by decide), if_pos (show nI 4 = 4 by decide), nI_clamp (by omega), show 2 * i + 4 - 4 = 2 * i by omega]
    exact H.no hi
  · rw [if_pos h, if_neg (by decide), if_neg (show ¬ nI 5 = 4 by decide), if_pos (show nI 5 = 5 by decide), nI_clamp (by omega), show 2 * i + 5 - 4 = 2 * i + 1 by omega]
    exact H.nq hi
theorem fc_rule_no {s : fc_S} {x f t w : Int32} (h : fc_sw ns x = false) : fc_rule ns s x f t w = -1 := by unfold fc_rule; rw [if_neg (by rw [h]; decide)]
theorem fc_rule_none {s : fc_S} (n5 : ns ≤ 5) {i : Nat} {f t w : Int32} (hi : i < ns) (hx : fc_rix s i f t = none) : fc_rule ns s (nI i) f t w = -1 := by
  unfold fc_rule
  split
  · rw [nI_clamp (by omega), hx]
  · rfl
theorem fc_rule_some {s : fc_S} (n5 : ns ≤ 5) {i k : Nat} {f t w : Int32} (hi : i < ns) (h : fc_sw ns (nI i) = true) (hx : fc_rix s i f t = some k) : fc_rule ns s (nI i) f t w = if w = 0 then fc_get s (20 + i) k 2 else if w = 1 then fc_get s (20 + i) k 5 else if w = 2 then nI k else -1 := by
  unfold fc_rule
  rw [if_pos h, nI_clamp (by omega), hx]
theorem fc_rng6 {x : Int32} (h0 : ¬ x < 0) (h6 : ¬ nI 6 ≤ x) : ∃ k, k < 6 ∧ x = nI k := by
  obtain ⟨j, hj, rfl⟩ := nI_of h0
  exact ⟨j, Nat.not_le.mp (fun z => h6 ((nI_leI (by omega) hj).mpr z)), rfl⟩
theorem fc_out6 {x z : Int32} (h : x < 0 ∨ nI 6 ≤ x ∨ z < 0 ∨ nI 6 ≤ z) : ¬ ∃ f t : Nat, f < 6 ∧ t < 6 ∧ x = nI f ∧ z = nI t := by
  rintro ⟨f, t, hf, ht, rfl, rfl⟩
  rcases h with h | h | h | h
  · exact nI_pos (by omega) h
  · exact nI_ge hf (by omega) h
  · exact nI_pos (by omega) h
  · exact nI_ge ht (by omega) h
theorem fc_course_none {s : fc_S} {f t k : Int32} (hx : fc_cix s f t = none) : fc_course s f t k = -1 := by unfold fc_course; rw [hx]
theorem fc_course_eq {s : fc_S} {c : Nat} {f t k : Int32} {a b st wv aw ld kp kn : Int32} {way : List Int32} (hx : fc_cix s f t = some c) (hr : (s 7)[c]? = some ([a, b, st, wv, aw, ld, kp, kn] ++ way)) : fc_course s f t k = if decide (0 ≤ k) && decide (k < nI way.length) then way.getD k.toNatClampNeg 0 / 4 else if k = -1 then st else if k = -2 then (if kp = 0 then 0 else kn) else -1 := by
  unfold fc_course
  rw [hx]
  show (if _ then _ else if _ then _ else if _ then _ else _) = _
  rw [fc_way_row hr, fc_get_row hr, fc_get_row hr, fc_get_row hr]
  rfl
theorem fc_course_way {way : List Int32} {j m : Nat} {x y z : Int32} (hj : j < way.length) (h5 : way.length ≤ 5) (hx : way[j]? = some (nI m)) (hm : m < 1000) : (if decide (0 ≤ nI j) && decide (nI j < nI way.length) then way.getD (nI j).toNatClampNeg 0 / 4 else x) = nI ((5 * (m / 4) + m % 4) / 5) := by
  rw [if_pos (by rw [Bool.and_eq_true, decide_eq_true_eq, decide_eq_true_eq]; exact ⟨nI_pos' (by omega), nI_lt hj (by omega)⟩), nI_clamp (by omega), List.getD_eq_getElem?_getD, hx]
  show nI m / nI 4 = _
  rw [pk_div (by omega) (by omega) (by omega)]
  congr 1
  omega
theorem fc_course_nw {way : List Int32} {k x : Int32} {y : Int32} (h : k < 0 ∨ ¬ k < nI way.length) : (if decide (0 ≤ k) && decide (k < nI way.length) then y else x) = x := by
  rw [if_neg]
  rw [Bool.and_eq_true, decide_eq_true_eq, decide_eq_true_eq]
  rintro ⟨a, b⟩
  rcases h with h | h
  · rw [Int32.lt_iff_toInt_lt] at h; rw [Int32.le_iff_toInt_le] at a; omega
  · exact h b
theorem fc_k2 {w : Int32} (a : ¬ w < -2) (b : ¬ w = -1) (c : ¬ w = -2) : ¬ w < 0 := fun z => by
  rw [Int32.lt_iff_toInt_lt] at a z
  rw [← Int32.toInt_inj] at b c
  have e1 : (-1 : Int32).toInt = -1 := by decide
  have e2 : (-2 : Int32).toInt = -2 := by decide
  have e0 : (0 : Int32).toInt = 0 := by decide
  omega
theorem fc_kneg : (-1 : Int32) < 0 ∧ (-2 : Int32) < 0 := ⟨by decide, by decide⟩
theorem fc_klow {w : Int32} (a : w < -2) : w < 0 ∧ ¬ w = -1 ∧ ¬ w = -2 := ⟨by
  rw [Int32.lt_iff_toInt_lt] at a ⊢
  have e2 : (-2 : Int32).toInt = -2 := by decide
  have e0 : (0 : Int32).toInt = 0 := by decide
  omega, fun e => by subst e; revert a; decide, fun e => by subst e; revert a; decide⟩
theorem fc_khigh {w : Int32} {n : Nat} (hn : n < 1000) (a : nI n ≤ w) : ¬ w = -1 ∧ ¬ w = -2 := ⟨fun e => by
  subst e
  rw [Int32.le_iff_toInt_le, nI_toInt (by omega)] at a
  have e1 : (-1 : Int32).toInt = -1 := by decide
  omega, fun e => by
  subst e
  rw [Int32.le_iff_toInt_le, nI_toInt (by omega)] at a
  have e1 : (-2 : Int32).toInt = -2 := by decide
  omega⟩
end INY
