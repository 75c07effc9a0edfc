/-! how the reference's numbers move with the rows: hosts, ports, courses; what is looked for -/
section INP
variable {ns room idle : Nat}
def fr_htk (r : fr_S) (h : Nat) (a nr f : Int32) : fr_S := fr_up (fr_up (fr_up r 9 h a) 10 h nr) 11 h f
theorem fr_rH.take {s : fc_S} {r : fr_S} (h : fr_rH s (r.1 7) (r.2 8) (r.2 9) (r.2 10) (r.2 11)) {k : Nat} {x0 x1 x2 x3 x4 x5 : Int32} (hr : (s 1)[k]? = some [x0, x1, x2, x3, x4, x5]) (a nr f : Int32) : fr_rH (fc_up s 1 ((s 1).set k [x0, x1, x2, a, nr, f])) ((fr_htk r k a nr f).1 7) ((fr_htk r k a nr f).2 8) ((fr_htk r k a nr f).2 9) ((fr_htk r k a nr f).2 10) ((fr_htk r k a nr f).2 11) := by
  have hk := (List.getElem?_eq_some_iff.mp hr).1
  have e8 : (fr_htk r k a nr f).2 8 = r.2 8 := by unfold fr_htk; rw [fr_up_ne (by decide), fr_up_ne (by decide), fr_up_ne (by decide)]
  have e9 : ∀ j, (fr_htk r k a nr f).2 9 j = if j = k then a else r.2 9 j := fun j => by unfold fr_htk; rw [fr_up_ne (by decide), fr_up_ne (by decide), fr_up_hit]
  have e10 : ∀ j, (fr_htk r k a nr f).2 10 j = if j = k then nr else r.2 10 j := fun j => by unfold fr_htk; rw [fr_up_ne (by decide), fr_up_hit, fr_up_ne (by decide)]
  have e11 : ∀ j, (fr_htk r k a nr f).2 11 j = if j = k then f else r.2 11 j := fun j => by unfold fr_htk; rw [fr_up_hit, fr_up_ne (by decide), fr_up_ne (by decide)]
  obtain ⟨h0, h1, h2⟩ := h
  unfold fr_rH
  rw [fc_up_same, List.length_set, e8]
  refine ⟨h0, fun j row hj => ⟨?_, ?_, ?_, ?_⟩, fun j hj hj6 => ?_⟩
  · exact fr_t_set (ix := fun k => k) (row := [x0, x1, x2, a, nr, f]) (g := fun row => nI 4 * row.getD 1 0 + row.getD 2 0) (fun k r' hr => (h1 k r' hr).1) (fun _ _ _ => rfl) (fun _ => (h1 k _ hr).1) j row hj
  · exact fr_t_set (ix := fun k => k) (a := r.2 9) (row := [x0, x1, x2, a, nr, f]) (g := fun row => row.getD 3 0) (fun k r' hr => (h1 k r' hr).2.1) (fun k hk _ => by rw [e9, if_neg hk]) (fun _ => by rw [e9, if_pos rfl]; rfl) j row hj
  · exact fr_t_set (ix := fun k => k) (a := r.2 10) (row := [x0, x1, x2, a, nr, f]) (g := fun row => row.getD 4 0) (fun k r' hr => (h1 k r' hr).2.2.1) (fun k hk _ => by rw [e10, if_neg hk]) (fun _ => by rw [e10, if_pos rfl]; rfl) j row hj
  · exact fr_t_set (ix := fun k => k) (a := r.2 11) (row := [x0, x1, x2, a, nr, f]) (g := fun row => row.getD 5 0) (fun k r' hr => (h1 k r' hr).2.2.2) (fun k hk _ => by rw [e11, if_neg hk]) (fun _ => by rw [e11, if_pos rfl]; rfl) j row hj
  · rw [e9, e10, if_neg (by omega), if_neg (by omega)]
    exact h2 j hj hj6
def fr_att (r : fr_S) (e n : Nat) : fr_S := fr_sc (fr_up (fr_up (fr_up (fr_up r 4 e (nI 1)) 5 e (nI n)) 8 n (nI e)) 11 n (-1)) 7 (nI (n + 1))
theorem fr_rH.att {s s' : fc_S} {r : fr_S} (h : fr_rH s (r.1 7) (r.2 8) (r.2 9) (r.2 10) (r.2 11)) (h6 : (s 1).length < 6) {i p : Nat} (hs : s' 1 = s 1 ++ [[nI (s 1).length, nI i, nI p, 0, 0, -1]]) : fr_rH s' ((fr_att r (4 * i + p) (s 1).length).1 7) ((fr_att r (4 * i + p) (s 1).length).2 8) ((fr_att r (4 * i + p) (s 1).length).2 9) ((fr_att r (4 * i + p) (s 1).length).2 10) ((fr_att r (4 * i + p) (s 1).length).2 11) := by
  obtain ⟨h0, h1, h2⟩ := h
  have e7 : (fr_att r (4 * i + p) (s 1).length).1 7 = nI ((s 1).length + 1) := by unfold fr_att; rw [fr_sc_at, if_pos rfl]
  have e8 : ∀ j, (fr_att r (4 * i + p) (s 1).length).2 8 j = if j = (s 1).length then nI (4 * i + p) else r.2 8 j := fun j => by unfold fr_att; rw [fr_sc_a, fr_up_ne (by decide), fr_up_hit, fr_up_ne (by decide), fr_up_ne (by decide)]
  have e9 : (fr_att r (4 * i + p) (s 1).length).2 9 = r.2 9 := by unfold fr_att; rw [fr_sc_a, fr_up_ne (by decide), fr_up_ne (by decide), fr_up_ne (by decide), fr_up_ne (by decide)]
  have e10 : (fr_att r (4 * i + p) (s 1).length).2 10 = r.2 10 := by unfold fr_att; rw [fr_sc_a, fr_up_ne (by decide), fr_up_ne (by decide), fr_up_ne (by decide), fr_up_ne (by decide)]
  have e11 : ∀ j, (fr_att r (4 * i + p) (s 1).length).2 11 j = if j = (s 1).length then -1 else r.2 11 j := fun j => by unfold fr_att; rw [fr_sc_a, fr_up_hit, fr_up_ne (by decide), fr_up_ne (by decide), fr_up_ne (by decide)]
  have hn := h2 (s 1).length (Nat.le_refl _) h6
  unfold fr_rH
  rw [hs, e7, e9, e10]
  refine ⟨by rw [List.length_append, List.length_singleton], fun j row hj => ⟨?_, ?_, ?_, ?_⟩, fun j hj hj6 => ?_⟩
  · exact fr_t_add (ix := fun k => k) (a := r.2 8) (g := fun row => nI 4 * row.getD 1 0 + row.getD 2 0) (fun k r' hr => (h1 k r' hr).1) (fun k hk => by rw [e8, if_neg (by omega)]) (by rw [e8, if_pos rfl]; show nI (4 * i + p) = nI 4 * nI i + nI p; rw [pk_mul, nI_add]) j row hj
  · exact fr_t_add (ix := fun k => k) (g := fun row => row.getD 3 0) (fun k r' hr => (h1 k r' hr).2.1) (fun _ _ => rfl) (row := [nI (s 1).length, nI i, nI p, 0, 0, -1]) hn.1 j row hj
  · exact fr_t_add (ix := fun k => k) (g := fun row => row.getD 4 0) (fun k r' hr => (h1 k r' hr).2.2.1) (fun _ _ => rfl) (row := [nI (s 1).length, nI i, nI p, 0, 0, -1]) hn.2 j row hj
  · exact fr_t_add (ix := fun k => k) (a := r.2 11) (g := fun row => row.getD 5 0) (fun k r' hr => (h1 k r' hr).2.2.2) (fun k hk => by rw [e11, if_neg (by omega)]) (by rw [e11, if_pos rfl]; rfl) j row hj
  · rw [List.length_append, List.length_singleton] at hj
    exact h2 j (by omega) hj6
theorem fr_rP.gen {s s' : fc_S} {r r' : fr_S} {e : Nat} {h o u : Int32} (H : fr_rP ns s (r.2 4) (r.2 5) (r.2 6)) (h1 : ∀ e', e' < 4 * ns → e' ≠ e → s' (100 + e') = s (100 + e')) (h2 : s' (100 + e) = [[h, o, u]]) (h4 : ∀ j, j ≠ e → r'.2 4 j = r.2 4 j ∧ r'.2 5 j = r.2 5 j ∧ r'.2 6 j = r.2 6 j) (h6 : r'.2 6 e = u) (ha : h = -1 → o = -1 → r'.2 4 e = nI 0) (hb : h ≠ -1 → r'.2 4 e = nI 1 ∧ r'.2 5 e = h) (hc : h = -1 → o ≠ -1 → r'.2 4 e = nI 2 ∧ r'.2 5 e = o) : fr_rP ns s' (r'.2 4) (r'.2 5) (r'.2 6) := by
  intro j hj
  by_cases q : j = e
  · subst q
    unfold fc_get
    rw [h2]
    exact ⟨h6, ha, hb, hc⟩
  · unfold fc_get
    rw [h1 j hj q, (h4 j q).1, (h4 j q).2.1, (h4 j q).2.2]
    exact H j hj
/-! what is looked for -/
theorem fr_find_ix {rows : List (List Int32)} {r : fr_S} {f lo : Nat} {x : Int32} {p : List Int32 → Bool} (h : ∀ (k : Nat) (row : List Int32), rows[k]? = some row → (r.2 f (lo + k) = x ↔ p row = true)) : fr_find r f lo rows.length x = rows.findIdx? p := by
  cases hx : rows.findIdx? p with
  | none =>
    refine fr_find_none (fun j hj e => ?_)
    have := List.findIdx?_eq_none_iff.mp hx _ (List.getElem_mem hj)
    rw [(h j _ (List.getElem?_eq_getElem hj)).mp e] at this
    cases this
  | some k =>
    obtain ⟨hk, hp, hj⟩ := List.findIdx?_eq_some_iff_getElem.mp hx
    refine fr_find_some hk (fun j hjk e => ?_) ((h k _ (List.getElem?_eq_getElem hk)).mpr hp)
    have := hj j hjk
    exact absurd ((h j _ (List.getElem?_eq_getElem (by omega))).mp e) this
theorem fr_pair {f t f' t' : Nat} (hf : f < 6) (ht : t < 6) (hf' : f' < 6) (ht' : t' < 6) : (nI 6 * nI f' + nI t' = nI (6 * f + t)) ↔ ((nI f' == nI f && nI t' == nI t) = true) := by
  rw [pk_mul, nI_add, nI_eq (by omega) (by omega), Bool.and_eq_true, beq_iff_eq, beq_iff_eq, nI_eq (by omega) (by omega), nI_eq (by omega) (by omega)]
  omega
theorem fr_rR.find {s : fc_S} {r : fr_S} (h : fr_rR ns s (r.2 19) (r.2 20) (r.2 21) (r.2 22) (r.2 23) (r.2 24)) (IR : fc_iR ns room s) {i f t : Nat} (hi : i < ns) (hf : f < 6) (ht : t < 6) : fr_find r 20 (8 * i) (s (20 + i)).length (nI (6 * f + t)) = fc_rix s i (nI f) (nI t) := by
  refine fr_find_ix (fun k row hr => ?_)
  obtain ⟨f', t', p, m, l, u, a, b, c, rfl⟩ := (IR i hi).2 row (List.mem_of_getElem? hr)
  rw [((h i hi).2 k _ hr).1]
  exact fr_pair hf ht a b
theorem fr_rK.find {s : fc_S} {r : fr_S} (h : fr_rK s (r.1 31) (r.1 32) (r.2 33) (r.2 34) (r.2 35) (r.2 36) (r.2 37) (r.2 38) (r.2 39) (r.2 40) (r.2 41)) (IK : fc_iK ns s) {f t : Nat} (hf : f < 6) (ht : t < 6) : fr_find r 33 0 (s 7).length (nI (6 * f + t)) = fc_cix s (nI f) (nI t) := by
  refine fr_find_ix (fun k row hr => ?_)
  obtain ⟨f', t', l, st, wv, aw, kp, kn, way, a, b, rfl, -⟩ := IK.2 row (List.mem_of_getElem? hr)
  rw [Nat.zero_add, (h.2.2 k _ hr).1]
  exact fr_pair hf ht a b
theorem fc_rix_out {s : fc_S} (IR : fc_iR ns room s) {i : Nat} (hi : i < ns) {x z : Int32} (h : ¬ ∃ f t : Nat, f < 6 ∧ t < 6 ∧ x = nI f ∧ z = nI t) : fc_rix s i x z = none := by
  refine fc_ix_none (fun j row hr => ?_)
  obtain ⟨f', t', p, m, l, u, a, b, c, rfl⟩ := (IR i hi).2 row (List.mem_of_getElem? hr)
  refine Bool.eq_false_iff.mpr (fun e => h ⟨f', t', a, b, ?_⟩)
  rw [Bool.and_eq_true, beq_iff_eq, beq_iff_eq] at e
  exact ⟨e.1.symm, e.2.symm⟩
theorem fc_cix_out {s : fc_S} (IK : fc_iK ns s) {x z : Int32} (h : ¬ ∃ f t : Nat, f < 6 ∧ t < 6 ∧ x = nI f ∧ z = nI t) : fc_cix s x z = none := by
  refine fc_ix_none (fun j row hr => ?_)
  obtain ⟨f', t', l, st, wv, aw, kp, kn, way, a, b, rfl, -⟩ := IK.2 row (List.mem_of_getElem? hr)
  refine Bool.eq_false_iff.mpr (fun e => h ⟨f', t', a, b, ?_⟩)
  rw [Bool.and_eq_true, beq_iff_eq, beq_iff_eq] at e
  exact ⟨e.1.symm, e.2.symm⟩
/-! courses -/
def fr_kr (c : Nat) (row : List Int32) (r : fr_S) : Prop := r.2 33 c = nI 6 * row.getD 0 0 + row.getD 1 0 ∧ r.2 34 c = row.getD 2 0 ∧ r.2 35 c = row.getD 3 0 ∧ (row.getD 2 0 = 1 → r.2 36 c = row.getD 4 0) ∧ r.2 37 c = row.getD 5 0 ∧ r.2 38 c = nI (row.drop 8).length ∧ (∀ (k : Nat) (e : Int32), (row.drop 8)[k]? = some e → r.2 39 (5 * c + k) = fr_wc e) ∧ r.2 40 c = row.getD 6 0 ∧ r.2 41 c = row.getD 7 0
theorem fr_rK.gen {s s' : fc_S} {r r' : fr_S} {c : Nat} {row' : List Int32} (h : fr_rK s (r.1 31) (r.1 32) (r.2 33) (r.2 34) (r.2 35) (r.2 36) (r.2 37) (r.2 38) (r.2 39) (r.2 40) (r.2 41)) (IK : ∀ (j : Nat) (row : List Int32), j ≠ c → (s 7)[j]? = some row → (row.drop 8).length ≤ 5) (h7 : s' 7 = (s 7).set c row') (h31 : r'.1 31 = fc_get s' 2 0 0) (h32 : r'.1 32 = r.1 32) (ho : ∀ i, i ≠ c → ∀ q ∈ [33, 34, 35, 36, 37, 38, 40, 41], r'.2 q i = r.2 q i) (h39 : ∀ i, i < 5 * c ∨ 5 * c + 5 ≤ i → r'.2 39 i = r.2 39 i) (hk : fr_kr c row' r') : fr_rK s' (r'.1 31) (r'.1 32) (r'.2 33) (r'.2 34) (r'.2 35) (r'.2 36) (r'.2 37) (r'.2 38) (r'.2 39) (r'.2 40) (r'.2 41) := by
  obtain ⟨-, h2, h3⟩ := h
  refine ⟨h31, by rw [h32, h2, h7, List.length_set], fun j row hj => ?_⟩
  rw [h7] at hj
  by_cases q : j = c
  · subst q
    have hl := (List.getElem?_eq_some_iff.mp hj).1
    rw [List.length_set] at hl
    rw [List.getElem?_set_self hl] at hj
    cases hj
    exact hk
  · rw [List.getElem?_set_ne (Ne.symm q)] at hj
    obtain ⟨a1, a2, a3, a4, a5, a6, a7, a8, a9⟩ := h3 j row hj
    have o := ho j q
    refine ⟨by rw [o 33 (by decide)]; exact a1, by rw [o 34 (by decide)]; exact a2, by rw [o 35 (by decide)]; exact a3, by rw [o 36 (by decide)]; exact a4, by rw [o 37 (by decide)]; exact a5, by rw [o 38 (by decide)]; exact a6, fun k e hke => ?_, by rw [o 40 (by decide)]; exact a8, by rw [o 41 (by decide)]; exact a9⟩
    have hk5 := (List.getElem?_eq_some_iff.mp hke).1
    have := IK j row q hj
    rw [h39 _ (by omega)]
    exact a7 k e hke
theorem fr_rK.row {s : fc_S} {r : fr_S} (h : fr_rK s (r.1 31) (r.1 32) (r.2 33) (r.2 34) (r.2 35) (r.2 36) (r.2 37) (r.2 38) (r.2 39) (r.2 40) (r.2 41)) {c : Nat} {row : List Int32} (hr : (s 7)[c]? = some row) : fr_kr c row r := h.2.2 c row hr
theorem fc_iK.w5 {s : fc_S} (IK : fc_iK ns s) (c : Nat) : ∀ (j : Nat) (row : List Int32), j ≠ c → (s 7)[j]? = some row → (row.drop 8).length ≤ 5 := fun j row _ hr => by
  obtain ⟨f', t', l, st, wv, aw, kp, kn, way, a, b, rfl, h4, h5, h6, h7, -⟩ := IK.2 row (List.mem_of_getElem? hr)
  exact h7
end INP
