/-! a course is laid, dropped: how the reference's numbers move -/
section IOB
variable {ns room idle : Nat}
variable {own : Int32 → Int32 × Int32} {W : Nat}
/-- all of the relation but one course -/
def fr_rx (ns room idle : Nat) (s : fc_S) (r : fr_S) (c : Nat) : Prop :=
  (r.1 0 = nI ns ∧ r.1 1 = nI room ∧ r.1 2 = nI idle ∧ r.1 3 = fc_get s 0 0 0) ∧ fr_rH s (r.1 7) (r.2 8) (r.2 9) (r.2 10) (r.2 11) ∧ fr_rP ns s (r.2 4) (r.2 5) (r.2 6) ∧ fr_rW ns s (r.2 12) (r.2 13) ∧ fr_rG ns s (r.2 14) (r.2 15) (r.2 16) (r.2 17) (r.2 18) ∧ fr_rR ns s (r.2 19) (r.2 20) (r.2 21) (r.2 22) (r.2 23) (r.2 24) ∧ fr_rL ns s (r.2 25) (r.2 26) ∧ fr_rO ns s (r.2 28) (r.2 29) (r.2 30) ∧ r.1 31 = fc_get s 2 0 0 ∧ r.1 32 = nI (s 7).length ∧ ∀ (j : Nat) (row : List Int32), j ≠ c → (s 7)[j]? = some row → fr_kr j row r
theorem fr_rel.rx {s : fc_S} {r : fr_S} (H : fr_rel ns room idle s r) (c : Nat) : fr_rx ns room idle s r c := ⟨H.1, H.2.1, H.2.2.1, H.2.2.2.1, H.2.2.2.2.1, H.2.2.2.2.2.1, H.2.2.2.2.2.2.1, H.2.2.2.2.2.2.2.1, H.2.2.2.2.2.2.2.2.1, H.2.2.2.2.2.2.2.2.2.1, fun j row _ hr => H.2.2.2.2.2.2.2.2.2.2 j row hr⟩
theorem fr_rx.fill {s : fc_S} {r : fr_S} {c : Nat} {row : List Int32} (H : fr_rx ns room idle s r c) (n5 : ns ≤ 5) (hc : c < (s 7).length) (hk : fr_kr c row r) : fr_rel ns room idle (fc_up s 7 ((s 7).set c row)) r := by
  obtain ⟨h0, hH, hP, hW, hG, hR, hL, hO, h31, h32, hK⟩ := H
  have ne : ∀ q, q ≠ 7 → fc_up s 7 ((s 7).set c row) q = s q := fun q hq => fc_up_ne _ hq
  refine ⟨⟨h0.1, h0.2.1, h0.2.2.1, by unfold fc_get; rw [ne _ (by omega)]; exact h0.2.2.2⟩, hH.same (ne _ (by omega)) rfl rfl rfl rfl rfl, hP.same (fun _ _ => ne _ (by omega)) rfl rfl rfl, hW.same (fun _ _ => ne _ (by omega)) rfl rfl, hG.same (fun _ _ => ne _ (by omega)) rfl rfl rfl rfl rfl, hR.same (fun _ _ => ne _ (by omega)) rfl rfl rfl rfl rfl rfl, hL.same (fun l hl => ne _ (by unfold fr_lc; split <;> omega)) rfl rfl, hO.same (ne _ (by omega)) (ne _ (by omega)) (ne _ (by omega)) rfl rfl rfl, by unfold fc_get; rw [ne _ (by omega)]; exact h31, by rw [fc_up_same, List.length_set]; exact h32, fun j row' hj => ?_⟩
  rw [fc_up_same] at hj
  by_cases e : j = c
  · subst e
    rw [List.getElem?_set_self hc] at hj
    cases hj
    exact hk
  · rw [List.getElem?_set_ne (Ne.symm e)] at hj
    exact hK j row' e hj
theorem fr_kr.keep {j : Nat} {row : List Int32} {r r' : fr_S} (h : fr_kr j row r) (h8 : ∀ q ∈ [33, 34, 35, 36, 37, 38, 40, 41], r'.2 q j = r.2 q j) (h39 : ∀ k, k < (row.drop 8).length → r'.2 39 (5 * j + k) = r.2 39 (5 * j + k)) : fr_kr j row r' := by
  obtain ⟨a1, a2, a3, a4, a5, a6, a7, a8, a9⟩ := h
  exact ⟨by rw [h8 33 (by decide)]; exact a1, by rw [h8 34 (by decide)]; exact a2, by rw [h8 35 (by decide)]; exact a3, by rw [h8 36 (by decide)]; exact a4, by rw [h8 37 (by decide)]; exact a5, by rw [h8 38 (by decide)]; exact a6, fun k e hk => by rw [h39 k (List.getElem?_eq_some_iff.mp hk).1]; exact a7 k e hk, by rw [h8 40 (by decide)]; exact a8, by rw [h8 41 (by decide)]; exact a9⟩
theorem fr_rx.mod {s : fc_S} {r r' : fr_S} {c : Nat} (H : fr_rx ns room idle s r c) (m : fr_sm [33, 34, 35, 36, 37, 38, 39, 40, 41, 42, 43] r r') (w5 : ∀ (j : Nat) (row : List Int32), j ≠ c → (s 7)[j]? = some row → (row.drop 8).length ≤ 5) (ho : ∀ i, i ≠ c → ∀ q ∈ [33, 34, 35, 36, 37, 38, 40, 41], r'.2 q i = r.2 q i) (h39 : ∀ i, i < 5 * c ∨ 5 * c + 5 ≤ i → r'.2 39 i = r.2 39 i) : fr_rx ns room idle s r' c := by
  obtain ⟨h0, hH, hP, hW, hG, hR, hL, hO, h31, h32, hK⟩ := H
  have m1 : ∀ q, q ∉ [33, 34, 35, 36, 37, 38, 39, 40, 41, 42, 43] → r'.1 q = r.1 q := fun q hq => (m q hq).1
  have m2 : ∀ q, q ∉ [33, 34, 35, 36, 37, 38, 39, 40, 41, 42, 43] → r'.2 q = r.2 q := fun q hq => (m q hq).2
  refine ⟨⟨by rw [m1 0 (by decide)]; exact h0.1, by rw [m1 1 (by decide)]; exact h0.2.1, by rw [m1 2 (by decide)]; exact h0.2.2.1, by rw [m1 3 (by decide)]; exact h0.2.2.2⟩, hH.same rfl (m1 7 (by decide)) (m2 8 (by decide)) (m2 9 (by decide)) (m2 10 (by decide)) (m2 11 (by decide)), hP.same (fun _ _ => rfl) (m2 4 (by decide)) (m2 5 (by decide)) (m2 6 (by decide)), hW.same (fun _ _ => rfl) (m2 12 (by decide)) (m2 13 (by decide)), hG.same (fun _ _ => rfl) (m2 14 (by decide)) (m2 15 (by decide)) (m2 16 (by decide)) (m2 17 (by decide)) (m2 18 (by decide)), hR.same (fun _ _ => rfl) (m2 19 (by decide)) (m2 20 (by decide)) (m2 21 (by decide)) (m2 22 (by decide)) (m2 23 (by decide)) (m2 24 (by decide)), hL.same (fun _ _ => rfl) (m2 25 (by decide)) (m2 26 (by decide)), hO.same rfl rfl rfl (m2 28 (by decide)) (m2 29 (by decide)) (m2 30 (by decide)), by rw [m1 31 (by decide)]; exact h31, by rw [m1 32 (by decide)]; exact h32, fun j row hj hr => (hK j row hj hr).keep (ho j hj) (fun k hk => h39 _ (by have := w5 j row hj hr; omega))⟩
/-- a row is added -/
theorem fr_rel.krow {s : fc_S} {r r' : fr_S} {row : List Int32} (H : fr_rel ns room idle s r) (n5 : ns ≤ 5) (w5 : ∀ (j : Nat) (row : List Int32), j ≠ (s 7).length → (s 7)[j]? = some row → (row.drop 8).length ≤ 5) (m : fr_sm [32, 33, 40, 41, 42, 43] r r') (h32 : r'.1 32 = nI ((s 7).length + 1)) (ho : ∀ i, i ≠ (s 7).length → r'.2 33 i = r.2 33 i ∧ r'.2 40 i = r.2 40 i ∧ r'.2 41 i = r.2 41 i) : fr_rx ns room idle (fc_add s 7 row) r' (s 7).length := by
  have ne : ∀ q, q ≠ 7 → fc_add s 7 row q = s q := fun q hq => fc_add_ne _ hq
  refine ⟨H.S m (by decide) (ne _ (by omega)), H.H m (by decide) (ne _ (by omega)), H.P m (by decide) (fun _ _ => ne _ (by omega)), H.W m (by decide) (fun _ _ => ne _ (by omega)), H.G m (by decide) (fun _ _ => ne _ (by omega)), H.R m (by decide) (fun _ _ => ne _ (by omega)), H.L m (by decide) (fun l hl => ne _ (by unfold fr_lc; split <;> omega)), H.O m (by decide) (ne _ (by omega)) (ne _ (by omega)) (ne _ (by omega)), ?_, ?_, fun j row' hj hr => ?_⟩
  · rw [(m 31 (by decide)).1, H.2.2.2.2.2.2.2.2.1]
    unfold fc_get
    rw [ne _ (by omega)]
  · rw [h32, fc_add_same, List.length_append, List.length_singleton]
  · rw [fc_add_same] at hr
    have hlt := (List.getElem?_eq_some_iff.mp hr).1
    rw [List.length_append, List.length_singleton] at hlt
    rw [List.getElem?_append_left (by omega)] at hr
    exact (H.2.2.2.2.2.2.2.2.row hr).keep (fr_mem8 (ho j hj).1 (by rw [(m 34 (by decide)).2]) (by rw [(m 35 (by decide)).2]) (by rw [(m 36 (by decide)).2]) (by rw [(m 37 (by decide)).2]) (by rw [(m 38 (by decide)).2]) (ho j hj).2.1 (ho j hj).2.2) (fun k _ => by rw [(m 39 (by decide)).2])
theorem fc_lay_alt {s : fc_S} {c f t m : Nat} {st wv aw ld kp kn x0 wv' ld' : Int32} {way0 way : List Int32} (hr : (s 7)[c]? = some ([nI f, nI t, st, wv, aw, ld, kp, kn] ++ way0)) (h2 : s 2 = [[x0]]) (hne : way.length ≠ 0) (h5 : way.length ≤ 5) (hx : way[way.length - 1]? = some (nI m)) (hm : m < 1000) : fc_lay s c way = fc_add (fc_add (fc_up (fc_put (fc_up s 7 ((s 7).set c ([nI f, nI t, 2, wv', aw, ld', kp, kn] ++ way))) 2 0 0 (x0 + 1)) 7 ((fc_up s 7 ((s 7).set c ([nI f, nI t, 2, wv', aw, ld', kp, kn] ++ way)) 7).set c ([nI f, nI t, 2, x0 + 1, aw, nI (way.length - 1), kp, kn] ++ way))) (30 + m / 4) [0, nI (m % 4), nI f, nI t, 0]) (30 + m / 4) [2, x0 + 1, -1, -1, 0] := by
  have hc := (List.getElem?_eq_some_iff.mp hr).1
  have hr4 : ((fc_up s 7 ((s 7).set c ([nI f, nI t, 2, wv, aw, nI way.length, kp, kn] ++ way))) 7)[c]? = some ([nI f, nI t, 2, wv, aw, nI (way.length - 1 + 1), kp, kn] ++ way) := by rw [fc_up_same, List.getElem?_set_self hc, show way.length - 1 + 1 = way.length by omega]
  have h24 : (fc_up s 7 ((s 7).set c ([nI f, nI t, 2, wv, aw, nI way.length, kp, kn] ++ way))) 2 = [[x0]] := by rw [fc_up_ne _ (by omega), h2]
  rw [fc_lay_row hr, fc_lead_eq hr4 h24 (by omega) hm hx]
  congr 2
  rw [fc_put_up (by omega), fc_put_up (by omega), fc_up_twice, fc_up_twice, fc_up_same, fc_up_same, List.set_set, List.set_set]
theorem fc_wayOf_ld {s : fc_S} (n5 : ns ≤ 5) (Io : fc_iO ns s) {f t : Nat} (hf : f < 6) (ht : t < 6) {k : Nat} (hk : k + 1 < (fc_wayOf ns s (nI f) (nI t)).length) : ∃ m m', m < 4 * ns ∧ m' < 4 * ns ∧ (fc_wayOf ns s (nI f) (nI t))[k]? = some (nI m) ∧ (fc_wayOf ns s (nI f) (nI t))[k + 1]? = some (nI m') ∧ fc_E s (m / 4) (m' / 4) = true ∧ m % 4 = fc_ld s (m / 4) (m' / 4) := by
  rcases fc_plc Io hf with h | ⟨a, ha, h⟩
  · rw [fc_wayOf_no (by omega) (by omega) (Or.inl h)] at hk; exact absurd hk (Nat.not_lt_zero _)
  rcases fc_plc Io ht with h' | ⟨b, hb, h'⟩
  · rw [fc_wayOf_no (by omega) (by omega) (Or.inr h')] at hk; exact absurd hk (Nat.not_lt_zero _)
  cases hL : pw_L ns (fc_E s) (b / 4) ns (a / 4) with
  | none => rw [fc_wayOf_n (by omega) (by omega) (by omega) (by omega) h h' hL] at hk; exact absurd hk (Nat.not_lt_zero _)
  | some d =>
    have eW := fc_wayOf_d (ns := ns) (s := s) (show f < 1000 by omega) (show t < 1000 by omega) (show a < 1000 by omega) (show b < 1000 by omega) h h' hL
    rw [eW] at hk ⊢
    have hw := (pw_L_some.mp hL).2.1
    have hkd : k < d := by simpa using hk
    have hu : a / 4 < ns := by omega
    have e1 := pw_at_edge hw hkd
    have l1 := pw_at_lt (i := k) hu hw (by omega)
    have l2 := pw_at_lt (i := k + 1) hu hw (by omega)
    have d4 := (fc_ld_ok e1).1
    have x1 : ((List.range d).map (fc_wF ns s (b / 4) d (a / 4)) ++ [nI b])[k]? = some (nI (4 * pw_at ns (fc_E s) (b / 4) d (a / 4) k + fc_ld s (pw_at ns (fc_E s) (b / 4) d (a / 4) k) (pw_at ns (fc_E s) (b / 4) d (a / 4) (k + 1)))) := by
      rw [List.getElem?_append_left (by simpa using hkd)]
      simp [hkd, fc_wF]
    by_cases hk2 : k + 1 < d
    · have e2 := pw_at_edge hw hk2
      have d4' := (fc_ld_ok e2).1
      have l3 := pw_at_lt (i := k + 1 + 1) hu hw (by omega)
      have x2 : ((List.range d).map (fc_wF ns s (b / 4) d (a / 4)) ++ [nI b])[k + 1]? = some (nI (4 * pw_at ns (fc_E s) (b / 4) d (a / 4) (k + 1) + fc_ld s (pw_at ns (fc_E s) (b / 4) d (a / 4) (k + 1)) (pw_at ns (fc_E s) (b / 4) d (a / 4) (k + 1 + 1)))) := by
        rw [List.getElem?_append_left (by simpa using hk2)]
        simp [hk2, fc_wF]
      refine ⟨_, _, ?_, ?_, x1, x2, ?_, ?_⟩
      · omega
      · omega
      · rw [show ∀ q p, p < 4 → (4 * q + p) / 4 = q from fun q p hp => by omega, show ∀ q p, p < 4 → (4 * q + p) / 4 = q from fun q p hp => by omega]
        · exact e1
        · exact d4'
        · exact d4
      · rw [show ∀ q p, p < 4 → (4 * q + p) / 4 = q from fun q p hp => by omega, show ∀ q p, p < 4 → (4 * q + p) / 4 = q from fun q p hp => by omega]
        · omega
        · exact d4'
        · exact d4
    · have ed : k + 1 = d := by omega
      have x2 : ((List.range d).map (fc_wF ns s (b / 4) d (a / 4)) ++ [nI b])[k + 1]? = some (nI b) := by
        rw [List.getElem?_append_right (by simp; omega)]
        simp [ed]
      have eb : pw_at ns (fc_E s) (b / 4) d (a / 4) (k + 1) = b / 4 := by rw [ed]; exact pw_at_last hw
      have p4 : (4 * pw_at ns (fc_E s) (b / 4) d (a / 4) k + fc_ld s (pw_at ns (fc_E s) (b / 4) d (a / 4) k) (pw_at ns (fc_E s) (b / 4) d (a / 4) (k + 1))) / 4 = pw_at ns (fc_E s) (b / 4) d (a / 4) k := by omega
      have m4 : (4 * pw_at ns (fc_E s) (b / 4) d (a / 4) k + fc_ld s (pw_at ns (fc_E s) (b / 4) d (a / 4) k) (pw_at ns (fc_E s) (b / 4) d (a / 4) (k + 1))) % 4 = fc_ld s (pw_at ns (fc_E s) (b / 4) d (a / 4) k) (pw_at ns (fc_E s) (b / 4) d (a / 4) (k + 1)) := by omega
      refine ⟨_, b, ?_, hb, x1, x2, ?_, ?_⟩
      · omega
      · rw [p4]
        rw [eb] at e1
        exact e1
      · rw [m4, p4, eb]
theorem fc_wayOf_last {s : fc_S} (n5 : ns ≤ 5) (Io : fc_iO ns s) {f t : Nat} (hf : f < 6) (ht : t < 6) (hne : fc_wayOf ns s (nI f) (nI t) ≠ []) : ∃ b, b < 4 * ns ∧ fc_get s 5 0 t = nI b ∧ (fc_wayOf ns s (nI f) (nI t))[(fc_wayOf ns s (nI f) (nI t)).length - 1]? = some (nI b) := by
  rcases fc_plc Io hf with h | ⟨a, ha, h⟩
  · exact absurd (fc_wayOf_no (by omega) (by omega) (Or.inl h)) hne
  rcases fc_plc Io ht with h' | ⟨b, hb, h'⟩
  · exact absurd (fc_wayOf_no (by omega) (by omega) (Or.inr h')) hne
  cases hL : pw_L ns (fc_E s) (b / 4) ns (a / 4) with
  | none => exact absurd (fc_wayOf_n (by omega) (by omega) (by omega) (by omega) h h' hL) hne
  | some d =>
    have eW := fc_wayOf_d (ns := ns) (s := s) (show f < 1000 by omega) (show t < 1000 by omega) (show a < 1000 by omega) (show b < 1000 by omega) h h' hL
    refine ⟨b, hb, h', ?_⟩
    rw [eW]
    simp
/-! a course is dropped -/
def fr_drp (r : fr_S) (n c q : Nat) : fr_S := fr_sh (fr_sh (fr_sc r 32 (nI (n - 1))) [33, 34, 35, 36, 37, 38, 40, 41] c q 1) [39] (5 * c) (5 * q) 5
theorem fr_drp_8 {r : fr_S} {n c q f : Nat} (hf : f ∈ [33, 34, 35, 36, 37, 38, 40, 41]) (j : Nat) : (fr_drp r n c q).2 f j = if c ≤ j ∧ j < c + q then r.2 f (j + 1) else r.2 f j := by
  unfold fr_drp
  rw [fr_sh_not (fun z => by rw [List.mem_singleton] at z; subst z; exact absurd hf (by decide)), fr_sh_hit hf]
  rfl
theorem fr_drp_39 {r : fr_S} {n c q : Nat} (j : Nat) : (fr_drp r n c q).2 39 j = if 5 * c ≤ j ∧ j < 5 * c + 5 * q then r.2 39 (j + 5) else r.2 39 j := by
  unfold fr_drp
  rw [fr_sh_hit (by decide), fr_sh_not (by decide), fr_sh_not (by decide)]
  rfl
theorem fr_rel.drp {s : fc_S} {r : fr_S} (H : fr_rel ns room idle s r) (n5 : ns ≤ 5) {c : Nat} (hc : c < (s 7).length) (w5 : ∀ (j : Nat) (row : List Int32), (s 7)[j]? = some row → (row.drop 8).length ≤ 5) : fr_rel ns room idle (fc_del s 7 c) (fr_drp r (s 7).length c ((s 7).length - 1 - c)) := by
  have m : fr_sm [31, 32, 33, 34, 35, 36, 37, 38, 39, 40, 41, 42, 43] r (fr_drp r (s 7).length c ((s 7).length - 1 - c)) := (((fr_sm.refl _ r).sc (by decide) _).sh (by decide) _ _ _).sh (by decide) _ _ _
  refine H.kset n5 (fun q h2 h7 => fc_del_ne _ h7) m ⟨?_, ?_, fun j row hj => ?_⟩
  · show r.1 31 = _
    rw [H.2.2.2.2.2.2.2.2.1]
    unfold fc_get
    rw [fc_del_ne _ (by omega)]
  · rw [fc_del_same, List.length_eraseIdx, if_pos hc]
    rfl
  · rw [fc_del_same, List.getElem?_eraseIdx] at hj
    show fr_kr j row _
    by_cases q : j < c
    · rw [if_pos q] at hj
      refine (H.2.2.2.2.2.2.2.2.row hj).keep (fun f hf => by rw [fr_drp_8 hf, if_neg (by omega)]) (fun k hk => ?_)
      have := w5 j row hj
      rw [fr_drp_39, if_neg (by omega)]
    · rw [if_neg q] at hj
      have hj1 := (List.getElem?_eq_some_iff.mp hj).1
      obtain ⟨a1, a2, a3, a4, a5, a6, a7, a8, a9⟩ := H.2.2.2.2.2.2.2.2.row hj
      have g : ∀ f ∈ [33, 34, 35, 36, 37, 38, 40, 41], (fr_drp r (s 7).length c ((s 7).length - 1 - c)).2 f j = r.2 f (j + 1) := fun f hf => by rw [fr_drp_8 hf, if_pos (by omega)]
      refine ⟨by rw [g 33 (by decide)]; exact a1, by rw [g 34 (by decide)]; exact a2, by rw [g 35 (by decide)]; exact a3, by rw [g 36 (by decide)]; exact a4, by rw [g 37 (by decide)]; exact a5, by rw [g 38 (by decide)]; exact a6, fun k e hk => ?_, by rw [g 40 (by decide)]; exact a8, by rw [g 41 (by decide)]; exact a9⟩
      have hk5 := (List.getElem?_eq_some_iff.mp hk).1
      have := w5 _ row hj
      rw [fr_drp_39, if_pos (by omega), show 5 * j + k + 5 = 5 * (j + 1) + k by omega]
      exact a7 k e hk
end IOB
