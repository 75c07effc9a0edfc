/-! how the reference's courses move -/
section IOA
variable {ns room idle : Nat}
variable {own : Int32 → Int32 × Int32} {W : Nat}
theorem fr_rel.kset {s s' : fc_S} {r r' : fr_S} (H : fr_rel ns room idle s r) (n5 : ns ≤ 5) (ne : ∀ q, q ≠ 2 → q ≠ 7 → s' q = s q) (m : fr_sm [31, 32, 33, 34, 35, 36, 37, 38, 39, 40, 41, 42, 43] r r') (hK : fr_rK s' (r'.1 31) (r'.1 32) (r'.2 33) (r'.2 34) (r'.2 35) (r'.2 36) (r'.2 37) (r'.2 38) (r'.2 39) (r'.2 40) (r'.2 41)) : fr_rel ns room idle s' r' := ⟨H.S m (by decide) (ne _ (by omega) (by omega)), H.H m (by decide) (ne _ (by omega) (by omega)), H.P m (by decide) (fun _ _ => ne _ (by omega) (by omega)), H.W m (by decide) (fun _ _ => ne _ (by omega) (by omega)), H.G m (by decide) (fun _ _ => ne _ (by omega) (by omega)), H.R m (by decide) (fun _ _ => ne _ (by omega) (by omega)), H.L m (by decide) (fun l hl => ne _ (by unfold fr_lc; split <;> omega) (by unfold fr_lc; split <;> omega)), H.O m (by decide) (ne _ (by omega) (by omega)) (ne _ (by omega) (by omega)) (ne _ (by omega) (by omega)), hK⟩
theorem fr_mem8 {P : Nat → Prop} (h33 : P 33) (h34 : P 34) (h35 : P 35) (h36 : P 36) (h37 : P 37) (h38 : P 38) (h40 : P 40) (h41 : P 41) : ∀ q ∈ [33, 34, 35, 36, 37, 38, 40, 41], P q := by
  intro q hq
  simp only [List.mem_cons, List.not_mem_nil, or_false] at hq
  rcases hq with rfl | rfl | rfl | rfl | rfl | rfl | rfl | rfl <;> assumption
theorem fc_set_same {rows : List (List Int32)} {c : Nat} {row : List Int32} (h : rows[c]? = some row) : rows.set c row = rows := by
  refine List.ext_getElem? (fun j => ?_)
  by_cases e : j = c
  · subst e
    rw [List.getElem?_set_self (List.getElem?_eq_some_iff.mp h).1, h]
  · rw [List.getElem?_set_ne (Ne.symm e)]
/-- a course is led to the switch k of its way: the numbers -/
def fr_ld1 (r : fr_S) (c k : Nat) (x : Int32) : fr_S := fr_up (fr_sc (fr_up r 37 c (nI k)) 31 x) 35 c x
theorem fr_rel.ld1 {s : fc_S} {r : fr_S} (H : fr_rel ns room idle s r) (n5 : ns ≤ 5) {c k : Nat} {f t st wv aw ld kp kn x0 : Int32} {way : List Int32} (h2 : s 2 = [[x0]]) (hr : (s 7)[c]? = some ([f, t, st, wv, aw, ld, kp, kn] ++ way)) (w5 : ∀ (j : Nat) (row : List Int32), j ≠ c → (s 7)[j]? = some row → (row.drop 8).length ≤ 5) : fr_rel ns room idle (fc_up (fc_put s 2 0 0 (x0 + 1)) 7 ((s 7).set c ([f, t, st, x0 + 1, aw, nI k, kp, kn] ++ way))) (fr_ld1 r c k (x0 + nI 1)) := by
  have hc := (List.getElem?_eq_some_iff.mp hr).1
  obtain ⟨a1, a2, a3, a4, a5, a6, a7, a8, a9⟩ := H.2.2.2.2.2.2.2.2.row hr
  have e35 : ∀ j, (fr_ld1 r c k (x0 + nI 1)).2 35 j = if j = c then x0 + nI 1 else r.2 35 j := fun j => by unfold fr_ld1; rw [fr_up_hit, fr_sc_a, fr_up_ne (by decide)]
  have e37 : ∀ j, (fr_ld1 r c k (x0 + nI 1)).2 37 j = if j = c then nI k else r.2 37 j := fun j => by unfold fr_ld1; rw [fr_up_ne (by decide), fr_sc_a, fr_up_hit]
  have oth : ∀ q, q ≠ 35 → q ≠ 37 → (fr_ld1 r c k (x0 + nI 1)).2 q = r.2 q := fun q h1 h2 => by unfold fr_ld1; rw [fr_up_ne h1, fr_sc_a, fr_up_ne h2]
  refine H.kset n5 (fun q h2 h7 => by rw [fc_up_ne _ h7, fc_put_ne _ _ _ h2]) (((fr_sm.refl _ r).up (by decide) _ _ |>.sc (by decide) _).up (by decide) _ _) (H.2.2.2.2.2.2.2.2.gen (c := c) (row' := [f, t, st, x0 + 1, aw, nI k, kp, kn] ++ way) w5 (fc_up_same _ _ _) ?_ rfl (fun i hi => fr_mem8 (by rw [oth _ (by decide) (by decide)]) (by rw [oth _ (by decide) (by decide)]) (by rw [e35, if_neg hi]) (by rw [oth _ (by decide) (by decide)]) (by rw [e37, if_neg hi]) (by rw [oth _ (by decide) (by decide)]) (by rw [oth _ (by decide) (by decide)]) (by rw [oth _ (by decide) (by decide)])) (fun i _ => by rw [oth _ (by decide) (by decide)]) ⟨by rw [oth _ (by decide) (by decide)]; exact a1, by rw [oth _ (by decide) (by decide)]; exact a2, by rw [e35, if_pos rfl]; rfl, by rw [oth _ (by decide) (by decide)]; exact a4, by rw [e37, if_pos rfl]; rfl, by rw [oth _ (by decide) (by decide)]; exact a6, fun j e he => by rw [oth _ (by decide) (by decide)]; exact a7 j e he, by rw [oth _ (by decide) (by decide)]; exact a8, by rw [oth _ (by decide) (by decide)]; exact a9⟩)
  show x0 + nI 1 = fc_get _ 2 0 0
  unfold fc_get
  rw [fc_up_ne _ (by omega)]
  unfold fc_put
  rw [fc_up_same, h2]
  rfl
/-- a course is cleared: the numbers -/
def fr_cl1 (r : fr_S) (c : Nat) (x y : Int32) : fr_S := fr_up (fr_up (fr_sc (fr_up r 34 c (nI 1)) 31 x) 35 c x) 36 c y
theorem fr_rel.cl1 {s : fc_S} {r : fr_S} (H : fr_rel ns room idle s r) (n5 : ns ≤ 5) {c : Nat} {f t st wv aw ld kp kn x0 : Int32} {way : List Int32} (h2 : s 2 = [[x0]]) (hr : (s 7)[c]? = some ([f, t, st, wv, aw, ld, kp, kn] ++ way)) (w5 : ∀ (j : Nat) (row : List Int32), j ≠ c → (s 7)[j]? = some row → (row.drop 8).length ≤ 5) : fr_rel ns room idle (fc_cb s c) (fr_cl1 r c (x0 + nI 1) (nI way.length)) := by
  have hc := (List.getElem?_eq_some_iff.mp hr).1
  obtain ⟨a1, a2, a3, a4, a5, a6, a7, a8, a9⟩ := H.2.2.2.2.2.2.2.2.row hr
  rw [(fc_cb_eq hr h2).1]
  have e34 : ∀ j, (fr_cl1 r c (x0 + nI 1) (nI way.length)).2 34 j = if j = c then nI 1 else r.2 34 j := fun j => by unfold fr_cl1; rw [fr_up_ne (by decide), fr_up_ne (by decide), fr_sc_a, fr_up_hit]
  have e35 : ∀ j, (fr_cl1 r c (x0 + nI 1) (nI way.length)).2 35 j = if j = c then x0 + nI 1 else r.2 35 j := fun j => by unfold fr_cl1; rw [fr_up_ne (by decide), fr_up_hit, fr_sc_a, fr_up_ne (by decide)]
  have e36 : ∀ j, (fr_cl1 r c (x0 + nI 1) (nI way.length)).2 36 j = if j = c then nI way.length else r.2 36 j := fun j => by unfold fr_cl1; rw [fr_up_hit, fr_up_ne (by decide), fr_sc_a, fr_up_ne (by decide)]
  have oth : ∀ q, q ≠ 34 → q ≠ 35 → q ≠ 36 → (fr_cl1 r c (x0 + nI 1) (nI way.length)).2 q = r.2 q := fun q h1 h2 h3 => by unfold fr_cl1; rw [fr_up_ne h3, fr_up_ne h2, fr_sc_a, fr_up_ne h1]
  refine H.kset n5 (fun q h2 h7 => by rw [fc_up_ne _ h7, fc_put_ne _ _ _ h2]) ((((fr_sm.refl _ r).up (by decide) _ _ |>.sc (by decide) _).up (by decide) _ _).up (by decide) _ _) (H.2.2.2.2.2.2.2.2.gen (c := c) (row' := [f, t, 1, x0 + 1, nI way.length, ld, kp, kn] ++ way) w5 (fc_up_same _ _ _) ?_ rfl (fun i hi => fr_mem8 (by rw [oth _ (by decide) (by decide) (by decide)]) (by rw [e34, if_neg hi]) (by rw [e35, if_neg hi]) (by rw [e36, if_neg hi]) (by rw [oth _ (by decide) (by decide) (by decide)]) (by rw [oth _ (by decide) (by decide) (by decide)]) (by rw [oth _ (by decide) (by decide) (by decide)]) (by rw [oth _ (by decide) (by decide) (by decide)])) (fun i _ => by rw [oth _ (by decide) (by decide) (by decide)]) ⟨by rw [oth _ (by decide) (by decide) (by decide)]; exact a1, by rw [e34, if_pos rfl]; rfl, by rw [e35, if_pos rfl]; rfl, fun _ => by rw [e36, if_pos rfl]; rfl, by rw [oth _ (by decide) (by decide) (by decide)]; exact a5, by rw [oth _ (by decide) (by decide) (by decide)]; exact a6, fun j e he => by rw [oth _ (by decide) (by decide) (by decide)]; exact a7 j e he, by rw [oth _ (by decide) (by decide) (by decide)]; exact a8, by rw [oth _ (by decide) (by decide) (by decide)]; exact a9⟩)
  show x0 + nI 1 = fc_get _ 2 0 0
  unfold fc_get
  rw [fc_up_ne _ (by omega)]
  unfold fc_put
  rw [fc_up_same, h2]
  rfl
/-- lists stay short enough while orders are given -/
def fr_room (ns n : Nat) (s : fc_S) : Prop := ∀ i, i < ns → (s (30 + i)).length ≤ n ∧ (s (40 + i)).length ≤ 60
theorem fr_room.l60 {s : fc_S} {n : Nat} (h : fr_room ns n s) (hn : n ≤ 60) : ∀ l, l < 2 * ns → (s (fr_lc l)).length ≤ 60 := fun l hl => by
  unfold fr_lc
  split
  · exact Nat.le_trans (h (l / 2) (by omega)).1 hn
  · exact (h (l / 2) (by omega)).2
theorem fr_room.add {s : fc_S} {n i : Nat} (n5 : ns ≤ 5) (h : fr_room ns n s) (hi : i < ns) (row : List Int32) : fr_room ns (n + 1) (fc_add s (30 + i) row) := fun j hj => by
  have := h j hj
  refine ⟨?_, by rw [fc_add_ne _ (by omega)]; exact this.2⟩
  by_cases e : j = i
  · subst e; rw [fc_add_same, List.length_append, List.length_singleton]; omega
  · rw [fc_add_ne _ (by omega)]; omega
theorem fr_room.same {s s' : fc_S} {n : Nat} (h : fr_room ns n s) (e : ∀ i, i < ns → s' (30 + i) = s (30 + i) ∧ s' (40 + i) = s (40 + i)) : fr_room ns n s' := fun i hi => by rw [(e i hi).1, (e i hi).2]; exact h i hi
theorem fz_J.rm46 {s : fc_S} (J : fz_J own W ns room s) : fr_room ns 46 s := fun i hi => ⟨(J.short hi).1, by have := (J.short hi).2; omega⟩
theorem fr_wc_nI {m : Nat} (hm : m < 1000) : fr_wc (nI m) = nI (5 * (m / 4) + m % 4) := by unfold fr_wc; rw [nI_clamp (by omega)]
theorem fr_kr.way {c : Nat} {f t st wv aw ld kp kn : Int32} {way : List Int32} {r : fr_S} (h : fr_kr c ([f, t, st, wv, aw, ld, kp, kn] ++ way) r) {k m : Nat} (hx : way[k]? = some (nI m)) (hm : m < 1000) : r.2 39 (5 * c + k) = nI (5 * (m / 4) + m % 4) := by rw [← fr_wc_nI hm]; exact h.2.2.2.2.2.2.1 k _ hx
/-- keeps and kept number, state -/
theorem fr_rel.kone {s : fc_S} {r r' : fr_S} (H : fr_rel ns room idle s r) (n5 : ns ≤ 5) {c : Nat} {row' : List Int32} (w5 : ∀ (j : Nat) (row : List Int32), j ≠ c → (s 7)[j]? = some row → (row.drop 8).length ≤ 5) (m : fr_sm [31, 32, 33, 34, 35, 36, 37, 38, 39, 40, 41, 42, 43] r r') (h31 : r'.1 31 = r.1 31) (h32 : r'.1 32 = r.1 32) (ho : ∀ i, i ≠ c → ∀ q ∈ [33, 34, 35, 36, 37, 38, 40, 41], r'.2 q i = r.2 q i) (h39 : ∀ i, i < 5 * c ∨ 5 * c + 5 ≤ i → r'.2 39 i = r.2 39 i) (hk : fr_kr c row' r') : fr_rel ns room idle (fc_up s 7 ((s 7).set c row')) r' := H.kset n5 (fun q h2 h7 => fc_up_ne _ h7) m (H.2.2.2.2.2.2.2.2.gen w5 (fc_up_same _ _ _) (by rw [h31, H.2.2.2.2.2.2.2.2.1]; unfold fc_get; rw [fc_up_ne _ (by omega)]) h32 ho h39 hk)
theorem fr_kr.of {c : Nat} {f t st wv aw ld kp kn : Int32} {way : List Int32} {r r' : fr_S} (h : fr_kr c ([f, t, st, wv, aw, ld, kp, kn] ++ way) r) {st' aw' kp' kn' : Int32} (e33 : r'.2 33 c = r.2 33 c) (e34 : r'.2 34 c = st') (e35 : r'.2 35 c = r.2 35 c) (e36 : st' = 1 → r'.2 36 c = aw') (e37 : r'.2 37 c = r.2 37 c) (e38 : r'.2 38 c = r.2 38 c) (e39 : r'.2 39 = r.2 39) (e40 : r'.2 40 c = kp') (e41 : r'.2 41 c = kn') : fr_kr c ([f, t, st', wv, aw', ld, kp', kn'] ++ way) r' := by
  obtain ⟨a1, a2, a3, a4, a5, a6, a7, a8, a9⟩ := h
  exact ⟨by rw [e33]; exact a1, e34, by rw [e35]; exact a3, e36, by rw [e37]; exact a5, by rw [e38]; exact a6, fun k e hk => by rw [e39]; exact a7 k e hk, e40, e41⟩
theorem fr_rel.keep {s : fc_S} {r : fr_S} (H : fr_rel ns room idle s r) (n5 : ns ≤ 5) {c : Nat} {f t st wv aw ld kp kn : Int32} {way : List Int32} (hr : (s 7)[c]? = some ([f, t, st, wv, aw, ld, kp, kn] ++ way)) (w5 : ∀ (j : Nat) (row : List Int32), j ≠ c → (s 7)[j]? = some row → (row.drop 8).length ≤ 5) (x : Int32) : fr_rel ns room idle (fc_up s 7 ((s 7).set c ([f, t, st, wv, aw, ld, 1, x] ++ way))) (fr_keep r c x) := by
  have h := H.2.2.2.2.2.2.2.2.row hr
  have e40 : ∀ j, (fr_keep r c x).2 40 j = if j = c then nI 1 else r.2 40 j := fun j => by unfold fr_keep; rw [fr_up_ne (by decide), fr_up_hit]
  have e41 : ∀ j, (fr_keep r c x).2 41 j = if j = c then x else r.2 41 j := fun j => by unfold fr_keep; rw [fr_up_hit, fr_up_ne (by decide)]
  have oth : ∀ q, q ≠ 40 → q ≠ 41 → (fr_keep r c x).2 q = r.2 q := fun q h1 h2 => by unfold fr_keep; rw [fr_up_ne h2, fr_up_ne h1]
  exact H.kone n5 w5 (((fr_sm.refl _ r).up (by decide) _ _).up (by decide) _ _) rfl rfl (fun i hi => fr_mem8 (by rw [oth _ (by decide) (by decide)]) (by rw [oth _ (by decide) (by decide)]) (by rw [oth _ (by decide) (by decide)]) (by rw [oth _ (by decide) (by decide)]) (by rw [oth _ (by decide) (by decide)]) (by rw [oth _ (by decide) (by decide)]) (by rw [e40, if_neg hi]) (by rw [e41, if_neg hi])) (fun i _ => by rw [oth _ (by decide) (by decide)]) (h.of (by rw [oth _ (by decide) (by decide)]) (by rw [oth _ (by decide) (by decide)]; exact h.2.1) (by rw [oth _ (by decide) (by decide)]) (fun e => by rw [oth _ (by decide) (by decide)]; exact h.2.2.2.1 e) (by rw [oth _ (by decide) (by decide)]) (by rw [oth _ (by decide) (by decide)]) (oth _ (by decide) (by decide)) (by rw [e40, if_pos rfl]; rfl) (by rw [e41, if_pos rfl]))
/-- one field of a course is written -/
theorem fr_rel.k1 {s : fc_S} {r : fr_S} (H : fr_rel ns room idle s r) (n5 : ns ≤ 5) {c q : Nat} {x : Int32} {f t st wv aw ld kp kn st' aw' kp' : Int32} {way : List Int32} (hr : (s 7)[c]? = some ([f, t, st, wv, aw, ld, kp, kn] ++ way)) (w5 : ∀ (j : Nat) (row : List Int32), j ≠ c → (s 7)[j]? = some row → (row.drop 8).length ≤ 5) (hq : (q = 34 ∧ st' = x ∧ ¬ x = 1 ∧ aw' = aw ∧ kp' = kp) ∨ (q = 36 ∧ aw' = x ∧ st' = st ∧ kp' = kp) ∨ (q = 40 ∧ kp' = x ∧ st' = st ∧ aw' = aw)) : fr_rel ns room idle (fc_up s 7 ((s 7).set c ([f, t, st', wv, aw', ld, kp', kn] ++ way))) (fr_up r q c x) := by
  have h := H.2.2.2.2.2.2.2.2.row hr
  have m : fr_sm [31, 32, 33, 34, 35, 36, 37, 38, 39, 40, 41, 42, 43] r (fr_up r q c x) := (fr_sm.refl _ r).up (by rcases hq with ⟨e, -⟩ | ⟨e, -⟩ | ⟨e, -⟩ <;> subst e <;> decide) _ _
  have at' : ∀ q' j, (fr_up r q c x).2 q' j = if q' = q ∧ j = c then x else r.2 q' j := fun _ _ => rfl
  have hq39 : q ≠ 39 := by rcases hq with ⟨e, -⟩ | ⟨e, -⟩ | ⟨e, -⟩ <;> omega
  refine H.kone n5 w5 m rfl rfl (fun i hi q' _ => by rw [at', if_neg (fun z => hi z.2)]) (fun i _ => by rw [at', if_neg (fun z => hq39 z.1.symm)]) ?_
  rcases hq with ⟨rfl, rfl, h1, rfl, rfl⟩ | ⟨rfl, rfl, rfl, rfl⟩ | ⟨rfl, rfl, rfl, rfl⟩
  · exact h.of rfl (by rw [at', if_pos ⟨rfl, rfl⟩]) rfl (fun z => absurd z h1) rfl rfl (fr_up_ne (by decide)) h.2.2.2.2.2.2.2.1 h.2.2.2.2.2.2.2.2
  · exact h.of rfl h.2.1 rfl (fun _ => by rw [at', if_pos ⟨rfl, rfl⟩]) rfl rfl (fr_up_ne (by decide)) h.2.2.2.2.2.2.2.1 h.2.2.2.2.2.2.2.2
  · exact h.of rfl h.2.1 rfl h.2.2.2.1 rfl rfl (fr_up_ne (by decide)) (by rw [at', if_pos ⟨rfl, rfl⟩]) h.2.2.2.2.2.2.2.2
end IOA
