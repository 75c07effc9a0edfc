/-! turn, probe, tick: what they come to -/
section INX
variable {ns room idle : Nat}
variable {own : Int32 → Int32 × Int32} {W : Nat}
theorem fc_put_add {s : fc_S} {c c' k j : Nat} {x : Int32} {row : List Int32} (h : c ≠ c') : fc_put (fc_add s c' row) c k j x = fc_add (fc_put s c k j x) c' row := by
  funext q
  by_cases e : q = c
  · subst e
    rw [fc_add_ne _ h]
    unfold fc_put
    rw [fc_up_same, fc_up_same, fc_add_ne _ h]
  · rw [fc_put_ne _ _ _ e]
    by_cases e' : q = c'
    · subst e'; rw [fc_add_same, fc_add_same, fc_put_ne _ _ _ e]
    · rw [fc_add_ne _ e', fc_add_ne _ e', fc_put_ne _ _ _ e]
theorem fc_put_up {s : fc_S} {c c' k j : Nat} {x : Int32} {rows : List (List Int32)} (h : c ≠ c') : fc_put (fc_up s c' rows) c k j x = fc_up (fc_put s c k j x) c' rows := by
  funext q
  by_cases e : q = c
  · subst e
    rw [fc_up_ne _ h]
    unfold fc_put
    rw [fc_up_same, fc_up_same, fc_up_ne _ h]
  · rw [fc_put_ne _ _ _ e]
    by_cases e' : q = c'
    · subst e'; rw [fc_up_same, fc_up_same]
    · rw [fc_up_ne _ e', fc_up_ne _ e', fc_put_ne _ _ _ e]
theorem fc_up_add {s : fc_S} {c c' : Nat} {rows : List (List Int32)} {row : List Int32} (h : c ≠ c') : fc_up (fc_add s c' row) c rows = fc_add (fc_up s c rows) c' row := by
  funext q
  by_cases e : q = c
  · subst e; rw [fc_up_same, fc_add_ne _ h, fc_up_same]
  · rw [fc_up_ne _ e]
    by_cases e' : q = c'
    · subst e'; rw [fc_add_same, fc_add_same, fc_up_ne _ e]
    · rw [fc_add_ne _ e', fc_add_ne _ e', fc_up_ne _ e]
theorem fc_del_add {s : fc_S} {c c' k : Nat} {row : List Int32} (h : c ≠ c') : fc_add (fc_del s c k) c' row = fc_del (fc_add s c' row) c k := by
  funext q
  by_cases e : q = c
  · subst e; rw [fc_del_same, fc_add_ne _ h, fc_del_same, fc_add_ne _ h]
  · rw [fc_del_ne _ e]
    by_cases e' : q = c'
    · subst e'; rw [fc_add_same, fc_add_same, fc_del_ne _ e]
    · rw [fc_add_ne _ e', fc_add_ne _ e', fc_del_ne _ e]
theorem fc_tp2 {s : fc_S} {e m : Nat} {u : Int32} (hu : u = 0) (he : e < 20) (hm : m < 20) : fc_tp (fc_tp s e u) m u = fc_add (fc_add (fc_up (fc_up (fc_put (fc_put s (100 + e) 0 2 u) (100 + m) 0 2 u) (200 + e) []) (200 + m) []) (40 + e / 4) [5, nI (e % 4), -1, -1, 0]) (40 + m / 4) [5, nI (m % 4), -1, -1, 0] := by
  unfold fc_tp
  rw [if_pos hu, if_pos hu, fc_put_add (by omega), fc_put_up (by omega), fc_up_add (by omega)]
theorem fc_tp1 {s : fc_S} {e m : Nat} {u : Int32} (hu : ¬ u = 0) : fc_tp (fc_tp s e u) m u = fc_put (fc_put s (100 + e) 0 2 u) (100 + m) 0 2 u := by
  unfold fc_tp
  rw [if_neg hu, if_neg hu]
theorem fc_turn_b1 {s : fc_S} {x p u : Int32} (h : fc_pt ns x p = false) : fc_turn ns s x p u = (false, s) := by unfold fc_turn fc_en; rw [h]; rfl
theorem fc_turn_eq {s : fc_S} (n5 : ns ≤ 5) {i p e : Nat} {u : Int32} (hi : i < ns) (hp : p < 4) (h : fc_pt ns (nI i) (nI p) = true) (he : e = 4 * i + p) : fc_turn ns s (nI i) (nI p) u = if fc_get s (100 + e) 0 1 ≠ -1 ∧ fc_get s (100 + e) 0 2 ≠ u ∧ (s (40 + i)).length < 20 ∧ (s (40 + fc_mate s e / 4)).length < 20 then (true, fc_tp (fc_tp s e u) (fc_mate s e) u) else (false, s) := by
  subst he
  unfold fc_turn fc_en fc_len
  rw [h, fc_e_nat (by omega) hp, Bool.true_and, show (4 * i + p) / 4 = i by omega]
  by_cases q : fc_get s (100 + (4 * i + p)) 0 1 ≠ -1 ∧ fc_get s (100 + (4 * i + p)) 0 2 ≠ u ∧ (s (40 + i)).length < 20 ∧ (s (40 + fc_mate s (4 * i + p) / 4)).length < 20
  · rw [if_pos q, if_pos]
    simp only [Bool.and_eq_true, bne_iff_ne, decide_eq_true_eq]
    exact q
  · rw [if_neg q, if_neg]
    simp only [Bool.and_eq_true, bne_iff_ne, decide_eq_true_eq]
    exact q
theorem fr_rel.mate {s : fc_S} {r : fr_S} (H : fr_rel ns room idle s r) {e m : Nat} (he : e < 4 * ns) (h0 : fc_get s (100 + e) 0 0 = -1) (h1 : fc_get s (100 + e) 0 1 = nI m) (hm : m < 1000) : r.2 5 e = nI m := by
  have := ((H.2.2.1 e he).2.2.2 h0 (by rw [h1]; exact cl_ix_ne (by omega))).2
  rw [this, h1]
theorem fc_put2_get {s : fc_S} (D : fc_iD ns room s) {e m : Nat} (he : e < 4 * ns) (hm : m < 4 * ns) (u : Int32) {j : Nat} (hj : j < 2) {c : Nat} (hc : c < 4 * ns) : fc_get (fc_put (fc_put s (100 + e) 0 2 u) (100 + m) 0 2 u) (100 + c) 0 j = fc_get s (100 + c) 0 j := by
  have one : ∀ (s : fc_S) (e : Nat), (∃ h o w : Int32, s (100 + e) = [[h, o, w]]) → fc_get (fc_put s (100 + e) 0 2 u) (100 + c) 0 j = fc_get s (100 + c) 0 j := fun s e ⟨h, o, w, hs⟩ => by
    by_cases q : c = e
    · subst q
      have hr : (s (100 + c))[0]? = some [h, o, w] := by rw [hs]; rfl
      rw [fc_get_put hr 2 u (by show 2 < 3; decide), if_neg (by omega)]
    · rw [fc_get_ne _ _ _ (by omega)]
  obtain ⟨h, o, w, hs, -⟩ := D.2.2.1 e he
  obtain ⟨h', o', w', hs', -⟩ := (D.up he (Or.inl rfl) : fc_iD ns room (fc_put s (100 + e) 0 2 0)).2.2.1 m hm
  rw [one _ m ?_, one s e ⟨h, o, w, hs⟩]
  by_cases q : m = e
  · subst q
    have hr : (s (100 + m))[0]? = some [h, o, w] := by rw [hs]; rfl
    exact ⟨h, o, u, by rw [fc_put1 hr, fc_up_same, hs]; rfl⟩
  · obtain ⟨a, b, d, hq, -⟩ := D.2.2.1 m hm
    exact ⟨a, b, d, by rw [fc_put_ne _ _ _ (by omega)]; exact hq⟩
/-! probe -/
theorem fc_probe_no {s : fc_S} {k : Nat} (hk : k < ns) (h : 16 ≤ (s (30 + k)).length) : fc_probe ns s = (false, s) := by
  unfold fc_probe
  rw [if_neg]
  intro z
  rw [List.all_eq_true] at z
  have := of_decide_eq_true (z k (List.mem_range.mpr hk))
  unfold fc_len at this
  omega
theorem fc_probe_yes {s : fc_S} (h : ∀ k, k < ns → (s (30 + k)).length < 16) : fc_probe ns s = (true, fc_all ns s [5, -1, -1, -1, 0]) := by
  unfold fc_probe
  rw [if_pos]
  rw [List.all_eq_true]
  exact fun k hk => decide_eq_true (h k (List.mem_range.mp hk))
/-! tick -/
theorem fr_rel.tk {s : fc_S} {r : fr_S} (H : fr_rel ns room idle s r) (D : fc_iD ns room s) (x : Int32) : fr_rel ns room idle (fc_put s 0 0 0 x) (fr_sc r 3 x) := by
  have n5 := D.1.2.1
  have m : fr_sm [3] r (fr_sc r 3 x) := (fr_sm.refl _ r).sc (by decide) _
  have ne : ∀ c, c ≠ 0 → fc_put s 0 0 0 x c = s c := fun c hc => fc_put_ne _ _ _ hc
  obtain ⟨⟨now, h00⟩, -, -⟩ := D.2.1
  have e0 : fc_get (fc_put s 0 0 0 x) 0 0 0 = x := by
    unfold fc_get fc_put
    rw [fc_up_same, h00]
    rfl
  refine ⟨⟨H.1.1, H.1.2.1, H.1.2.2.1, by rw [e0]; rfl⟩, H.H m (by decide) (ne _ (by omega)), H.P m (by decide) (fun _ _ => ne _ (by omega)), H.W m (by decide) (fun _ _ => ne _ (by omega)), H.G m (by decide) (fun _ _ => ne _ (by omega)), H.R m (by decide) (fun _ _ => ne _ (by omega)), H.L m (by decide) (fun l hl => ne _ (by unfold fr_lc; split <;> omega)), H.O m (by decide) (ne _ (by omega)) (ne _ (by omega)) (ne _ (by omega)), H.K m (by decide) (ne _ (by omega)) (ne _ (by omega))⟩
theorem fr_rel.rdl {s : fc_S} {r : fr_S} (H : fr_rel ns room idle s r) (n5 : ns ≤ 5) (IR : ∀ i, i < ns → (s (20 + i)).length ≤ 8) {i k : Nat} (hi : i < ns) (hk : k < (s (20 + i)).length) : fr_rel ns room idle (fc_del s (20 + i) k) (fr_rmr r i (s (20 + i)).length k) := H.rowsR n5 hi (fun c hc => fc_del_ne _ hc) (((fr_sm.refl _ r).up (by decide) _ _).sh (by decide) _ _ _) (H.2.2.2.2.2.1.del IR hi hk)
theorem fc_dj_r8 {s : fc_S} (D : fc_iD ns room s) {i j : Nat} : ∀ q, q < ns → (fc_dj idle s i j (20 + q)).length ≤ 8 := fun q hq => by
  have h8 := D.r8 q hq
  by_cases e : q = i
  · subst e
    rw [fc_dj_rules, List.length_append, List.length_drop]
    have h1 : (((s (20 + q)).take j).filter (fun r => !fc_old idle (fc_now s) r)).length ≤ ((s (20 + q)).take j).length := List.length_filter_le _ _
    rw [List.length_take] at h1
    omega
  · rw [fc_dj_ne (by omega) (by have := D.1.2.1; omega)]; exact h8
theorem fc_dj_l60 {s : fc_S} (J : fz_J own W ns room s) {i j : Nat} (hi : i < ns) : (∀ l, l < 2 * ns → (fc_dj idle s i j (fr_lc l)).length ≤ 60) ∧ (fc_dj idle s i j (40 + i)).length < 60 := by
  have n5 := J.1.1.2.1
  have h39 := (J.short hi).2
  have h8 := J.1.r8 i hi
  have l47 : (fc_dj idle s i j (40 + i)).length ≤ 47 := by
    rw [fc_dj_reps, List.length_append, List.length_map]
    have h1 : (((s (20 + i)).take j).filter (fc_old idle (fc_now s))).length ≤ ((s (20 + i)).take j).length := List.length_filter_le _ _
    rw [List.length_take] at h1
    omega
  refine ⟨fun l hl => ?_, by omega⟩
  have hL := J.1.l60 l hl
  by_cases e : fr_lc l = 40 + i
  · rw [e]; omega
  · rw [fc_dj_ne (by unfold fr_lc; split <;> omega) e]; exact hL
theorem fc_dj_len {s : fc_S} {i j : Nat} (hj : j ≤ (s (20 + i)).length) : (fc_dj idle s i j (20 + i)).length = fc_kj idle s i j + ((s (20 + i)).length - j) := by
  rw [fc_dj_rules, List.length_append, List.length_drop]
  rfl
theorem fc_gone_s (idle : Nat) (s : fc_S) (i : Nat) : fc_gone idle s (i + 1) = fc_gone idle s i + ((s (20 + i)).filter (fc_old idle (fc_now s))).length := rfl
theorem fc_drops_s (idle : Nat) (s : fc_S) (i : Nat) : fc_drops idle s (i + 1) = fc_drop idle (fc_drops idle s i) i := rfl
theorem fc_gone_le (s : fc_S) (h : ∀ i, i < ns → (s (20 + i)).length ≤ 8) : ∀ i, i ≤ ns → fc_gone idle s i ≤ 8 * i
  | 0, _ => Nat.zero_le _
  | i + 1, hi => by
    rw [fc_gone_s]
    have h1 := fc_gone_le s h i (by omega)
    have h2 : ((s (20 + i)).filter (fc_old idle (fc_now s))).length ≤ (s (20 + i)).length := List.length_filter_le _ _
    have h3 := h i (by omega)
    omega
theorem fc_old_iff {now l m : Int32} {a b c d : Int32} : fc_old idle now [a, b, c, m, l, d] = true ↔ nI idle ≤ now - l ∨ nI (4 * idle) ≤ now - m := by
  rw [← pk_mul]
  unfold fc_old
  rw [Bool.or_eq_true, decide_eq_true_eq, decide_eq_true_eq]
  exact Iff.rfl
end INX
