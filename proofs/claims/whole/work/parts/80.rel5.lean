/-! calls of the reference that ask, attach, link, guard: what they come to -/
section INQ
variable {ns room idle : Nat}
theorem fr_use {s : fc_S} {r : fr_S} (H : fr_rel ns room idle s r) (D : fc_iD ns room s) {e : Nat} (he : e < 4 * ns) : ∃ u, u ≤ 2 ∧ r.2 4 e = nI u ∧ (u = 0 ↔ fc_free s e = true) ∧ (u = 2 ↔ fc_get s (100 + e) 0 1 ≠ -1) ∧ (u = 1 → ∃ k, k < (s 1).length ∧ fc_get s (100 + e) 0 0 = nI k ∧ r.2 5 e = nI k) ∧ (u = 2 → ∃ m, m < 4 * ns ∧ fc_get s (100 + e) 0 1 = nI m ∧ r.2 5 e = nI m ∧ fc_mate s e = m) ∧ (u ≠ 1 → fc_get s (100 + e) 0 0 = -1) := by
  obtain ⟨h, o, u, hP, h1, h2, h3, -⟩ := D.2.2.1 e he
  have n5 := D.1.2.1
  obtain ⟨-, a, b, c⟩ := H.2.2.1 e he
  have g0 : fc_get s (100 + e) 0 0 = h := by unfold fc_get; rw [hP]; rfl
  have g1 : fc_get s (100 + e) 0 1 = o := by unfold fc_get; rw [hP]; rfl
  rw [g0, g1] at a c
  rw [g0] at b
  rw [g0, g1]
  have fr : fc_free s e = (h == -1 && o == -1) := by unfold fc_free; rw [g0, g1]
  rw [fr]
  by_cases hh : h = -1
  · by_cases ho : o = -1
    · refine ⟨0, by omega, a hh ho, ⟨fun _ => by rw [hh, ho]; decide, fun _ => rfl⟩, ⟨fun z => by omega, fun z => absurd ho z⟩, fun z => by omega, fun z => by omega, fun _ => hh⟩
    · obtain ⟨c1, c2⟩ := c hh ho
      refine ⟨2, by omega, c1, ⟨fun z => by omega, fun z => ?_⟩, ⟨fun _ => ho, fun _ => rfl⟩, fun z => by omega, fun _ => ?_, fun _ => hh⟩
      · rw [Bool.and_eq_true, beq_iff_eq, beq_iff_eq] at z
        exact absurd z.2 ho
      · rcases h2 with h2 | ⟨m, hm, h2⟩
        · exact absurd h2 ho
        · refine ⟨m, hm, h2, by rw [c2, h2], ?_⟩
          unfold fc_mate
          rw [g1, h2]
          exact nI_clamp (by omega)
  · obtain ⟨b1, b2⟩ := b hh
    have ho : o = -1 := h3.resolve_left hh
    refine ⟨1, by omega, b1, ⟨fun z => by omega, fun z => ?_⟩, ⟨fun z => by omega, fun z => absurd ho z⟩, fun _ => ?_, fun z => by omega, fun z => absurd rfl z⟩
    · rw [Bool.and_eq_true, beq_iff_eq, beq_iff_eq] at z
      exact absurd z.1 hh
    · rcases h1 with h1 | ⟨k, hk, h1⟩
      · exact absurd h1 hh
      · exact ⟨k, hk, h1, by rw [b2, h1]⟩
theorem fc_attach_bad {s : fc_S} {x p : Int32} (h : fc_pt ns x p = false) : fc_attach ns s x p = (-1, s) := by
  unfold fc_attach
  rw [h]
  rfl
theorem fc_attach_at {s : fc_S} (n5 : ns ≤ 5) {i p : Nat} (hi : i < ns) (hp : p < 4) (h : fc_pt ns (nI i) (nI p) = true) : fc_attach ns s (nI i) (nI p) = if fc_free s (4 * i + p) = true then (if 6 ≤ (s 1).length then (-2, s) else (nI (s 1).length, fc_put (fc_put (fc_add s 1 [nI (s 1).length, nI i, nI p, 0, 0, -1]) 0 0 1 (nI ((s 1).length + 1))) (100 + (4 * i + p)) 0 0 (nI (s 1).length))) else (-1, s) := by
  unfold fc_attach fc_len
  rw [h, fc_e_nat (by omega) hp, Bool.true_and]
theorem fc_att_rows {s : fc_S} (D : fc_iD ns room s) {i p : Nat} (hi : i < ns) (hp : p < 4) : ∀ c, c ≠ 0 → c ≠ 1 → c ≠ 100 + (4 * i + p) → fc_put (fc_put (fc_add s 1 [nI (s 1).length, nI i, nI p, 0, 0, -1]) 0 0 1 (nI ((s 1).length + 1))) (100 + (4 * i + p)) 0 0 (nI (s 1).length) c = s c := fun c h0 h1 h2 => by rw [fc_put_ne _ _ _ h2, fc_put_ne _ _ _ h0, fc_add_ne _ h1]
theorem fr_rel.att {s : fc_S} {r : fr_S} (H : fr_rel ns room idle s r) (D : fc_iD ns room s) {i p : Nat} (hi : i < ns) (hp : p < 4) (hf : fc_free s (4 * i + p) = true) (h6 : ¬ 6 ≤ (s 1).length) : fr_rel ns room idle (fc_put (fc_put (fc_add s 1 [nI (s 1).length, nI i, nI p, 0, 0, -1]) 0 0 1 (nI ((s 1).length + 1))) (100 + (4 * i + p)) 0 0 (nI (s 1).length)) (fr_att r (4 * i + p) (s 1).length) := by
  have n5 := D.1.2.1
  have m : fr_sm [4, 5, 8, 11, 7] r (fr_att r (4 * i + p) (s 1).length) := (((((fr_sm.refl _ r).up (by decide) _ _).up (by decide) _ _).up (by decide) _ _).up (by decide) _ _).sc (by decide) _
  have ne := fc_att_rows D hi hp
  obtain ⟨⟨now, h00⟩, -, -⟩ := D.2.1
  obtain ⟨x1, x2, x3, hx, -⟩ := D.2.2.1 (4 * i + p) (by omega)
  obtain ⟨rfl, rfl⟩ := fc_free_iff hx hf
  have e1 : fc_put (fc_put (fc_add s 1 [nI (s 1).length, nI i, nI p, 0, 0, -1]) 0 0 1 (nI ((s 1).length + 1))) (100 + (4 * i + p)) 0 0 (nI (s 1).length) 1 = s 1 ++ [[nI (s 1).length, nI i, nI p, 0, 0, -1]] := by rw [fc_put_ne _ _ _ (by omega), fc_put_ne _ _ _ (by omega), fc_add_same]
  have e0 : fc_get (fc_put (fc_put (fc_add s 1 [nI (s 1).length, nI i, nI p, 0, 0, -1]) 0 0 1 (nI ((s 1).length + 1))) (100 + (4 * i + p)) 0 0 (nI (s 1).length)) 0 0 0 = fc_get s 0 0 0 := by
    unfold fc_get
    rw [fc_put_ne _ _ _ (by omega)]
    unfold fc_put
    rw [fc_up_same, fc_add_ne _ (by omega), h00]
    rfl
  have eP : fc_put (fc_put (fc_add s 1 [nI (s 1).length, nI i, nI p, 0, 0, -1]) 0 0 1 (nI ((s 1).length + 1))) (100 + (4 * i + p)) 0 0 (nI (s 1).length) (100 + (4 * i + p)) = [[nI (s 1).length, -1, x3]] := by
    have hr : ((fc_put (fc_add s 1 [nI (s 1).length, nI i, nI p, 0, 0, -1]) 0 0 1 (nI ((s 1).length + 1))) (100 + (4 * i + p)))[0]? = some [-1, -1, x3] := by rw [fc_put_ne _ _ _ (by omega), fc_add_ne _ (by omega), hx]; rfl
    rw [fc_put1 hr, fc_up_same, fc_put_ne _ _ _ (by omega), fc_add_ne _ (by omega), hx]
    rfl
  have a4 : ∀ j, (fr_att r (4 * i + p) (s 1).length).2 4 j = if j = 4 * i + p then nI 1 else r.2 4 j := fun j => by unfold fr_att; rw [fr_sc_a, fr_up_ne (by decide), fr_up_ne (by decide), fr_up_ne (by decide), fr_up_hit]
  have a5 : ∀ j, (fr_att r (4 * i + p) (s 1).length).2 5 j = if j = 4 * i + p then nI (s 1).length else r.2 5 j := fun j => by unfold fr_att; rw [fr_sc_a, fr_up_ne (by decide), fr_up_ne (by decide), fr_up_hit, fr_up_ne (by decide)]
  have a6 : (fr_att r (4 * i + p) (s 1).length).2 6 = r.2 6 := (m 6 (by decide)).2
  have hne : nI (s 1).length ≠ -1 := cl_ix_ne (by omega)
  have sc := H.S (s' := s) m (by decide) rfl
  refine ⟨⟨sc.1, sc.2.1, sc.2.2.1, by rw [e0]; exact sc.2.2.2⟩, H.2.1.att (by omega) e1, ?_, H.W m (by decide) (fun e he => ne _ (by omega) (by omega) (by omega)), H.G m (by decide) (fun e he => ne _ (by omega) (by omega) (by omega)), H.R m (by decide) (fun e he => ne _ (by omega) (by omega) (by omega)), H.L m (by decide) (fun l hl => ne _ (by unfold fr_lc; split <;> omega) (by unfold fr_lc; split <;> omega) (by unfold fr_lc; split <;> omega)), H.O m (by decide) (ne _ (by omega) (by omega) (by omega)) (ne _ (by omega) (by omega) (by omega)) (ne _ (by omega) (by omega) (by omega)), H.K m (by decide) (ne _ (by omega) (by omega) (by omega)) (ne _ (by omega) (by omega) (by omega))⟩
  refine H.2.2.1.gen (r := r) (r' := fr_att r (4 * i + p) (s 1).length) (e := 4 * i + p) (fun e' he' hne' => ne _ (by omega) (by omega) (by omega)) eP (fun j hj => ⟨by rw [a4, if_neg hj], by rw [a5, if_neg hj], by rw [a6]⟩) ?_ (fun z => absurd z hne) (fun _ => ⟨by rw [a4, if_pos rfl], by rw [a5, if_pos rfl]⟩) (fun z => absurd z hne)
  rw [a6]
  have := (H.2.2.1 (4 * i + p) (by omega)).1
  rw [this]
  unfold fc_get
  rw [hx]
  rfl
theorem fc_link_eq {s : fc_S} (n5 : ns ≤ 5) {i p j q : Nat} (hi : i < ns) (hp : p < 4) (hj : j < ns) (hq : q < 4) (h1 : fc_pt ns (nI i) (nI p) = true) (h2 : fc_pt ns (nI j) (nI q) = true) : fc_link ns s (nI i) (nI p) (nI j) (nI q) = if i ≠ j ∧ fc_free s (4 * i + p) = true ∧ fc_free s (4 * j + q) = true then (true, fc_join (fc_join s (4 * i + p) (4 * j + q)) (4 * j + q) (4 * i + p)) else (false, s) := by
  unfold fc_link
  rw [h1, h2, fc_e_nat (by omega) hp, fc_e_nat (by omega) hq, Bool.true_and, Bool.true_and]
  by_cases e : i = j
  · subst e
    rw [if_neg (by simp), if_neg (fun z => z.1 rfl)]
  · have hne : (nI i != nI j) = true := by
      rw [bne_iff_ne]
      exact fun z => e ((nI_eq (by omega) (by omega)).mp z)
    rw [hne, Bool.true_and]
    by_cases h3 : fc_free s (4 * i + p) = true ∧ fc_free s (4 * j + q) = true
    · rw [if_pos (by rw [h3.1, h3.2]; rfl), if_pos ⟨e, h3⟩]
    · rw [if_neg (fun z => h3 (by rwa [Bool.and_eq_true] at z)), if_neg (fun z => h3 z.2)]
theorem fr_rel.join {s : fc_S} {r : fr_S} (H : fr_rel ns room idle s r) (n5 : ns ≤ 5) {e o : Nat} (he : e < 4 * ns) (ho : o < 4 * ns) (hf : ∃ u : Int32, s (100 + e) = [[-1, -1, u]]) : fr_rel ns room idle (fc_join s e o) (fr_join r e o) := by
  have m : fr_sm [4, 5, 6] r (fr_join r e o) := (((fr_sm.refl _ r).up (by decide) _ _).up (by decide) _ _).up (by decide) _ _
  have ne : ∀ c, c ≠ 100 + e → fc_join s e o c = s c := fun c hc => by unfold fc_join; rw [fc_put_ne _ _ _ hc, fc_put_ne _ _ _ hc]
  obtain ⟨u, hu⟩ := hf
  have hr : (s (100 + e))[0]? = some [-1, -1, u] := by rw [hu]; rfl
  have eP : fc_join s e o (100 + e) = [[-1, nI o, 1]] := by unfold fc_join; rw [fc_put2 hr, fc_up_same, hu]; rfl
  have a4 : ∀ j, (fr_join r e o).2 4 j = if j = e then nI 2 else r.2 4 j := fun j => by unfold fr_join; rw [fr_up_ne (by decide), fr_up_ne (by decide), fr_up_hit]
  have a5 : ∀ j, (fr_join r e o).2 5 j = if j = e then nI o else r.2 5 j := fun j => by unfold fr_join; rw [fr_up_ne (by decide), fr_up_hit, fr_up_ne (by decide)]
  have a6 : ∀ j, (fr_join r e o).2 6 j = if j = e then nI 1 else r.2 6 j := fun j => by unfold fr_join; rw [fr_up_hit, fr_up_ne (by decide), fr_up_ne (by decide)]
  refine ⟨H.S m (by decide) (ne _ (by omega)), H.H m (by decide) (ne _ (by omega)), ?_, H.W m (by decide) (fun _ _ => ne _ (by omega)), H.G m (by decide) (fun _ _ => ne _ (by omega)), H.R m (by decide) (fun _ _ => ne _ (by omega)), H.L m (by decide) (fun l hl => ne _ (by unfold fr_lc; split <;> omega)), H.O m (by decide) (ne _ (by omega)) (ne _ (by omega)) (ne _ (by omega)), H.K m (by decide) (ne _ (by omega)) (ne _ (by omega))⟩
  exact H.2.2.1.gen (r := r) (r' := fr_join r e o) (e := e) (fun e' he' hne' => ne _ (by omega)) eP (fun j hj => ⟨by rw [a4, if_neg hj], by rw [a5, if_neg hj], by rw [a6, if_neg hj]⟩) (by rw [a6, if_pos rfl]; rfl) (fun _ z => absurd z (cl_ix_ne (by omega))) (fun z => absurd rfl z) (fun _ _ => ⟨by rw [a4, if_pos rfl], by rw [a5, if_pos rfl]⟩)
/-! guards -/
theorem fr_rel.rowsG {s : fc_S} {r r' : fr_S} {i : Nat} {rows : List (List Int32)} (H : fr_rel ns room idle s r) (n5 : ns ≤ 5) (hi : i < ns) (m : fr_sm [14, 15, 16, 17, 18] r r') (hG : fr_rG ns (fc_up s (10 + i) rows) (r'.2 14) (r'.2 15) (r'.2 16) (r'.2 17) (r'.2 18)) : fr_rel ns room idle (fc_up s (10 + i) rows) r' := by
  exact ⟨H.S m (by decide) (fc_up_ne _ (by omega)), H.H m (by decide) (fc_up_ne _ (by omega)), H.P m (by decide) (fun _ _ => fc_up_ne _ (by omega)), H.W m (by decide) (fun _ _ => fc_up_ne _ (by omega)), hG, H.R m (by decide) (fun _ _ => fc_up_ne _ (by omega)), H.L m (by decide) (fun l hl => fc_up_ne _ (by unfold fr_lc; split <;> omega)), H.O m (by decide) (fc_up_ne _ (by omega)) (fc_up_ne _ (by omega)) (fc_up_ne _ (by omega)), H.K m (by decide) (fc_up_ne _ (by omega)) (fc_up_ne _ (by omega))⟩
theorem fc_iD.g4 {s : fc_S} (D : fc_iD ns room s) : ∀ i, i < ns → (s (10 + i)).length ≤ 4 := fun i hi => (D.2.2.2.2.1 i hi).1
theorem fc_iD.r8 {s : fc_S} (D : fc_iD ns room s) : ∀ i, i < ns → (s (20 + i)).length ≤ 8 := fun i hi => Nat.le_trans (D.2.2.2.2.2.1 i hi).1 D.1.2.2.2
theorem fc_iD.w6 {s : fc_S} (D : fc_iD ns room s) : ∀ e, e < 4 * ns → (s (200 + e)).length ≤ 6 := fun e he => (D.2.2.2.1 e he).1
theorem fc_iD.l60 {s : fc_S} (D : fc_iD ns room s) : ∀ l, l < 2 * ns → (s (fr_lc l)).length ≤ 60 := fun l hl => Nat.le_succ_of_le (D.2.2.2.2.2.2.1.len hl)
theorem fr_rel.gadd {s : fc_S} {r : fr_S} (H : fr_rel ns room idle s r) (D : fc_iD ns room s) {i : Nat} (hi : i < ns) (h4 : (s (10 + i)).length < 4) (p m v : Int32) : fr_rel ns room idle (fc_add s (10 + i) [p, m, v, 0]) (fr_gadd r i (s (10 + i)).length p m v) := H.rowsG D.1.2.1 hi ((((((fr_sm.refl _ r).up (by decide) _ _).up (by decide) _ _).up (by decide) _ _).up (by decide) _ _).up (by decide) _ _) (H.2.2.2.2.1.add D.g4 hi h4 p m v)
theorem fr_rel.gdel {s : fc_S} {r : fr_S} (H : fr_rel ns room idle s r) (D : fc_iD ns room s) {i k : Nat} (hi : i < ns) (hk : k < (s (10 + i)).length) : fr_rel ns room idle (fc_del s (10 + i) k) (fr_gdel r i (s (10 + i)).length k) := H.rowsG D.1.2.1 hi (((fr_sm.refl _ r).up (by decide) _ _).sh (by decide) _ _ _) (H.2.2.2.2.1.del D.g4 hi hk)
theorem fr_rel.ghit {s : fc_S} {r : fr_S} (H : fr_rel ns room idle s r) (D : fc_iD ns room s) {i k : Nat} (hi : i < ns) {p m v y : Int32} (hr : (s (10 + i))[k]? = some [p, m, v, y]) (x : Int32) : fr_rel ns room idle (fc_up s (10 + i) ((s (10 + i)).set k [p, m, v, x])) (fr_up r 18 (4 * i + k) x) := H.rowsG D.1.2.1 hi ((fr_sm.refl _ r).up (by decide) _ _) (H.2.2.2.2.1.hit D.g4 hi x hr)
theorem fr_rel.rowsR {s s' : fc_S} {r r' : fr_S} {i : Nat} (H : fr_rel ns room idle s r) (n5 : ns ≤ 5) (hi : i < ns) (ne : ∀ c, c ≠ 20 + i → s' c = s c) (m : fr_sm [19, 20, 21, 22, 23, 24] r r') (hR : fr_rR ns s' (r'.2 19) (r'.2 20) (r'.2 21) (r'.2 22) (r'.2 23) (r'.2 24)) : fr_rel ns room idle s' r' := by
  exact ⟨H.S m (by decide) (ne _ (by omega)), H.H m (by decide) (ne _ (by omega)), H.P m (by decide) (fun _ _ => ne _ (by omega)), H.W m (by decide) (fun _ _ => ne _ (by omega)), H.G m (by decide) (fun _ _ => ne _ (by omega)), hR, H.L m (by decide) (fun l hl => ne _ (by unfold fr_lc; split <;> omega)), H.O m (by decide) (ne _ (by omega)) (ne _ (by omega)) (ne _ (by omega)), H.K m (by decide) (ne _ (by omega)) (ne _ (by omega))⟩
theorem fr_rel.radd {s : fc_S} {r : fr_S} (H : fr_rel ns room idle s r) (D : fc_iD ns room s) {i : Nat} (hi : i < ns) (h8 : (s (20 + i)).length < 8) (f t p now : Int32) : fr_rel ns room idle (fc_add s (20 + i) [f, t, p, now, now, 0]) (fr_radd r i (s (20 + i)).length (nI 6 * f + t) p now) := H.rowsR D.1.2.1 hi (fun c hc => fc_add_ne _ hc) (((((((fr_sm.refl _ r).up (by decide) _ _).up (by decide) _ _).up (by decide) _ _).up (by decide) _ _).up (by decide) _ _).up (by decide) _ _) (H.2.2.2.2.2.1.add D.r8 hi h8 f t p now)
theorem fr_rel.rdel {s : fc_S} {r : fr_S} (H : fr_rel ns room idle s r) (D : fc_iD ns room s) {i k : Nat} (hi : i < ns) (hk : k < (s (20 + i)).length) : fr_rel ns room idle (fc_del s (20 + i) k) (fr_rmr r i (s (20 + i)).length k) := H.rowsR D.1.2.1 hi (fun c hc => fc_del_ne _ hc) (((fr_sm.refl _ r).up (by decide) _ _).sh (by decide) _ _ _) (H.2.2.2.2.2.1.del D.r8 hi hk)
theorem fr_rel.ruse {s : fc_S} {r : fr_S} (H : fr_rel ns room idle s r) (D : fc_iD ns room s) {i k : Nat} (hi : i < ns) {f t p m y u : Int32} (hr : (s (20 + i))[k]? = some [f, t, p, m, y, u]) (x now : Int32) : fr_rel ns room idle (fc_up s (20 + i) ((s (20 + i)).set k [f, t, p, m, now, x])) (fr_up (fr_up r 22 (8 * i + k) x) 24 (8 * i + k) now) := H.rowsR D.1.2.1 hi (fun c hc => fc_up_ne _ hc) (((fr_sm.refl _ r).up (by decide) _ _).up (by decide) _ _) (H.2.2.2.2.2.1.use D.r8 hi x now hr)
theorem fr_rel.rowsL {s s' : fc_S} {r r' : fr_S} {l : Nat} (H : fr_rel ns room idle s r) (n5 : ns ≤ 5) (hl : l < 2 * ns) (ne : ∀ c, c ≠ fr_lc l → s' c = s c) (m : fr_sm [25, 26, 27] r r') (hL : fr_rL ns s' (r'.2 25) (r'.2 26)) : fr_rel ns room idle s' r' := by
  have hc : 30 ≤ fr_lc l ∧ fr_lc l < 45 := by unfold fr_lc; split <;> omega
  exact ⟨H.S m (by decide) (ne _ (by omega)), H.H m (by decide) (ne _ (by omega)), H.P m (by decide) (fun _ _ => ne _ (by omega)), H.W m (by decide) (fun _ _ => ne _ (by omega)), H.G m (by decide) (fun _ _ => ne _ (by omega)), H.R m (by decide) (fun _ _ => ne _ (by omega)), hL, H.O m (by decide) (ne _ (by omega)) (ne _ (by omega)) (ne _ (by omega)), H.K m (by decide) (ne _ (by omega)) (ne _ (by omega))⟩
theorem fr_rel.ladd {s : fc_S} {r : fr_S} (H : fr_rel ns room idle s r) (n5 : ns ≤ 5) (IL : ∀ l, l < 2 * ns → (s (fr_lc l)).length ≤ 60) {l : Nat} (hl : l < 2 * ns) (h60 : (s (fr_lc l)).length < 60) {row : List Int32} {x0 x1 x2 x3 x4 : Int32} (he : fr_en l row = [x0, x1, x2, x3, x4]) : fr_rel ns room idle (fc_add s (fr_lc l) row) (fr_add r l (s (fr_lc l)).length x0 x1 x2 x3 x4) := H.rowsL n5 hl (fun c hc => fc_add_ne _ hc) ((fr_sm.refl _ r).add (by decide) (by decide) _ _ _ _ _ _ _) (H.2.2.2.2.2.2.1.add n5 IL hl h60 he)
theorem fr_rel.ltake {s : fc_S} {r : fr_S} (H : fr_rel ns room idle s r) (n5 : ns ≤ 5) (IL : ∀ l, l < 2 * ns → (s (fr_lc l)).length ≤ 60) {l : Nat} (hl : l < 2 * ns) : fr_rel ns room idle (fc_del s (fr_lc l) 0) (fr_take r l (s (fr_lc l)).length) := H.rowsL n5 hl (fun c hc => fc_del_ne _ hc) ((fr_sm.refl _ r).take (by decide) (by decide) (by decide) _ _) (H.2.2.2.2.2.2.1.take n5 IL hl)
theorem fr_lc_q (i : Nat) : fr_lc (2 * i + 1) = 40 + i := by unfold fr_lc; rw [if_neg (by omega)]; omega
theorem fr_lc_o (i : Nat) : fr_lc (2 * i) = 30 + i := by unfold fr_lc; rw [if_pos (by omega)]; omega
theorem fr_en_q (i : Nat) (row : List Int32) : fr_en (2 * i + 1) row = fr_er row := by unfold fr_en; rw [if_neg (by omega)]
theorem fr_en_o (i : Nat) (row : List Int32) : fr_en (2 * i) row = fr_eo row := by unfold fr_en; rw [if_pos (by omega)]
theorem fr_rel.nq {s : fc_S} {r : fr_S} (H : fr_rel ns room idle s r) {i : Nat} (hi : i < ns) : r.2 25 (2 * i + 1) = nI (s (40 + i)).length := by
  have := (H.2.2.2.2.2.2.1 (2 * i + 1) (by omega)).1
  rw [fr_lc_q] at this
  exact this
theorem fr_rel.no {s : fc_S} {r : fr_S} (H : fr_rel ns room idle s r) {i : Nat} (hi : i < ns) : r.2 25 (2 * i) = nI (s (30 + i)).length := by
  have := (H.2.2.2.2.2.2.1 (2 * i) (by omega)).1
  rw [fr_lc_o] at this
  exact this
theorem fr_rel.rowsW {s s' : fc_S} {r r' : fr_S} {e : Nat} (H : fr_rel ns room idle s r) (n5 : ns ≤ 5) (he : e < 4 * ns) (ne : ∀ c, c ≠ 200 + e → s' c = s c) (m : fr_sm [12, 13] r r') (hW : fr_rW ns s' (r'.2 12) (r'.2 13)) : fr_rel ns room idle s' r' := by
  exact ⟨H.S m (by decide) (ne _ (by omega)), H.H m (by decide) (ne _ (by omega)), H.P m (by decide) (fun _ _ => ne _ (by omega)), hW, H.G m (by decide) (fun _ _ => ne _ (by omega)), H.R m (by decide) (fun _ _ => ne _ (by omega)), H.L m (by decide) (fun l hl => ne _ (by unfold fr_lc; split <;> omega)), H.O m (by decide) (ne _ (by omega)) (ne _ (by omega)) (ne _ (by omega)), H.K m (by decide) (ne _ (by omega)) (ne _ (by omega))⟩
theorem fr_rel.wadd {s : fc_S} {r : fr_S} (H : fr_rel ns room idle s r) (D : fc_iD ns room s) {e : Nat} (he : e < 4 * ns) (h6 : (s (200 + e)).length < 6) (x0 x1 x2 : Int32) : fr_rel ns room idle (fc_add s (200 + e) [x0, x1, x2]) (fr_wadd r e (s (200 + e)).length x0 x1 x2) := H.rowsW D.1.2.1 he (fun c hc => fc_add_ne _ hc) (((((fr_sm.refl _ r).up (by decide) _ _).up (by decide) _ _).up (by decide) _ _).up (by decide) _ _) (H.2.2.2.1.add D.w6 he h6 x0 x1 x2)
theorem fr_rel.wdel {s : fc_S} {r : fr_S} (H : fr_rel ns room idle s r) (D : fc_iD ns room s) {e : Nat} (he : e < 4 * ns) : fr_rel ns room idle (fc_del s (200 + e) 0) (fr_wdel r e (s (200 + e)).length) := H.rowsW D.1.2.1 he (fun c hc => fc_del_ne _ hc) (((fr_sm.refl _ r).up (by decide) _ _).sh (by decide) _ _ _) (H.2.2.2.1.del D.w6 he)
theorem fr_rel.wclr {s : fc_S} {r : fr_S} (H : fr_rel ns room idle s r) (n5 : ns ≤ 5) {e : Nat} (he : e < 4 * ns) : fr_rel ns room idle (fc_up s (200 + e) []) (fr_up r 12 e (nI 0)) := H.rowsW n5 he (fun c hc => fc_up_ne _ hc) ((fr_sm.refl _ r).up (by decide) _ _) (H.2.2.2.1.clr e)
theorem fr_rel.pup {s : fc_S} {r : fr_S} (H : fr_rel ns room idle s r) (D : fc_iD ns room s) {e : Nat} (he : e < 4 * ns) (u : Int32) : fr_rel ns room idle (fc_put s (100 + e) 0 2 u) (fr_up r 6 e u) := by
  have n5 := D.1.2.1
  have m : fr_sm [6] r (fr_up r 6 e u) := (fr_sm.refl _ r).up (by decide) _ _
  have ne : ∀ c, c ≠ 100 + e → fc_put s (100 + e) 0 2 u c = s c := fun c hc => fc_put_ne _ _ _ hc
  obtain ⟨h, o, u', hP, -⟩ := D.2.2.1 e he
  have hr : (s (100 + e))[0]? = some [h, o, u'] := by rw [hP]; rfl
  have eP : fc_put s (100 + e) 0 2 u (100 + e) = [[h, o, u]] := by rw [fc_put1 hr, fc_up_same, hP]; rfl
  refine ⟨H.S m (by decide) (ne _ (by omega)), H.H m (by decide) (ne _ (by omega)), ?_, H.W m (by decide) (fun _ _ => ne _ (by omega)), H.G m (by decide) (fun _ _ => ne _ (by omega)), H.R m (by decide) (fun _ _ => ne _ (by omega)), H.L m (by decide) (fun l hl => ne _ (by unfold fr_lc; split <;> omega)), H.O m (by decide) (ne _ (by omega)) (ne _ (by omega)) (ne _ (by omega)), H.K m (by decide) (ne _ (by omega)) (ne _ (by omega))⟩
  obtain ⟨-, a, b, c⟩ := H.2.2.1 e he
  have g0 : fc_get s (100 + e) 0 0 = h := by unfold fc_get; rw [hP]; rfl
  have g1 : fc_get s (100 + e) 0 1 = o := by unfold fc_get; rw [hP]; rfl
  rw [g0, g1] at a c
  rw [g0] at b
  exact H.2.2.1.gen (r := r) (r' := fr_up r 6 e u) (e := e) (fun e' he' hne' => ne _ (by omega)) eP (fun j hj => ⟨by rw [fr_up_ne (by decide)], by rw [fr_up_ne (by decide)], by rw [fr_up_hit, if_neg hj]⟩) (by rw [fr_up_hit, if_pos rfl]) (by rw [fr_up_ne (by decide)]; exact a) (by rw [fr_up_ne (by decide), fr_up_ne (by decide)]; exact b) (by rw [fr_up_ne (by decide), fr_up_ne (by decide)]; exact c)
theorem fr_rel.htake {s : fc_S} {r : fr_S} (H : fr_rel ns room idle s r) (n5 : ns ≤ 5) {k : Nat} {x0 x1 x2 x3 x4 x5 : Int32} (hr : (s 1)[k]? = some [x0, x1, x2, x3, x4, x5]) (a nr f : Int32) : fr_rel ns room idle (fc_up s 1 ((s 1).set k [x0, x1, x2, a, nr, f])) (fr_htk r k a nr f) := by
  have m : fr_sm [9, 10, 11] r (fr_htk r k a nr f) := (((fr_sm.refl _ r).up (by decide) _ _).up (by decide) _ _).up (by decide) _ _
  exact ⟨H.S m (by decide) (fc_up_ne _ (by omega)), H.2.1.take hr a nr f, H.P m (by decide) (fun _ _ => fc_up_ne _ (by omega)), H.W m (by decide) (fun _ _ => fc_up_ne _ (by omega)), H.G m (by decide) (fun _ _ => fc_up_ne _ (by omega)), H.R m (by decide) (fun _ _ => fc_up_ne _ (by omega)), H.L m (by decide) (fun l hl => fc_up_ne _ (by unfold fr_lc; split <;> omega)), H.O m (by decide) (fc_up_ne _ (by omega)) (fc_up_ne _ (by omega)) (fc_up_ne _ (by omega)), H.K m (by decide) (fc_up_ne _ (by omega)) (fc_up_ne _ (by omega))⟩
end INQ
