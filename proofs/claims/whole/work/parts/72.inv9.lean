/-! what always holds: probe, turn, tick, guards, hosts, links -/
section INI
variable {ns room idle : Nat}
variable {own : Int32 → Int32 × Int32} {W : Nat}
/-- an order that belongs to no course -/
theorem fz_J.lightO {s : fc_S} (J : fz_J own W ns room s) {i : Nat} (hi : i < ns) {row : List Int32} (hq : fc_oOk row) (hl : fz_lo row = true) (h16 : (s (30 + i)).length < 16) : fz_J own W ns room (fc_add s (30 + i) row) := by
  have D := J.1
  obtain ⟨⟨h0, IH, IP, IW, IG, IR, IL, Io, IK⟩, I⟩ := J
  have n5 := h0.2.1
  refine ⟨D.addL hi (Or.inl ⟨rfl, hq⟩) (by omega), I.step n5 IK (fc_add_ne _ (by omega)) (fc_add_ne _ (by omega)) (fun j hj => ?_) (fun j hj z => fz_ste.of ?_)⟩
  · rw [fc_add_ne _ (show 40 + j ≠ 30 + i by omega)]
    obtain ⟨a, b, c, d⟩ := I.2.1 j hj
    by_cases e : j = i
    · subst e
      rw [fc_add_same]
      refine ⟨fun r hr => ?_, b, ?_, d⟩
      · rcases List.mem_append.mp hr with h | h
        · exact a r h
        · rw [List.mem_singleton.mp h]
          exact fun h2 => absurd h2 (of_decide_eq_true hl).1
      · rw [List.countP_append]
        have h1 : (s (30 + j)).countP fz_lo ≤ (s (30 + j)).length := List.countP_le_length
        have h2 : [row].countP fz_lo ≤ [row].length := List.countP_le_length
        rw [List.length_singleton] at h2
        omega
    · rw [fc_add_ne _ (show 30 + j ≠ 30 + i by omega)]
      exact ⟨a, b, c, d⟩
  · unfold fz_T
    rw [fc_add_ne _ (show 40 + j ≠ 30 + i by omega), fc_add_ne _ (show 20 + j ≠ 30 + i by omega)]
    by_cases e : j = i
    · subst e
      rw [fc_add_same, fz_fo_app, fz_fo_no (by rw [fz_lo_none hl]; simp), List.append_nil]
    · rw [fc_add_ne _ (show 30 + j ≠ 30 + i by omega)]
theorem fz_J.all {s : fc_S} (J : fz_J own W ns room s) (h : ∀ i, i < ns → (s (30 + i)).length < 16) : ∀ k, k ≤ ns → fz_J own W ns room (fc_all k s [5, -1, -1, -1, 0])
  | 0, _ => by rw [fc_all_0]; exact J
  | k + 1, hk => by
    rw [fc_all_s]
    refine (fz_J.all J h k (by omega)).lightO (by omega) (Or.inr (Or.inr (Or.inr (Or.inr (Or.inr rfl))))) rfl ?_
    rw [fc_all_at, if_neg (by omega)]
    exact h k (by omega)
theorem fz_J.probe {s : fc_S} (J : fz_J own W ns room s) : fz_J own W ns room (fc_probe ns s).2 := by
  unfold fc_probe
  split
  · next h =>
    rw [List.all_eq_true] at h
    exact J.all (fun i hi => of_decide_eq_true (h i (List.mem_range.mpr hi))) ns (Nat.le_refl _)
  · exact J
theorem fz_J.tp {s : fc_S} (J : fz_J own W ns room s) {i p : Nat} (hi : i < ns) (hp : p < 4) {u : Int32} (hu : u = 0 ∨ u = 1) (hl : (s (40 + i)).length < 21) : fz_J own W ns room (fc_tp s (4 * i + p) u) := by
  have n5 := J.1.1.2.1
  have J1 : fz_J own W ns room (fc_put s (100 + (4 * i + p)) 0 2 u) := J.same (J.1.up (by omega) hu) (fc_put_ne _ _ _ (by omega)) (fc_put_ne _ _ _ (by omega)) (fun j hj => ⟨fc_put_ne _ _ _ (by omega), fc_put_ne _ _ _ (by omega), fc_put_ne _ _ _ (by omega)⟩)
  unfold fc_tp
  split
  · have J2 : fz_J own W ns room (fc_up (fc_put s (100 + (4 * i + p)) 0 2 u) (200 + (4 * i + p)) []) := J1.same (J1.1.clr (by omega)) (fc_up_ne _ (by omega)) (fc_up_ne _ (by omega)) (fun j hj => ⟨fc_up_ne _ (by omega), fc_up_ne _ (by omega), fc_up_ne _ (by omega)⟩)
    rw [show (4 * i + p) / 4 = i by omega, show (4 * i + p) % 4 = p by omega]
    exact J2.light hi (Or.inr (Or.inr (Or.inr (Or.inr (Or.inr ⟨p, hp, rfl⟩))))) rfl (by rw [fc_up_ne _ (by omega), fc_put_ne _ _ _ (by omega)]; exact hl)
  · exact J1
theorem fz_J.turn {s : fc_S} (J : fz_J own W ns room s) (x p u : Int32) (hu : u = 0 ∨ u = 1) : fz_J own W ns room (fc_turn ns s x p u).2 := by
  unfold fc_turn
  split
  · next h =>
    have n5 := J.1.1.2.1
    simp only [Bool.and_eq_true, decide_eq_true_eq] at h
    obtain ⟨h1, -, h3, h4⟩ := h
    unfold fc_en at h1
    rw [Bool.and_eq_true] at h1
    obtain ⟨i, q, hi, hq, rfl, rfl⟩ := fc_pt_nat n5 h1.1
    rw [fc_e_nat (by omega) hq] at h1 h3 h4 ⊢
    obtain ⟨hh, o, u', hP, -, ho, -, -⟩ := J.1.2.2.1 (4 * i + q) (by omega)
    have hg : fc_get s (100 + (4 * i + q)) 0 1 = o := by unfold fc_get; rw [hP]; rfl
    have h12 := h1.2
    rw [hg] at h12
    rcases ho with rfl | ⟨m, hm, rfl⟩
    · simp at h12
    have hmate : fc_mate s (4 * i + q) = m := by unfold fc_mate; rw [hg]; exact nI_clamp (by omega)
    unfold fc_len at h3 h4
    rw [hmate] at h4 ⊢
    rw [show (4 * i + q) / 4 = i by omega] at h3
    have J1 := J.tp hi hq hu (by omega)
    show fz_J own W ns room (fc_tp (fc_tp s (4 * i + q) u) m u)
    have hm4 : m = 4 * (m / 4) + m % 4 := by omega
    rw [hm4]
    refine J1.tp (by omega) (by omega) hu ?_
    have := fc_tp_len (s := s) (e := 4 * i + q) (j := m / 4) (u := u) (by omega) (by omega)
    omega
  · exact J
theorem fc_drop_20 (s : fc_S) (i : Nat) : fc_drop idle s i (20 + i) = (s (20 + i)).filter (fun r => !fc_old idle (fc_now s) r) := if_pos rfl
theorem fc_drop_40 (s : fc_S) (i : Nat) : fc_drop idle s i (40 + i) = s (40 + i) ++ ((s (20 + i)).filter (fc_old idle (fc_now s))).map (fun r => [4, -1, r.getD 0 0, r.getD 1 0, 0]) := (if_neg (by omega)).trans (if_pos rfl)
theorem fc_drop_ne {s : fc_S} {i c : Nat} (h1 : c ≠ 20 + i) (h2 : c ≠ 40 + i) : fc_drop idle s i c = s c := (if_neg h1).trans (if_neg h2)
theorem fz_gone_len (z : Int32 × Int32) (o : List Int32 → Bool) : ∀ l : List (List Int32), (fz_fq own z ((l.filter o).map (fun r => [4, -1, r.getD 0 0, r.getD 1 0, 0]))).length + fz_nr z (l.filter (fun r => !o r)) = fz_nr z l
  | [] => rfl
  | r :: l => by
    have ih := fz_gone_len z o l
    have pq : fz_pq own [4, -1, r.getD 0 0, r.getD 1 0, 0] = some (r.getD 0 0, r.getD 1 0) := rfl
    have cc : fz_nr z (r :: l) = fz_nr z l + if (r.getD 0 0, r.getD 1 0) = z then 1 else 0 := by
      unfold fz_nr
      rw [List.countP_cons]
      by_cases e : (r.getD 0 0, r.getD 1 0) = z
      · rw [if_pos e, if_pos (decide_eq_true e)]
      · rw [if_neg e, if_neg (by simpa using e)]
    rw [cc]
    by_cases ho : o r = true
    · rw [List.filter_cons, if_pos ho, List.filter_cons, if_neg (by rw [ho]; decide), List.map_cons, fz_fq_cons]
      by_cases e : (r.getD 0 0, r.getD 1 0) = z
      · rw [if_pos e, fz_fq_yes (by rw [pq, e]), List.length_append, List.length_singleton]; omega
      · rw [if_neg e, fz_fq_no (by rw [pq]; simpa using e), List.nil_append]; omega
    · rw [List.filter_cons, if_neg ho, List.filter_cons, if_pos (by simpa using ho)]
      have c2 : fz_nr z (r :: l.filter (fun r => !o r)) = fz_nr z (l.filter (fun r => !o r)) + if (r.getD 0 0, r.getD 1 0) = z then 1 else 0 := by
        unfold fz_nr
        rw [List.countP_cons]
        by_cases e : (r.getD 0 0, r.getD 1 0) = z
        · rw [if_pos e, if_pos (decide_eq_true e)]
        · rw [if_neg e, if_neg (by simpa using e)]
      rw [c2]
      omega
theorem fz_J.drop {s : fc_S} (J : fz_J own W ns room s) {i : Nat} (hi : i < ns) : fz_J own W ns room (fc_drop idle s i) := by
  have n5 := J.1.1.2.1
  have r8 := J.1.1.2.2.2
  have IK := J.1.2.2.2.2.2.2.2.2
  have IR := (J.1.2.2.2.2.2.1 i hi).1
  have h38 := (J.short hi).2
  have X4 : ∀ x ∈ ((s (20 + i)).filter (fc_old idle (fc_now s))).map (fun r => [4, -1, r.getD 0 0, r.getD 1 0, 0]), x.getD 0 0 = 4 := fun x hx => by
    obtain ⟨r, -, rfl⟩ := List.mem_map.mp hx
    rfl
  refine ⟨J.1.drop hi (by omega), J.2.step n5 IK (fc_drop_ne (by omega) (by omega)) (fc_drop_ne (by omega) (by omega)) (fun j hj => ?_) (fun j hj z => ?_)⟩
  · rw [fc_drop_ne (show 30 + j ≠ 20 + i by omega) (by omega)]
    obtain ⟨a, b, c, d⟩ := J.2.2.1 j hj
    by_cases e : j = i
    · subst e
      rw [fc_drop_40]
      refine ⟨a, fun r hr => ?_, c, ?_⟩
      · rcases List.mem_append.mp hr with h | h
        · exact b r h
        · exact fun h2 => absurd h2 (by rw [X4 r h]; decide)
      · have h0 : (((s (20 + j)).filter (fc_old idle (fc_now s))).map (fun r => [4, -1, r.getD 0 0, r.getD 1 0, 0])).countP fz_lq = 0 := List.countP_eq_zero.mpr (fun x hx => by unfold fz_lq; rw [X4 x hx]; decide)
        rw [List.countP_append, h0]
        exact d
    · rw [fc_drop_ne (by omega) (by omega)]; exact ⟨a, b, c, d⟩
  · by_cases e : j = i
    · subst e
      unfold fz_T
      rw [fc_drop_40, fc_drop_20, fc_drop_ne (show 30 + j ≠ 20 + j by omega) (by omega), fz_fq_app]
      refine fz_ste.gone (fun x hx => ?_) (fz_gone_len z _ _)
      rw [X4 x ((List.mem_filter.mp hx).1)]
      decide
    · refine fz_ste.of ?_
      unfold fz_T
      rw [fc_drop_ne (by omega) (by omega), fc_drop_ne (by omega) (by omega), fc_drop_ne (by omega) (by omega)]
theorem fz_J.drops {s : fc_S} (J : fz_J own W ns room s) : ∀ k, k ≤ ns → fz_J own W ns room (fc_drops idle s k)
  | 0, _ => J
  | k + 1, hk => (fz_J.drops J k (by omega)).drop (by omega)
theorem fz_J.tick {s : fc_S} (J : fz_J own W ns room s) : fz_J own W ns room (fc_tick ns idle s).2 := by
  have n5 := J.1.1.2.1
  exact fz_J.drops (J.same (J.1.now _) (fc_put_ne _ _ _ (by omega)) (fc_put_ne _ _ _ (by omega)) (fun j hj => ⟨fc_put_ne _ _ _ (by omega), fc_put_ne _ _ _ (by omega), fc_put_ne _ _ _ (by omega)⟩)) ns (Nat.le_refl _)
theorem fc_iD.rowsG {s : fc_S} (D : fc_iD ns room s) {i : Nat} (hi : i < ns) {rows : List (List Int32)} (hl : rows.length ≤ 4) (hg : ∀ row ∈ rows, ∃ (p m v : Nat) (h : Int32), p ≤ 9 ∧ m ≤ 511 ∧ v ≤ 6 ∧ row = [nI p, nI m, nI v, h]) : fc_iD ns room (fc_up s (10 + i) rows) := by
  obtain ⟨h0, IH, IP, IW, IG, IR, IL, Io, IK⟩ := D
  have n5 := h0.2.1
  refine ⟨h0, IH.same (fun c hc => fc_up_ne _ (by omega)), IP.same (fun c hc => fc_up_ne _ (by omega)), IW.same (fun c hc => fc_up_ne _ (by omega)), fun j hj => ?_, IR.same (fun j hj => fc_up_ne _ (by omega)), IL.same (fun j hj => ⟨fc_up_ne _ (by omega), fc_up_ne _ (by omega)⟩), Io.same (fun c h1 h2 => fc_up_ne _ (by omega)), IK.same (fc_up_ne _ (by omega))⟩
  by_cases e : j = i
  · subst e; rw [fc_up_same]; exact ⟨hl, hg⟩
  · rw [fc_up_ne _ (by omega)]; exact IG j hj
theorem fz_J.rowsG {s : fc_S} (J : fz_J own W ns room s) {i : Nat} (hi : i < ns) {rows : List (List Int32)} (hl : rows.length ≤ 4) (hg : ∀ row ∈ rows, ∃ (p m v : Nat) (h : Int32), p ≤ 9 ∧ m ≤ 511 ∧ v ≤ 6 ∧ row = [nI p, nI m, nI v, h]) : fz_J own W ns room (fc_up s (10 + i) rows) := by
  have n5 := J.1.1.2.1
  exact J.same (J.1.rowsG hi hl hg) (fc_up_ne _ (by omega)) (fc_up_ne _ (by omega)) (fun j hj => ⟨fc_up_ne _ (by omega), fc_up_ne _ (by omega), fc_up_ne _ (by omega)⟩)
theorem fc_rng {x : Int32} {n : Nat} (hn : n < 1000) (h0 : 0 ≤ x) (h1 : x ≤ nI n) : ∃ k, k ≤ n ∧ x = nI k := by
  obtain ⟨j, hj, rfl⟩ := nI_of (x := x) (by rw [Int32.lt_iff_toInt_lt]; rw [Int32.le_iff_toInt_le] at h0; omega)
  exact ⟨j, (nI_leI hj (by omega)).mp h1, rfl⟩
theorem fz_J.guard {s : fc_S} (J : fz_J own W ns room s) (x pr m v : Int32) : fz_J own W ns room (fc_guard ns s x pr m v).2 := by
  unfold fc_guard
  split
  · next h =>
    have n5 := J.1.1.2.1
    unfold fc_mt at h
    simp only [Bool.and_eq_true, decide_eq_true_eq] at h
    obtain ⟨h1, h2, h3, h4, h5, h6, h7, -⟩ := h
    obtain ⟨i, hi, rfl⟩ := fc_sw_nat n5 h1
    obtain ⟨p', hp, rfl⟩ := fc_rng (n := 9) (by omega) h2 h3
    obtain ⟨v', hv, rfl⟩ := fc_rng (n := 6) (by omega) h4 h5
    obtain ⟨m', hm, rfl⟩ := fc_rng (n := 511) (by omega) h6 h7
    rw [nI_clamp (by omega)]
    unfold fc_len
    split
    · exact J
    · next hl =>
      refine J.rowsG hi (by rw [List.length_append, List.length_singleton]; omega) (fun row hr => ?_)
      rcases List.mem_append.mp hr with h | h
      · exact (J.1.2.2.2.2.1 i hi).2 row h
      · exact ⟨p', m', v', 0, hp, hm, hv, List.mem_singleton.mp h⟩
  · exact J
theorem fz_J.unguard {s : fc_S} (J : fz_J own W ns room s) (x k : Int32) : fz_J own W ns room (fc_unguard ns s x k).2 := by
  unfold fc_unguard
  split
  · next h =>
    have n5 := J.1.1.2.1
    unfold fc_gd at h
    rw [Bool.and_eq_true] at h
    obtain ⟨i, hi, rfl⟩ := fc_sw_nat n5 h.1
    rw [nI_clamp (by omega)]
    exact J.rowsG hi (Nat.le_trans (List.length_eraseIdx_le _ _) (J.1.2.2.2.2.1 i hi).1) (fun row hr => (J.1.2.2.2.2.1 i hi).2 row (List.mem_of_mem_eraseIdx hr))
  · exact J
theorem fc_free_iff {s : fc_S} {e : Nat} {h o u : Int32} (hP : s (100 + e) = [[h, o, u]]) (hf : fc_free s e = true) : h = -1 ∧ o = -1 := by
  unfold fc_free fc_get at hf
  rw [hP, Bool.and_eq_true] at hf
  exact ⟨by simpa using hf.1, by simpa using hf.2⟩
theorem fc_iD.join {s : fc_S} (D : fc_iD ns room s) {e o : Nat} (he : e < 4 * ns) (ho : o < 4 * ns) (hf : ∃ (u : Int32), s (100 + e) = [[-1, -1, u]]) : fc_iD ns room (fc_join s e o) ∧ (∀ c, c ≠ 100 + e → fc_join s e o c = s c) := by
  obtain ⟨u, hu⟩ := hf
  have hr : (s (100 + e))[0]? = some [-1, -1, u] := by rw [hu]; rfl
  have ej : fc_join s e o = fc_up s (100 + e) [[-1, nI o, 1]] := by unfold fc_join; rw [fc_put2 hr, hu]; rfl
  obtain ⟨h0, IH, IP, IW, IG, IR, IL, Io, IK⟩ := D
  have n5 := h0.2.1
  rw [ej]
  refine ⟨⟨h0, ?_, fun j hj => ?_, fun j hj => ?_, IG.same (fun j hj => fc_up_ne _ (by omega)), IR.same (fun j hj => fc_up_ne _ (by omega)), IL.same (fun j hj => ⟨fc_up_ne _ (by omega), fc_up_ne _ (by omega)⟩), Io.same (fun c h1 h2 => fc_up_ne _ (by omega)), IK.same (fc_up_ne _ (by omega))⟩, fun c hc => fc_up_ne _ hc⟩
  · unfold fc_iH
    rw [fc_up_ne _ (show 0 ≠ 100 + e by omega), fc_up_ne _ (show 1 ≠ 100 + e by omega)]
    exact IH
  · rw [fc_up_ne _ (show 1 ≠ 100 + e by omega)]
    by_cases ee : j = e
    · subst ee
      rw [fc_up_same]
      exact ⟨-1, nI o, 1, rfl, Or.inl rfl, Or.inr ⟨o, ho, rfl⟩, Or.inl rfl, Or.inr rfl⟩
    · rw [fc_up_ne _ (by omega)]; exact IP j hj
  · rw [fc_up_ne _ (by omega)]; exact IW j hj
theorem fz_J.link {s : fc_S} (J : fz_J own W ns room s) (a p b q : Int32) : fz_J own W ns room (fc_link ns s a p b q).2 := by
  unfold fc_link
  split
  · next h =>
    have n5 := J.1.1.2.1
    simp only [Bool.and_eq_true] at h
    obtain ⟨h1, h2, h3, h4, h5⟩ := h
    obtain ⟨i, p', hi, hp, rfl, rfl⟩ := fc_pt_nat n5 h1
    obtain ⟨j, q', hj, hq, rfl, rfl⟩ := fc_pt_nat n5 h2
    have hij : i ≠ j := fun e => by subst e; simp at h3
    rw [fc_e_nat (by omega) hp] at h4 ⊢
    rw [fc_e_nat (by omega) hq] at h5 ⊢
    obtain ⟨x1, x2, x3, hx, -⟩ := J.1.2.2.1 (4 * i + p') (by omega)
    obtain ⟨rfl, rfl⟩ := fc_free_iff hx h4
    obtain ⟨y1, y2, y3, hy, -⟩ := J.1.2.2.1 (4 * j + q') (by omega)
    obtain ⟨rfl, rfl⟩ := fc_free_iff hy h5
    obtain ⟨D1, e1⟩ := J.1.join (o := 4 * j + q') (show 4 * i + p' < 4 * ns by omega) (by omega) ⟨_, hx⟩
    obtain ⟨D2, e2⟩ := D1.join (o := 4 * i + p') (show 4 * j + q' < 4 * ns by omega) (by omega) ⟨y3, by rw [e1 _ (by omega)]; exact hy⟩
    show fz_J own W ns room (fc_join (fc_join s (4 * i + p') (4 * j + q')) (4 * j + q') (4 * i + p'))
    refine J.same D2 ?_ ?_ (fun k hk => ⟨?_, ?_, ?_⟩) <;> rw [e2 _ (by omega), e1 _ (by omega)]
  · exact J
theorem fz_J.attach {s : fc_S} (J : fz_J own W ns room s) (x p : Int32) : fz_J own W ns room (fc_attach ns s x p).2 := by
  unfold fc_attach
  split
  · next h =>
    have n5 := J.1.1.2.1
    rw [Bool.and_eq_true] at h
    obtain ⟨i, q, hi, hq, rfl, rfl⟩ := fc_pt_nat n5 h.1
    have hf := h.2
    rw [fc_e_nat (by omega) hq] at hf ⊢
    unfold fc_len
    split
    · exact J
    · next hl =>
      obtain ⟨⟨h0, ⟨⟨now, h00⟩, h6, hH⟩, IP, IW, IG, IR, IL, Io, IK⟩, I⟩ := id J
      obtain ⟨x1, x2, x3, hx, -⟩ := IP (4 * i + q) (by omega)
      obtain ⟨rfl, rfl⟩ := fc_free_iff hx hf
      have ea : fc_put (fc_put (fc_add s 1 [nI (s 1).length, nI i, nI q, 0, 0, -1]) 0 0 1 (nI ((s 1).length + 1))) (100 + (4 * i + q)) 0 0 (nI (s 1).length) = fc_up (fc_up (fc_up s 1 (s 1 ++ [[nI (s 1).length, nI i, nI q, 0, 0, -1]])) 0 [[now, nI ((s 1).length + 1)]]) (100 + (4 * i + q)) [[nI (s 1).length, -1, x3]] := by
        have r0 : ((fc_add s 1 [nI (s 1).length, nI i, nI q, 0, 0, -1]) 0)[0]? = some [now, nI (s 1).length] := by rw [fc_add_ne _ (by omega), h00]; rfl
        rw [fc_put1 r0, fc_add_ne _ (by omega), h00]
        have r1 : ((fc_up (fc_add s 1 [nI (s 1).length, nI i, nI q, 0, 0, -1]) 0 ([[now, nI (s 1).length]].set 0 ([now, nI (s 1).length].set 1 (nI ((s 1).length + 1))))) (100 + (4 * i + q)))[0]? = some [-1, -1, x3] := by rw [fc_up_ne _ (by omega), fc_add_ne _ (by omega), hx]; rfl
        rw [fc_put1 r1, fc_up_ne _ (by omega), fc_add_ne _ (by omega), hx]
        rfl
      show fz_J own W ns room (fc_put _ _ _ _ _)
      rw [ea]
      have ne : ∀ c, c ≠ 0 → c ≠ 1 → c ≠ 100 + (4 * i + q) → (fc_up (fc_up (fc_up s 1 (s 1 ++ [[nI (s 1).length, nI i, nI q, 0, 0, -1]])) 0 [[now, nI ((s 1).length + 1)]]) (100 + (4 * i + q)) [[nI (s 1).length, -1, x3]]) c = s c := fun c a b d => by rw [fc_up_ne _ d, fc_up_ne _ a, fc_up_ne _ b]
      have e1 : (fc_up (fc_up (fc_up s 1 (s 1 ++ [[nI (s 1).length, nI i, nI q, 0, 0, -1]])) 0 [[now, nI ((s 1).length + 1)]]) (100 + (4 * i + q)) [[nI (s 1).length, -1, x3]]) 1 = s 1 ++ [[nI (s 1).length, nI i, nI q, 0, 0, -1]] := by rw [fc_up_ne _ (by omega), fc_up_ne _ (by omega), fc_up_same]
      have e0 : (fc_up (fc_up (fc_up s 1 (s 1 ++ [[nI (s 1).length, nI i, nI q, 0, 0, -1]])) 0 [[now, nI ((s 1).length + 1)]]) (100 + (4 * i + q)) [[nI (s 1).length, -1, x3]]) 0 = [[now, nI ((s 1).length + 1)]] := by rw [fc_up_ne _ (by omega), fc_up_same]
      have l1 : (s 1 ++ [[nI (s 1).length, nI i, nI q, 0, 0, -1]]).length = (s 1).length + 1 := by rw [List.length_append, List.length_singleton]
      refine J.same ⟨h0, ⟨?_, ?_, ?_⟩, fun j hj => ?_, fun j hj => ?_, IG.same (fun j hj => ne _ (by omega) (by omega) (by omega)), IR.same (fun j hj => ne _ (by omega) (by omega) (by omega)), IL.same (fun j hj => ⟨ne _ (by omega) (by omega) (by omega), ne _ (by omega) (by omega) (by omega)⟩), Io.same (fun c a b => ne _ (by omega) (by omega) (by omega)), IK.same (ne _ (by omega) (by omega) (by omega))⟩ (ne _ (by omega) (by omega) (by omega)) (ne _ (by omega) (by omega) (by omega)) (fun k hk => ⟨ne _ (by omega) (by omega) (by omega), ne _ (by omega) (by omega) (by omega), ne _ (by omega) (by omega) (by omega)⟩)
      · exact ⟨now, by rw [e0, e1, l1]⟩
      · rw [e1, l1]; omega
      · rw [e1]
        intro k row hr
        by_cases hk : k < (s 1).length
        · rw [List.getElem?_append_left hk] at hr
          exact hH k row hr
        · have hk2 : k = (s 1).length := by have := (List.getElem?_eq_some_iff.mp hr).1; rw [l1] at this; omega
          subst hk2
          rw [List.getElem?_append_right (Nat.le_refl _), Nat.sub_self] at hr
          cases hr
          exact ⟨i, q, 0, 0, -1, hi, hq, rfl⟩
      · rw [e1, l1]
        by_cases ee : j = 4 * i + q
        · subst ee
          rw [fc_up_same]
          obtain ⟨_, _, x3', hx', -, -, -, hu⟩ := IP (4 * i + q) hj
          rw [hx] at hx'
          cases hx'
          exact ⟨nI (s 1).length, -1, x3, rfl, Or.inr ⟨(s 1).length, by omega, rfl⟩, Or.inl rfl, Or.inr rfl, hu⟩
        · rw [ne _ (by omega) (by omega) (by omega)]
          obtain ⟨h, o, u, a, b, c, d, e⟩ := IP j hj
          refine ⟨h, o, u, a, ?_, c, d, e⟩
          rcases b with b | ⟨k, hk, b⟩
          · exact Or.inl b
          · exact Or.inr ⟨k, by omega, b⟩
      · rw [ne _ (by omega) (by omega) (by omega)]; exact IW j hj
  · exact J
end INI
