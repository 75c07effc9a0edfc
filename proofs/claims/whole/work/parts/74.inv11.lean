/-! what always holds: a course is led ahead, laid, finished, dropped -/
section INK
variable {ns room idle : Nat}
variable {own own' : Int32 → Int32 × Int32} {W W' : Nat}
theorem fz_X.set7 {s : fc_S} {k : Nat} {row row' : List Int32} (n5 : ns ≤ 5) (I : fz_X own W ns s k) (hk : (s 7)[k]? = some row) (hp : fz_pr row' = fz_pr row) : fz_X own W ns (fc_up s 7 ((s 7).set k row')) k := by
  obtain ⟨h2, hL, hK, h1, hN⟩ := I
  have hkl := (List.getElem?_eq_some_iff.mp hk).1
  have e7 : fc_up s 7 ((s 7).set k row') 7 = (s 7).set k row' := fc_up_same _ _ _
  have T : ∀ i, i < ns → ∀ z, fz_T own (fc_up s 7 ((s 7).set k row')) i z = fz_T own s i z := fun i hi z => by
    unfold fz_T
    rw [fc_up_ne _ (by omega), fc_up_ne _ (by omega), fc_up_ne _ (by omega)]
  have get : ∀ (j : Nat) (r : List Int32), ((s 7).set k row')[j]? = some r → ∃ q, (s 7)[j]? = some q ∧ fz_pr q = fz_pr r := fun j r h => by
    by_cases e : j = k
    · subst e
      rw [List.getElem?_set_self hkl] at h
      cases h
      exact ⟨row, hk, hp.symm⟩
    · rw [List.getElem?_set_ne (Ne.symm e)] at h
      exact ⟨r, h, rfl⟩
  refine ⟨by rw [fc_up_ne _ (by omega)]; exact h2, fun i hi => by rw [fc_up_ne _ (by omega), fc_up_ne _ (by omega)]; exact hL i hi, fun j r hj hr => ?_, fun j j' r r' hj hj' e => ?_, fun z hz i hi => ?_⟩
  · rw [e7, List.getElem?_set_ne (Ne.symm hj)] at hr
    have h := hK j r hj hr
    refine ⟨h.1, ?_⟩
    have : ∀ i, i < ns → fz_T own (fc_up s 7 ((s 7).set k row')) i (fz_pr r) = fz_T own s i (fz_pr r) := fun i hi => T i hi _
    obtain ⟨a, P, b, c, d, e⟩ := h.2
    have nsP : ∀ i, (fun i => fz_T own (fc_up s 7 ((s 7).set k row')) i (fz_pr r)) i = (fun i => fz_T own s i (fz_pr r)) i := fun i => by
      show fz_T _ _ _ _ = fz_T _ _ _ _
      unfold fz_T
      rw [fc_up_ne _ (by omega), fc_up_ne _ (by omega), fc_up_ne _ (by omega)]
    rw [funext nsP]
    exact ⟨a, P, b, c, d, e⟩
  · rw [e7] at hj hj'
    obtain ⟨q, a, b⟩ := get j r hj
    obtain ⟨q', a', b'⟩ := get j' r' hj'
    exact h1 j j' q q' a a' (by rw [b, b', e])
  · rw [T i hi z]
    refine hN z (fun r hr q => ?_) i hi
    obtain ⟨j, hj⟩ := List.mem_iff_getElem?.mp hr
    rw [e7] at hz
    by_cases e : j = k
    · subst e
      rw [hk] at hj
      cases hj
      exact hz row' (List.mem_of_getElem? (List.getElem?_set_self hkl)) (by rw [hp]; exact q)
    · exact hz r (List.mem_of_getElem? ((List.getElem?_set_ne (Ne.symm e)).trans hj)) q
theorem fz_X.lead {s : fc_S} {k f t l : Nat} {wv aw kp kn : Int32} {way : List Int32} (n5 : ns ≤ 5) (hW : W + 1 < 2 ^ 31) (I : fz_X own W ns s k) (IL : fc_iL ns s) (hr : (s 7)[k]? = some ([nI f, nI t, 2, wv, aw, nI (l + 1), kp, kn] ++ way)) (hf : f < 6) (ht : t < 6) (hl : l < way.length) (h5 : way.length ≤ 5) (hnd : (way.map fz_sw).Nodup) (hwe : ∀ x ∈ way, ∃ m, m < 4 * ns ∧ x = nI m) (hw : ∀ (j : Nat) (r : List Int32), j ≠ k → (s 7)[j]? = some r → ∀ e ∈ r.drop 8, fz_sw e < ns) (hnil : ∀ i, i < ns → i ∉ (way.drop (l + 1)).map fz_sw → fz_nil (fz_T own s i (nI f, nI t))) (hle : ∀ i ∈ (way.drop (l + 1)).map fz_sw, fz_le 2 2 (fz_T own s i (nI f, nI t))) : fz_I (fz_own own W (nI f, nI t)) (W + 1) ns (fc_lead s k) ∧ fz_cs ns s (fc_lead s k) := by
  obtain ⟨m, hm, hx⟩ := hwe _ (List.getElem_mem hl)
  have hx' : way[l]? = some (nI m) := by rw [List.getElem?_eq_getElem hl, hx]
  have el : (nI W + 1 : Int32) = nI (W + 1) := nI_1 W
  have e := fc_lead_eq hr I.1 (by omega) (by omega) hx'
  rw [el] at e
  have e2 : fc_put s 2 0 0 (nI (W + 1)) 2 = [[nI (W + 1)]] := by
    unfold fc_put
    rw [fc_up_same, I.1]
    rfl
  have hdrop : way.drop l = nI m :: way.drop (l + 1) := by rw [List.drop_eq_getElem_cons hl, hx]
  have hsm : fz_sw (nI m) = m / 4 := by unfold fz_sw; rw [nI_clamp (by omega)]
  have hnd2 : ((way.drop l).map fz_sw).Nodup := by
    rw [List.map_drop]
    exact hnd.sublist (List.drop_sublist _ _)
  rw [hdrop, List.map_cons, List.nodup_cons, hsm] at hnd2
  have hsw : ∀ e ∈ way, fz_sw e < ns := fun x hx => by
    obtain ⟨q, hq, rfl⟩ := hwe x hx
    unfold fz_sw
    rw [nI_clamp (by omega)]
    omega
  have off : ∀ c, c ≠ 2 → c ≠ 7 → c ≠ 30 + m / 4 → fc_lead s k c = s c := fun c h2 h7 h3 => by rw [e, fc_add_ne _ h3, fc_add_ne _ h3, fc_up_ne _ h7, fc_put_ne _ _ _ h2]
  have on : ∀ j, j < ns → fc_lead s k (30 + j) = s (30 + j) ++ if j = m / 4 then [[0, nI (m % 4), nI f, nI t, 0], [2, nI (W + 1), -1, -1, 0]] else [] := fun j hj => by
    by_cases q : j = m / 4
    · subst q
      rw [if_pos rfl, e, fc_add_same, fc_add_same, fc_up_ne _ (by omega), fc_put_ne _ _ _ (by omega), List.append_assoc]
      rfl
    · rw [if_neg q, off _ (by omega) (by omega) (by omega), List.append_nil]
  have n0 : fz_T own s (m / 4) (nI f, nI t) = ([], [], 0) := hnil (m / 4) (by omega) hnd2.1
  constructor
  · refine I.gen (row' := [nI f, nI t, 2, nI (W + 1), aw, nI l, kp, kn] ++ way) (z0 := (nI f, nI t)) (Y := fun j => if j = m / 4 then [[0, nI (m % 4), nI f, nI t, 0], [2, nI (W + 1), -1, -1, 0]] else []) (Nat.le_succ W) (fun w hw => fz_own_old hW hw) hr rfl rfl ?_ ?_ ⟨W + 1, Nat.le_refl _, rfl, fz_own_new _⟩ (fun j hj => off _ (by omega) (by omega) (by omega)) (fun j hj => off _ (by omega) (by omega) (by omega)) on (fun j hj r hr' => ?_) ⟨hnd, (way.drop l).map fz_sw, ?_, ?_, fun i hi hm' => ?_, Or.inl ⟨rfl, ?_, fun i hi => ?_⟩⟩ hw hsw
    · rw [e, fc_add_ne _ (by omega), fc_add_ne _ (by omega), fc_up_ne _ (by omega)]; exact e2
    · rw [e, fc_add_ne _ (by omega), fc_add_ne _ (by omega), fc_up_same]
    · by_cases q : j = m / 4
      · simp only [if_pos q] at hr'
        rcases List.mem_cons.mp hr' with h | h
        · rw [h]; exact ⟨rfl, fun e => absurd e (by show ¬ (0 : Int32) = 2; decide)⟩
        · rw [List.mem_singleton.mp h]; exact ⟨congrArg some (fz_own_new _), fun _ => ⟨W + 1, Nat.le_refl _, rfl⟩⟩
      · simp only [if_neg q] at hr'; cases hr'
    · rw [hdrop, List.map_cons, List.nodup_cons, hsm]; exact hnd2
    · rw [List.length_map, List.length_drop]; omega
    · rw [hdrop, List.map_cons, hsm, List.mem_cons, not_or] at hm'
      have hn : fz_nil (fz_T own s i (nI f, nI t)) := hnil i hi hm'.2
      show (_, _, _) = _
      rw [if_pos hi, if_neg hm'.1, List.append_nil]
      exact hn
    · show _ = ((way.drop (nI l).toNatClampNeg).map fz_sw)
      rw [nI_clamp (by omega)]
    · rw [hdrop, List.map_cons, hsm] at hi
      have hi' : i < ns := by
        rcases List.mem_cons.mp hi with h | h
        · omega
        · obtain ⟨x, hx, rfl⟩ := List.mem_map.mp h
          exact hsw x (List.mem_of_mem_drop hx)
      show fz_le 2 2 (_, _, _)
      rw [if_pos hi']
      by_cases q : i = m / 4
      · subst q
        rw [if_pos rfl, n0]
        exact ⟨Nat.le_refl 2, Nat.le_refl 2, Nat.zero_le _⟩
      · rw [if_neg q, List.append_nil]
        rcases List.mem_cons.mp hi with h | h
        · exact absurd h q
        · exact hle i h
  · refine ⟨fun c hc => off c (by omega) (by omega) (by omega), fun j hj r hr' => ?_⟩
    rw [on j hj] at hr'
    rcases List.mem_append.mp hr' with h | h
    · exact IL.ok hj r h
    · by_cases q : j = m / 4
      · rw [if_pos q] at h
        rcases List.mem_cons.mp h with h | h
        · exact Or.inl ⟨m % 4, f, t, by omega, hf, ht, h⟩
        · exact Or.inr (Or.inr (Or.inl ⟨_, List.mem_singleton.mp h⟩))
      · rw [if_neg q] at h; cases h
/-- a course begins to be laid: nothing of it was left -/
theorem fz_X.lay {s : fc_S} {k f t : Nat} {st wv aw ld kp kn : Int32} {way0 way : List Int32} (n5 : ns ≤ 5) (hW : W + 1 < 2 ^ 31) (I : fz_X own W ns s k) (IL : fc_iL ns s) (hr : (s 7)[k]? = some ([nI f, nI t, st, wv, aw, ld, kp, kn] ++ way0)) (hf : f < 6) (ht : t < 6) (hne : way.length ≠ 0) (h5 : way.length ≤ 5) (hnd : (way.map fz_sw).Nodup) (hwe : ∀ x ∈ way, ∃ m, m < 4 * ns ∧ x = nI m) (hw : ∀ (j : Nat) (r : List Int32), j ≠ k → (s 7)[j]? = some r → ∀ e ∈ r.drop 8, fz_sw e < ns) (hnil : ∀ i, i < ns → fz_nil (fz_T own s i (nI f, nI t))) : fz_I (fz_own own W (nI f, nI t)) (W + 1) ns (fc_lay s k way) ∧ fz_cs ns s (fc_lay s k way) := by
  have hk := (List.getElem?_eq_some_iff.mp hr).1
  have hr4 : ((fc_up s 7 ((s 7).set k ([nI f, nI t, 2, wv, aw, nI way.length, kp, kn] ++ way))) 7)[k]? = some ([nI f, nI t, 2, wv, aw, nI (way.length - 1 + 1), kp, kn] ++ way) := by rw [fc_up_same, List.getElem?_set_self hk, show way.length - 1 + 1 = way.length by omega]
  have T : ∀ i, fz_T own (fc_up s 7 ((s 7).set k ([nI f, nI t, 2, wv, aw, nI way.length, kp, kn] ++ way))) i (nI f, nI t) = fz_T own s i (nI f, nI t) := fun i => by
    unfold fz_T
    rw [fc_up_ne _ (by omega), fc_up_ne _ (by omega), fc_up_ne _ (by omega)]
  rw [fc_lay_row hr]
  obtain ⟨a, b⟩ := fz_X.lead n5 hW (I.set7 (row' := [nI f, nI t, 2, wv, aw, nI way.length, kp, kn] ++ way) n5 hr rfl) (IL.same (fun j hj => ⟨fc_up_ne _ (by omega), fc_up_ne _ (by omega)⟩)) hr4 hf ht (by omega) h5 hnd hwe (fun j r hj hr' => by
    rw [fc_up_same, List.getElem?_set_ne (Ne.symm hj)] at hr'
    exact hw j r hj hr') (fun i hi _ => by rw [T]; exact hnil i hi) (fun i hi => by
    rw [show way.length - 1 + 1 = way.length by omega, List.drop_length] at hi
    cases hi)
  exact ⟨a, fun c hc => (b.1 c hc).trans (fc_up_ne _ (by omega)), b.2⟩
theorem fc_lead_ok {s : fc_S} {k f t l : Nat} {st wv aw kp kn : Int32} {way : List Int32} (n5 : ns ≤ 5) (I : fc_iK ns s) (Io : fc_iO ns s) (hr : (s 7)[k]? = some ([nI f, nI t, st, wv, aw, nI (l + 1), kp, kn] ++ way)) (hst : st = 1 ∨ st = 2 ∨ st = 3) (hf : f < 6) (ht : t < 6) (hkp : kp = 0 ∨ kp = 1) (hl : l < way.length) (h5 : way.length ≤ 5) (hwe : ∀ x ∈ way, ∃ m, m < 4 * ns ∧ x = nI m) : fc_iK ns (fc_lead s k) ∧ fc_iO ns (fc_lead s k) := by
  obtain ⟨⟨x0, h2⟩, g3, g4, g5⟩ := id Io
  obtain ⟨m, hm, hx⟩ := hwe _ (List.getElem_mem hl)
  rw [fc_lead_eq (m := m) hr h2 (by omega) (by omega) (by rw [List.getElem?_eq_getElem hl, hx])]
  refine ⟨(I.but k).set (row := [nI f, nI t, st, x0 + 1, aw, nI l, kp, kn] ++ way) ⟨f, t, l, st, x0 + 1, aw, kp, kn, way, hf, ht, rfl, hst, hkp, by omega, h5, hl, hwe⟩ ?_, ⟨x0 + 1, ?_⟩, ?_, ?_, ?_⟩
  · rw [fc_add_ne _ (by omega), fc_add_ne _ (by omega), fc_up_same]
  · rw [fc_add_ne _ (by omega), fc_add_ne _ (by omega), fc_up_ne _ (by omega)]
    unfold fc_put
    rw [fc_up_same, h2]
    rfl
  · rw [fc_add_ne _ (by omega), fc_add_ne _ (by omega), fc_up_ne _ (by omega), fc_put_ne _ _ _ (by omega)]; exact g3
  · rw [fc_add_ne _ (by omega), fc_add_ne _ (by omega), fc_up_ne _ (by omega), fc_put_ne _ _ _ (by omega)]; exact g4
  · rw [fc_add_ne _ (by omega), fc_add_ne _ (by omega), fc_up_ne _ (by omega), fc_put_ne _ _ _ (by omega)]; exact g5
theorem fz_J.lead {s : fc_S} (J : fz_J own W ns room s) (hW : W + 1 < 2 ^ 31) {k f t l : Nat} {wv aw kp kn : Int32} {way : List Int32} (hr : (s 7)[k]? = some ([nI f, nI t, 2, wv, aw, nI (l + 1), kp, kn] ++ way)) (hf : f < 6) (ht : t < 6) (hkp : kp = 0 ∨ kp = 1) (hl : l + 1 < way.length) (h5 : way.length ≤ 5) (hwe : ∀ x ∈ way, ∃ m, m < 4 * ns ∧ x = nI m) : ∃ own', fz_J own' (W + 1) ns room (fc_lead s k) := by
  obtain ⟨h0, IH, IP, IW, IG, IR, IL, Io, IK⟩ := id J.1
  have n5 := h0.2.1
  obtain ⟨-, hnd, P, hP1, hP2, hP3, hP4⟩ := J.2.2.2.1 _ (List.mem_of_getElem? hr)
  have hP5 : P = (way.drop (l + 1)).map fz_sw ∧ ∀ i ∈ P, fz_le 2 2 (fz_T own s i (nI f, nI t)) := by
    rcases hP4 with ⟨-, b, c⟩ | ⟨a, -⟩ | ⟨a, -⟩
    · refine ⟨?_, c⟩
      have b' : P = ((way.drop (nI (l + 1)).toNatClampNeg).map fz_sw) := b
      rw [nI_clamp (by omega)] at b'
      exact b'
    · exact absurd a (by show ¬ (2 : Int32) = 3; decide)
    · exact absurd a (by show ¬ (2 : Int32) = 1; decide)
  obtain ⟨rfl, hle⟩ := hP5
  obtain ⟨a, b⟩ := (J.2.but k).lead n5 hW IL hr hf ht (by omega) h5 hnd hwe (fun j r _ hj => IK.sw n5 r (List.mem_of_getElem? hj)) hP3 hle
  obtain ⟨c, d⟩ := fc_lead_ok n5 IK Io hr (Or.inr (Or.inl rfl)) hf ht hkp (by omega) h5 hwe
  exact ⟨_, fz_asm J.1 b c d a⟩
theorem fz_C.to {ns : Nat} {F F' : Nat → fz_3} {row row' : List Int32} (h : fz_C ns F row) (e : ∀ i, F' i = F i) (h0 : row'.getD 0 0 = row.getD 0 0) (h1 : row'.getD 1 0 = row.getD 1 0) (h2 : row'.getD 2 0 = row.getD 2 0) (h3 : row'.getD 3 0 = row.getD 3 0) (h4 : row'.getD 4 0 = row.getD 4 0) (h5 : row'.getD 5 0 = row.getD 5 0) (h8 : row'.drop 8 = row.drop 8) : fz_C ns F' row' := by
  have hF : F' = F := funext e
  unfold fz_C fz_pr at *
  rw [hF, h0, h1, h2, h3, h4, h5, h8]
  exact h
theorem fz_C.app {ns : Nat} {own : Int32 → Int32 × Int32} {s : fc_S} {z : Int32 × Int32} {row : List Int32} (h : fz_C ns (fun i => fz_T own s i z) row) : fz_C ns (fun i => ((fz_T own s i z).1 ++ if i < ns then ([] : List (List Int32)) else [], (fz_T own s i z).2.1, (fz_T own s i z).2.2)) row := by
  have : (fun i => ((fz_T own s i z).1 ++ if i < ns then ([] : List (List Int32)) else [], (fz_T own s i z).2.1, (fz_T own s i z).2.2)) = (fun i => fz_T own s i z) := by
    funext i
    rw [show (if i < ns then ([] : List (List Int32)) else []) = [] by split <;> rfl, List.append_nil]
  rw [this]
  exact h
/-- what a course keeps -/
theorem fz_J.keep {s : fc_S} (J : fz_J own W ns room s) {k f t l : Nat} {st wv aw kp kn : Int32} {way : List Int32} (hr : (s 7)[k]? = some ([nI f, nI t, st, wv, aw, nI l, kp, kn] ++ way)) {kp' kn' : Int32} (hkp : kp' = 0 ∨ kp' = 1) : fz_J own W ns room (fc_up s 7 ((s 7).set k ([nI f, nI t, st, wv, aw, nI l, kp', kn'] ++ way))) := by
  obtain ⟨h0, IH, IP, IW, IG, IR, IL, Io, IK⟩ := id J.1
  have n5 := h0.2.1
  obtain ⟨f', t', l', st', wv', aw', kp2, kn2, way', hr', h1, h2, h4, h5, h6, h7, h8, h9⟩ := IK.row (List.getElem?_eq_some_iff.mp hr).1
  rw [hr] at hr'
  simp only [Option.some.injEq, List.cons_append, List.cons.injEq, List.nil_append] at hr'
  obtain ⟨e0, e1, e2, e3, e4, e5, e6, e7, e8⟩ := hr'
  subst e2 e3 e4 e6 e7 e8
  have hmem := List.mem_of_getElem? hr
  have hsw : ∀ e ∈ way, fz_sw e < ns := IK.sw n5 _ hmem
  obtain ⟨⟨w, a, b, c⟩, hC⟩ := J.2.2.2.1 _ hmem
  have IK' := IK.set (k := k) (row' := [nI f, nI t, st, wv, aw, nI l, kp', kn'] ++ way) ⟨f', t', l', st, wv, aw, kp', kn', way, h1, h2, by rw [e0, e1, e5], h4, hkp, h6, h7, h8, h9⟩
  refine fz_asm J.1 ⟨fun c hc => fc_up_ne _ (by omega), fun j hj r h => IL.ok hj r (by rw [fc_up_ne _ (by omega)] at h; exact h)⟩ IK' (Io.up7 _) ((J.2.but k).gen (own' := own) (W' := W) (row' := [nI f, nI t, st, wv, aw, nI l, kp', kn'] ++ way) (z0 := (nI f, nI t)) (Y := fun _ => []) (Nat.le_refl _) (fun _ _ => rfl) hr rfl rfl (by rw [fc_up_ne _ (by omega)]; exact J.2.1) (fc_up_same _ _ _) ⟨w, a, b, c⟩ (fun j hj => fc_up_ne _ (by omega)) (fun j hj => fc_up_ne _ (by omega)) (fun j hj => by rw [fc_up_ne _ (by omega), List.append_nil]) (fun j hj r h => by cases h) (fz_C.app (fz_C.to hC (fun _ => rfl) rfl rfl rfl rfl rfl rfl rfl)) (fun j r _ hj => IK.sw n5 r (List.mem_of_getElem? hj)) hsw)
theorem fz_J.fin {s : fc_S} (J : fz_J own W ns room s) {k f t : Nat} {wv aw kp kn : Int32} {way : List Int32} (hr : (s 7)[k]? = some ([nI f, nI t, 2, wv, aw, nI 0, kp, kn] ++ way)) (hf : f < 6) (ht : t < 6) (hkp : kp = 0 ∨ kp = 1) (hl : 0 < way.length) (h5 : way.length ≤ 5) (hwe : ∀ x ∈ way, ∃ m, m < 4 * ns ∧ x = nI m) : fz_J own W ns room (fc_fin s k) := by
  obtain ⟨h0, IH, IP, IW, IG, IR, IL, Io, IK⟩ := id J.1
  have n5 := h0.2.1
  have hmem := List.mem_of_getElem? hr
  have hsw : ∀ e ∈ way, fz_sw e < ns := IK.sw n5 _ hmem
  obtain ⟨⟨w, a, b, c⟩, hnd, P, hP1, hP2, hP3, hP4⟩ := J.2.2.2.1 _ hmem
  have hP5 : P = way.map fz_sw ∧ ∀ i ∈ P, fz_le 2 2 (fz_T own s i (nI f, nI t)) := by
    rcases hP4 with ⟨-, b, c⟩ | ⟨a, -⟩ | ⟨a, -⟩
    · exact ⟨b, c⟩
    · exact absurd a (by show ¬ (2 : Int32) = 3; decide)
    · exact absurd a (by show ¬ (2 : Int32) = 1; decide)
  obtain ⟨rfl, hle⟩ := hP5
  have le3 : ∀ i ∈ way.map fz_sw, fz_le 3 2 (fz_T own s i (nI f, nI t)) := fun i hi => by
    obtain ⟨x, y, v⟩ := hle i hi
    exact ⟨by omega, y, v⟩
  have hrk : ∀ kp', (kp' = 0 ∨ kp' = 1) → fc_iK ns (fc_up s 7 ((s 7).set k ([nI f, nI t, 3, wv, aw, nI 0, kp', kn] ++ way))) := fun kp' h => IK.set ⟨f, t, 0, 3, wv, aw, kp', kn, way, hf, ht, rfl, Or.inr (Or.inr rfl), h, by omega, h5, hl, hwe⟩
  unfold fc_fin
  rw [fc_get_row hr, fc_get_row hr, fc_get_row hr, fc_get_row hr, fc_way_row hr]
  split
  · rw [fc_put_row hr]
    refine fz_asm J.1 ⟨fun c hc => fc_up_ne _ (by omega), fun j hj r h => IL.ok hj r (by rw [fc_up_ne _ (by omega)] at h; exact h)⟩ (hrk kp hkp) (Io.up7 _) ((J.2.but k).gen (own' := own) (W' := W) (row' := [nI f, nI t, 3, wv, aw, nI 0, kp, kn] ++ way) (z0 := (nI f, nI t)) (Y := fun _ => []) (Nat.le_refl _) (fun _ _ => rfl) hr rfl rfl (by rw [fc_up_ne _ (by omega)]; exact J.2.1) (fc_up_same _ _ _) ⟨w, a, b, c⟩ (fun j hj => fc_up_ne _ (by omega)) (fun j hj => fc_up_ne _ (by omega)) (fun j hj => by rw [fc_up_ne _ (by omega), List.append_nil]) (fun j hj r h => by cases h) (fz_C.app ⟨hnd, way.map fz_sw, hP1, hP2, hP3, Or.inr (Or.inl ⟨rfl, rfl, le3⟩)⟩) (fun j r _ hj => IK.sw n5 r (List.mem_of_getElem? hj)) hsw)
  · obtain ⟨m, hm, hx⟩ := hwe _ (List.getElem_mem hl)
    have hx0 : way.getD 0 0 = nI m := by rw [List.getD_eq_getElem?_getD, List.getElem?_eq_getElem hl, hx]; rfl
    rw [hx0, fc_ord_nI _ (by omega), fc_put2 hr]
    have hsm : fz_sw (nI m) = m / 4 := by unfold fz_sw; rw [nI_clamp (by omega)]
    have hmw : m / 4 ∈ way.map fz_sw := by rw [← hsm, ← hx]; exact List.mem_map_of_mem (List.getElem_mem hl)
    show fz_J own W ns room (fc_add (fc_up s 7 ((s 7).set k ([nI f, nI t, 3, wv, aw, nI 0, 0, kn] ++ way))) (30 + m / 4) [4, -1, nI f, nI t, kn])
    have on : ∀ j, j < ns → fc_add (fc_up s 7 ((s 7).set k ([nI f, nI t, 3, wv, aw, nI 0, 0, kn] ++ way))) (30 + m / 4) [4, -1, nI f, nI t, kn] (30 + j) = s (30 + j) ++ if j = m / 4 then [[4, -1, nI f, nI t, kn]] else [] := fun j hj => by
      by_cases q : j = m / 4
      · subst q; rw [if_pos rfl, fc_add_same, fc_up_ne _ (by omega)]
      · rw [if_neg q, fc_add_ne _ (by omega), fc_up_ne _ (by omega), List.append_nil]
    refine fz_asm J.1 ⟨fun c hc => by rw [fc_add_ne _ (by omega), fc_up_ne _ (by omega)], fun j hj r h => ?_⟩ ((hrk 0 (Or.inl rfl)).same (fc_add_ne _ (by omega))) ((Io.up7 _).same (fun c h1 h2 => fc_add_ne _ (by omega))) ((J.2.but k).gen (own' := own) (W' := W) (row' := [nI f, nI t, 3, wv, aw, nI 0, 0, kn] ++ way) (z0 := (nI f, nI t)) (Y := fun j => if j = m / 4 then [[4, -1, nI f, nI t, kn]] else []) (Nat.le_refl _) (fun _ _ => rfl) hr rfl rfl (by rw [fc_add_ne _ (by omega), fc_up_ne _ (by omega)]; exact J.2.1) (by rw [fc_add_ne _ (by omega), fc_up_same]) ⟨w, a, b, c⟩ (fun j hj => by rw [fc_add_ne _ (by omega), fc_up_ne _ (by omega)]) (fun j hj => by rw [fc_add_ne _ (by omega), fc_up_ne _ (by omega)]) on (fun j hj r h => ?_) ⟨hnd, way.map fz_sw, hP1, hP2, fun i hi hm' => ?_, Or.inr (Or.inl ⟨rfl, rfl, fun i hi => ?_⟩)⟩ (fun j r _ hj => IK.sw n5 r (List.mem_of_getElem? hj)) hsw)
    · rw [on j hj] at h
      rcases List.mem_append.mp h with h | h
      · exact IL.ok hj r h
      · by_cases q : j = m / 4
        · rw [if_pos q] at h
          exact Or.inr (Or.inr (Or.inr (Or.inr (Or.inl ⟨kn, f, t, hf, ht, List.mem_singleton.mp h⟩))))
        · rw [if_neg q] at h; cases h
    · by_cases q : j = m / 4
      · simp only [if_pos q] at h
        rw [List.mem_singleton.mp h]
        exact ⟨rfl, fun e => absurd e (by show ¬ (4 : Int32) = 2; decide)⟩
      · simp only [if_neg q] at h; cases h
    · have q : i ≠ m / 4 := fun q => hm' (by rw [q]; exact hmw)
      show (_, _, _) = _
      rw [if_pos hi, if_neg q, List.append_nil]
      exact hP3 i hi hm'
    · have hi' : i < ns := by
        obtain ⟨x, hx, rfl⟩ := List.mem_map.mp hi
        exact IK.sw n5 _ hmem x hx
      obtain ⟨x, y, v⟩ : fz_le 2 2 (fz_T own s i (nI f, nI t)) := hle i hi
      show fz_le 3 2 (_, _, _)
      rw [if_pos hi']
      by_cases q : i = m / 4
      · rw [if_pos q]
        refine ⟨?_, ?_, v⟩
        · show (_ ++ [_]).length ≤ 3
          rw [List.length_append, List.length_singleton]; omega
        · show (fz_T own s i (nI f, nI t)).2.1.length + (fz_T own s i (nI f, nI t)).2.2 + ((fz_T own s i (nI f, nI t)).1 ++ [_]).countP fz_hv ≤ 2
          rw [List.countP_append]
          have : [[4, -1, nI f, nI t, kn]].countP fz_hv = 0 := rfl
          omega
      · rw [if_neg q, List.append_nil]
        exact ⟨Nat.le_succ_of_le x, y, v⟩
/-- a course of which nothing is left is dropped -/
theorem fz_J.off {s : fc_S} (J : fz_J own W ns room s) {k : Nat} {row : List Int32} (hr : (s 7)[k]? = some row) (hnil : ∀ i, i < ns → fz_nil (fz_T own s i (fz_pr row))) : fz_J own W ns room (fc_up s 7 ((s 7).eraseIdx k)) := by
  obtain ⟨h0, IH, IP, IW, IG, IR, IL, Io, IK⟩ := id J.1
  have n5 := h0.2.1
  have hk := (List.getElem?_eq_some_iff.mp hr).1
  obtain ⟨h2, hL, hK, h1, hN⟩ := id J.2
  have e7 : fc_up s 7 ((s 7).eraseIdx k) 7 = (s 7).eraseIdx k := fc_up_same _ _ _
  have T : ∀ z, (fun i => fz_T own (fc_up s 7 ((s 7).eraseIdx k)) i z) = fun i => fz_T own s i z := fun z => by
    funext i
    unfold fz_T
    rw [fc_up_ne _ (by omega), fc_up_ne _ (by omega), fc_up_ne _ (by omega)]
  refine fz_asm J.1 ⟨fun c hc => fc_up_ne _ (by omega), fun j hj r h => IL.ok hj r (by rw [fc_up_ne _ (by omega)] at h; exact h)⟩ ⟨by rw [e7]; exact Nat.le_trans (List.length_eraseIdx_le _ _) IK.1, fun r hr => by rw [e7] at hr; exact IK.2 r (List.mem_of_mem_eraseIdx hr)⟩ (Io.up7 _) ⟨by rw [fc_up_ne _ (by omega)]; exact h2, fun i hi => by rw [fc_up_ne _ (by omega), fc_up_ne _ (by omega)]; exact hL i hi, fun r hr => ?_, fun j j' r r' hj hj' e => ?_, fun z hz i hi => ?_⟩
  · rw [e7] at hr
    rw [T]
    exact hK r (List.mem_of_mem_eraseIdx hr)
  · rw [e7, List.getElem?_eraseIdx] at hj hj'
    have g : ∀ (j : Nat) (r : List Int32), (if j < k then (s 7)[j]? else (s 7)[j + 1]?) = some r → (s 7)[if j < k then j else j + 1]? = some r := fun j r h => by
      by_cases q : j < k
      · rw [if_pos q] at h ⊢; exact h
      · rw [if_neg q] at h ⊢; exact h
    have := h1 _ _ r r' (g j r hj) (g j' r' hj') e
    split at this <;> split at this <;> omega
  · rw [e7] at hz
    have := congrFun (T z) i
    rw [this]
    by_cases q : fz_pr row = z
    · subst q; exact hnil i hi
    · refine hN z (fun r hr' e => ?_) i hi
      obtain ⟨j, hj⟩ := List.mem_iff_getElem?.mp hr'
      by_cases jk : j = k
      · subst jk
        rw [hr] at hj
        cases hj
        exact q e
      · refine hz r ?_ e
        refine List.mem_iff_getElem?.mpr ⟨if j < k then j else j - 1, ?_⟩
        rw [List.getElem?_eraseIdx]
        by_cases q : j < k
        · rw [if_pos q, if_pos q]; exact hj
        · rw [if_neg q, if_neg (show ¬ j - 1 < k by omega), show j - 1 + 1 = j by omega]; exact hj
end INK
