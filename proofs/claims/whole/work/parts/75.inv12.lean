/-! what always holds: a report is heard -/
section INL
variable {ns room idle : Nat}
variable {own own' : Int32 → Int32 × Int32} {W W' : Nat}
theorem fc_wayOf_nd {s : fc_S} (hn : ns ≤ 5) (Io : fc_iO ns s) {f t : Nat} (hf : f < 6) (ht : t < 6) : ((fc_wayOf ns s (nI f) (nI t)).map fz_sw).Nodup := by
  rcases fc_plc Io hf with h | ⟨a, ha, h⟩
  · rw [fc_wayOf_no (by omega) (by omega) (Or.inl h)]; exact List.nodup_nil
  rcases fc_plc Io ht with h' | ⟨b, hb, h'⟩
  · rw [fc_wayOf_no (by omega) (by omega) (Or.inr h')]; exact List.nodup_nil
  rw [fc_wayOf_yes (by omega) (by omega) (by omega) (by omega) h h']
  cases hL : pw_L ns (fc_E s) (b / 4) ns (a / 4) with
  | none => exact List.nodup_nil
  | some d =>
    have hw := (pw_L_some.mp hL).2.1
    have e : (((List.range d).map (fc_wF ns s (b / 4) d (a / 4)) ++ [nI b]).map fz_sw) = (List.range (d + 1)).map (pw_at ns (fc_E s) (b / 4) d (a / 4)) := by
      rw [List.range_succ, List.map_append, List.map_append, List.map_map]
      congr 1
      · refine List.map_congr_left (fun i hi => ?_)
        have hi := List.mem_range.mp hi
        show fz_sw (nI (4 * _ + _)) = _
        have hlt := pw_at_lt (i := i) (show a / 4 < ns by omega) hw (by omega)
        have := (fc_ld_ok (pw_at_edge hw hi)).1
        unfold fz_sw
        rw [nI_clamp (by omega)]
        omega
      · show [fz_sw (nI b)] = [_]
        rw [pw_at_last hw]
        unfold fz_sw
        rw [nI_clamp (by omega)]
    show (((List.range d).map (fc_wF ns s (b / 4) d (a / 4)) ++ [nI b]).map fz_sw).Nodup
    rw [e]
    refine List.pairwise_map.mpr (List.Pairwise.imp_of_mem (fun {x y} hx hy hxy q => ?_) List.pairwise_lt_range)
    have hx := List.mem_range.mp hx
    have hy := List.mem_range.mp hy
    have h1 := pw_at_L hL (show x ≤ d by omega)
    have h2 := pw_at_L hL (show y ≤ d by omega)
    rw [q, h2] at h1
    have := Option.some.inj h1
    omega
theorem fz_C.less {F F' : Nat → fz_3} {row : List Int32} (h : fz_C ns F row) (hs : ∀ i, i < ns → (∀ a b, fz_le a b (F i) → fz_le a b (F' i)) ∧ (fz_nil (F i) → fz_nil (F' i)) ∧ (row.getD 2 0 = 1 → fz_pd (row.getD 3 0) (fz_pr row) (F i) → fz_pd (row.getD 3 0) (fz_pr row) (F' i))) (hw : ∀ e ∈ row.drop 8, fz_sw e < ns) : fz_C ns F' row := by
  obtain ⟨h0, P, h1, h2, h3, h4⟩ := h
  refine ⟨h0, P, h1, h2, fun i hi hP => (hs i hi).2.1 (h3 i hi hP), ?_⟩
  have lt : ∀ l : List Int32, (∀ e ∈ l, e ∈ row.drop 8) → ∀ i ∈ l.map fz_sw, i < ns := fun l hl i hi => by
    obtain ⟨e, he, rfl⟩ := List.mem_map.mp hi
    exact hw e (hl e he)
  rcases h4 with ⟨a, b, c⟩ | ⟨a, b, c⟩ | ⟨a, b, c⟩
  · refine Or.inl ⟨a, b, fun i hi => (hs i (lt _ (fun e he => List.mem_of_mem_drop he) i (b ▸ hi))).1 _ _ (c i hi)⟩
  · refine Or.inr (Or.inl ⟨a, b, fun i hi => (hs i (lt _ (fun e he => he) i (b ▸ hi))).1 _ _ (c i hi)⟩)
  · exact Or.inr (Or.inr ⟨a, b, fun i hi => ⟨(c i hi).1, (hs i (c i hi).1).2.2 a (c i hi).2⟩⟩)
theorem fz_shorter {w : Int32} {z : Int32 × Int32} {r : List Int32} {O Q : List (List Int32)} {R : Nat} : (∀ a b, fz_le a b (O, r :: Q, R) → fz_le a b (O, Q, R)) ∧ (fz_nil (O, r :: Q, R) → fz_nil (O, Q, R)) ∧ (r ≠ [2, w, -1, -1, 0] → fz_pd w z (O, r :: Q, R) → fz_pd w z (O, Q, R)) := by
  have le : ∀ a b, fz_le a b (O, r :: Q, R) → fz_le a b (O, Q, R) := fun a b ⟨x, y, v⟩ => by
    refine ⟨x, ?_, v⟩
    have y' : (r :: Q).length + R + O.countP fz_hv ≤ b := y
    show Q.length + R + O.countP fz_hv ≤ b
    rw [List.length_cons] at y'
    omega
  refine ⟨le, fun h => absurd (congrArg (fun T : fz_3 => T.2.1) h) (by simp), fun hne ⟨x, y⟩ => ⟨le _ _ x, ?_⟩⟩
  rcases y with ⟨pre, e1, e2, e3⟩ | ⟨e1, e2, e3⟩ | ⟨e1, e2, pre, e3, e4⟩
  · exact Or.inl ⟨pre, e1, e2, fun q => e3 (List.mem_cons_of_mem _ q)⟩
  · exact Or.inr (Or.inl ⟨e1, e2, fun q => e3 (List.mem_cons_of_mem _ q)⟩)
  · cases pre with
    | nil => exact absurd (List.cons.inj e3).1 hne
    | cons a pre => exact Or.inr (Or.inr ⟨e1, e2, pre, (List.cons.inj e3).2, fun q => e4 (List.mem_cons_of_mem _ q)⟩)
theorem fz_T_del {s : fc_S} {i j : Nat} (n5 : ns ≤ 5) (hi : i < ns) (hj : j < ns) {r : List Int32} {rest : List (List Int32)} (hr : s (40 + i) = r :: rest) (z : Int32 × Int32) : fz_T own (fc_del s (40 + i) 0) j z = ((fz_T own s j z).1, if j = i then fz_fq own z rest else (fz_T own s j z).2.1, (fz_T own s j z).2.2) := by
  unfold fz_T
  rw [fc_del_ne _ (show 30 + j ≠ 40 + i by omega), fc_del_ne _ (show 20 + j ≠ 40 + i by omega)]
  by_cases e : j = i
  · subst e
    rw [if_pos rfl, fc_del_same, hr]
    rfl
  · rw [if_neg e, fc_del_ne _ (by omega)]
theorem fz_T_q0 {s : fc_S} {i : Nat} {r : List Int32} {rest : List (List Int32)} (hr : s (40 + i) = r :: rest) (z : Int32 × Int32) : fz_T own s i z = ((fz_T own s i z).1, fz_fq own z [r] ++ fz_fq own z rest, (fz_T own s i z).2.2) := by
  unfold fz_T
  rw [hr, ← fz_fq_cons]
theorem fz_L.del {s : fc_S} (n5 : ns ≤ 5) (hL : fz_L W ns s) {i : Nat} (hi : i < ns) : fz_L W ns (fc_del s (40 + i) 0) := fun j hj => by
  obtain ⟨a, b, c, d⟩ := hL j hj
  rw [fc_del_ne _ (show 30 + j ≠ 40 + i by omega)]
  by_cases e : j = i
  · subst e
    rw [fc_del_same]
    exact ⟨a, fun r hr => b r (List.mem_of_mem_eraseIdx hr), c, Nat.le_trans ((List.eraseIdx_sublist _ _).countP_le) d⟩
  · rw [fc_del_ne _ (by omega)]; exact ⟨a, b, c, d⟩
theorem fz_J.heard {s : fc_S} (J : fz_J own W ns room s) {i : Nat} {r : List Int32} {rest : List (List Int32)} (hi : i < ns) (hr : s (40 + i) = r :: rest) (hno : ∀ row ∈ s 7, row.getD 2 0 = 1 → r ≠ [2, row.getD 3 0, -1, -1, 0]) : fz_J own W ns room (fc_del s (40 + i) 0) := by
  have n5 := J.1.1.2.1
  have IK := J.1.2.2.2.2.2.2.2.2
  obtain ⟨h2, hL, hK, h1, hN⟩ := J.2
  have e7 : fc_del s (40 + i) 0 7 = s 7 := fc_del_ne _ (by omega)
  refine ⟨J.1.delL 0 (Or.inr ⟨by omega, by omega⟩), by rw [fc_del_ne _ (by omega)]; exact h2, hL.del n5 hi, fun row hrow => ?_, fun j k r r' a b => by rw [e7] at a b; exact h1 j k r r' a b, fun z hz j hj => ?_⟩
  · rw [e7] at hrow
    refine ⟨(hK row hrow).1, (hK row hrow).2.less (fun j hj => ?_) (IK.sw n5 row hrow)⟩
    show (∀ a b, fz_le a b (fz_T own s j _) → fz_le a b (fz_T own (fc_del s (40 + i) 0) j _)) ∧ (fz_nil (fz_T own s j _) → fz_nil (fz_T own (fc_del s (40 + i) 0) j _)) ∧ (_ → fz_pd _ _ (fz_T own s j _) → fz_pd _ _ (fz_T own (fc_del s (40 + i) 0) j _))
    rw [fz_T_del n5 hi hj hr]
    by_cases e : j = i
    · subst e
      rw [if_pos rfl, fz_T_q0 hr (fz_pr row)]
      by_cases q : fz_pq own r = some (fz_pr row)
      · rw [fz_fq_yes q]
        exact ⟨fz_shorter (w := 0) (z := fz_pr row).1, (fz_shorter (w := 0) (z := fz_pr row)).2.1, fun hst => fz_shorter.2.2 (hno row hrow hst)⟩
      · rw [fz_fq_no q]
        exact ⟨fun _ _ h => h, fun h => h, fun _ h => h⟩
    · rw [if_neg e]
      exact ⟨fun _ _ h => h, fun h => h, fun _ h => h⟩
  · rw [e7] at hz
    have hn := hN z hz j hj
    rw [fz_T_del n5 hi hj hr]
    by_cases e : j = i
    · subst e
      rw [if_pos rfl]
      rw [fz_T_q0 hr z] at hn
      have hn' : fz_T own s j z = ([], [], 0) := by rw [fz_T_q0 hr z]; exact hn
      have h0 := congrArg (fun T : fz_3 => T.2.1) hn
      have h0' : fz_fq own z [r] ++ fz_fq own z rest = [] := h0
      rw [(List.append_eq_nil_iff.mp h0').2, hn']
      rfl
    · rw [if_neg e]
      exact hn
/-- a DONE that a course waits for -/
theorem fz_J.count {s : fc_S} (J : fz_J own W ns room s) {i k f t l : Nat} {wv aw kp kn : Int32} {way : List Int32} {rest : List (List Int32)} (hi : i < ns) (hr : s (40 + i) = [2, wv, -1, -1, 0] :: rest) (hk : (s 7)[k]? = some ([nI f, nI t, 1, wv, aw, nI l, kp, kn] ++ way)) : fz_J own W ns room (fc_up (fc_del s (40 + i) 0) 7 (((fc_del s (40 + i) 0) 7).set k ([nI f, nI t, 1, wv, aw - 1, nI l, kp, kn] ++ way))) ∧ (¬ 0 < aw - 1 → ∀ j, j < ns → fz_nil (fz_T own (fc_del s (40 + i) 0) j (nI f, nI t))) := by
  have n5 := J.1.1.2.1
  obtain ⟨h0, IH, IP, IW, IG, IR, IL, Io, IK⟩ := id J.1
  obtain ⟨h2, hL, hK, h1, hN⟩ := id J.2
  have hmem := List.mem_of_getElem? hk
  have hkl := (List.getElem?_eq_some_iff.mp hk).1
  have e7 : fc_del s (40 + i) 0 7 = s 7 := fc_del_ne _ (by omega)
  obtain ⟨⟨w, hw, hwv, how⟩, hnd, P, hP1, hP2, hP3, hP4⟩ := hK _ hmem
  have hwv' : wv = nI w := hwv
  have how' : own wv = (nI f, nI t) := by rw [hwv']; exact how
  have pq : fz_pq own [2, wv, -1, -1, 0] = some (nI f, nI t) := congrArg some how'
  have hP5 : aw = nI P.length ∧ ∀ j ∈ P, j < ns ∧ fz_pd wv (nI f, nI t) (fz_T own s j (nI f, nI t)) := by
    rcases hP4 with ⟨a, -⟩ | ⟨a, -⟩ | ⟨-, b, c⟩
    · exact absurd a (by show ¬ (1 : Int32) = 2; decide)
    · exact absurd a (by show ¬ (1 : Int32) = 3; decide)
    · exact ⟨b, c⟩
  obtain ⟨haw, hpd⟩ := hP5
  have Tne : ∀ j, j < ns → ∀ z, (nI f, nI t) ≠ z → fz_T own (fc_del s (40 + i) 0) j z = fz_T own s j z := fun j hj z hz => by
    rw [fz_T_del n5 hi hj hr]
    by_cases e : j = i
    · subst e
      rw [if_pos rfl]
      conv => rhs; rw [fz_T_q0 hr z]
      rw [fz_fq_no (by rw [pq]; simpa using hz)]
      rfl
    · rw [if_neg e]
  have Tj : ∀ j, j < ns → j ≠ i → ∀ z, fz_T own (fc_del s (40 + i) 0) j z = fz_T own s j z := fun j hj e z => by
    rw [fz_T_del n5 hi hj hr, if_neg e]
  have hiP : i ∈ P := Classical.byContradiction fun q => by
    have hn : fz_T own s i (nI f, nI t) = ([], [], 0) := hP3 i hi q
    have := congrArg (fun T : fz_3 => T.2.1) ((fz_T_q0 hr (nI f, nI t)).symm.trans hn)
    rw [fz_fq_yes pq] at this
    cases this
  have Ti : fz_nil (fz_T own (fc_del s (40 + i) 0) i (nI f, nI t)) := by
    obtain ⟨-, -, hp⟩ := hpd i hiP
    rw [fz_T_del n5 hi hi hr, if_pos rfl]
    have hq : (fz_T own s i (nI f, nI t)).2.1 = [2, wv, -1, -1, 0] :: fz_fq own (nI f, nI t) rest := by
      conv => lhs; rw [fz_T_q0 hr (nI f, nI t)]
      rw [fz_fq_yes pq]
      rfl
    rw [hq] at hp
    rcases hp with ⟨pre, -, -, e3⟩ | ⟨-, -, e3⟩ | ⟨e1, e2, pre, e3, e4⟩
    · exact absurd (List.mem_cons_self ..) e3
    · exact absurd (List.mem_cons_self ..) e3
    · cases pre with
      | nil =>
        have h9 := (List.cons.inj e3).2
        show (_, _, _) = _
        rw [e1, e2, h9]
      | cons a pre => exact absurd (by rw [← (List.cons.inj e3).1]; exact List.mem_cons_self ..) e4
  have hpos : 0 < P.length := List.length_pos_of_mem hiP
  have hle := List.length_erase_of_mem hiP
  have haw1 : aw - 1 = nI (P.erase i).length := by
    rw [haw, hle, show P.length = P.length - 1 + 1 by omega, nI_pred]
    congr 1
  have X : fz_X own W ns (fc_del s (40 + i) 0) k := by
    refine ⟨by rw [fc_del_ne _ (by omega)]; exact h2, hL.del n5 hi, fun j r hj hr' => ?_, fun j j' r r' a b => by rw [e7] at a b; exact h1 j j' r r' a b, fun z hz j hj => ?_⟩
    · rw [e7] at hr'
      have hne : (nI f, nI t) ≠ fz_pr r := fun q => hj (h1 j k r _ hr' hk q.symm)
      have h := hK r (List.mem_of_getElem? hr')
      exact ⟨h.1, h.2.step (fun j hj => fz_ste.of (Tne j hj _ hne)) (IK.sw n5 r (List.mem_of_getElem? hr'))⟩
    · rw [e7] at hz
      rw [Tne j hj z (hz _ hmem)]
      exact hN z hz j hj
  have hsw : ∀ e ∈ way, fz_sw e < ns := IK.sw n5 _ hmem
  obtain ⟨f', t', l', st', wv', aw', kp', kn', way', g1, g2, g3, g4, g5, g6, g7, g8, g9⟩ := IK.2 _ hmem
  simp only [List.cons_append, List.cons.injEq, List.nil_append] at g3
  obtain ⟨i0, i1, i2, i3, i4, i5, i6, i7, i8⟩ := g3
  subst i6 i7 i8
  have IK1 : fc_iK ns (fc_del s (40 + i) 0) := IK.same e7
  have IK2 := IK1.set (k := k) (row' := [nI f, nI t, 1, wv, aw - 1, nI l, kp, kn] ++ way) ⟨f', t', l', 1, wv, aw - 1, kp, kn, way, g1, g2, by rw [i0, i1, i5], Or.inl rfl, g5, g6, g7, g8, g9⟩
  constructor
  · refine fz_asm (J.1.delL (c := 40 + i) 0 (Or.inr ⟨by omega, by omega⟩)) ⟨fun c hc => fc_up_ne _ (by omega), fun j hj r h => IL.ok hj r (by rw [fc_up_ne _ (by omega), fc_del_ne _ (by omega)] at h; exact h)⟩ IK2 ((Io.same (fun c h1 h2 => fc_del_ne _ (by omega))).up7 _) (X.gen (own' := own) (W' := W) (row' := [nI f, nI t, 1, wv, aw - 1, nI l, kp, kn] ++ way) (z0 := (nI f, nI t)) (Y := fun _ => []) (Nat.le_refl _) (fun _ _ => rfl) (by rw [e7]; exact hk) rfl rfl (by rw [fc_up_ne _ (by omega)]; exact X.1) (fc_up_same _ _ _) ⟨w, hw, hwv, how⟩ (fun j hj => fc_up_ne _ (by omega)) (fun j hj => fc_up_ne _ (by omega)) (fun j hj => by rw [fc_up_ne _ (by omega), List.append_nil]) (fun j hj r h => by cases h) (fz_C.app ⟨hnd, P.erase i, hP1.erase i, by omega, fun j hj hm => ?_, Or.inr (Or.inr ⟨rfl, haw1, fun j hj => ?_⟩)⟩) (fun j r _ hj => IK1.sw n5 r (List.mem_of_getElem? hj)) hsw)
    · show fz_nil (fz_T own (fc_del s (40 + i) 0) j (nI f, nI t))
      by_cases e : j = i
      · subst e; exact Ti
      · rw [Tj j hj e]
        exact hP3 j hj (fun q => hm ((List.mem_erase_of_ne e).mpr q))
    · have hjP := List.mem_of_mem_erase hj
      have e : j ≠ i := fun q => by
        subst q
        exact absurd hj (fun q => (hP1.mem_erase_iff.mp q).1 rfl)
      refine ⟨(hpd j hjP).1, ?_⟩
      show fz_pd wv (nI f, nI t) (fz_T own (fc_del s (40 + i) 0) j (nI f, nI t))
      rw [Tj j (hpd j hjP).1 e]
      exact (hpd j hjP).2
  · intro hno j hj
    rw [haw1] at hno
    have hE : (P.erase i).length = 0 := Classical.byContradiction fun q => hno (by
      have := nI_lt (a := 0) (b := (P.erase i).length) (by omega) (by omega)
      rw [nI_0] at this
      exact this)
    by_cases e : j = i
    · subst e; exact Ti
    · rw [Tj j hj e]
      exact hP3 j hj (fun q => by
        have := List.length_pos_of_mem ((List.mem_erase_of_ne e).mpr q)
        omega)
end INL
