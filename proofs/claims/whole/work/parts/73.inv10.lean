/-! what always holds: a course is changed -/
section INJ
variable {ns room idle : Nat}
variable {own own' : Int32 → Int32 × Int32} {W W' : Nat}
/-- all of it but one course -/
def fz_X (own : Int32 → Int32 × Int32) (W ns : Nat) (s : fc_S) (k : Nat) : Prop := s 2 = [[nI W]] ∧ fz_L W ns s ∧ (∀ (j : Nat) (row : List Int32), j ≠ k → (s 7)[j]? = some row → (∃ w, w ≤ W ∧ row.getD 3 0 = nI w ∧ own (nI w) = fz_pr row) ∧ fz_C ns (fun i => fz_T own s i (fz_pr row)) row) ∧ fz_one s ∧ ∀ z, (∀ r ∈ s 7, fz_pr r ≠ z) → ∀ i, i < ns → fz_nil (fz_T own s i z)
theorem fz_I.but {s : fc_S} (I : fz_I own W ns s) (k : Nat) : fz_X own W ns s k := ⟨I.1, I.2.1, fun j row _ h => I.2.2.1 row (List.mem_of_getElem? h), I.2.2.2⟩
theorem fz_po_own {r : List Int32} (ho : ∀ w, w ≤ W → own' (nI w) = own (nI w)) (hw : fz_wb W r) : fz_po own' r = fz_po own r := by
  unfold fz_po
  by_cases h : r.getD 0 0 = 2
  · obtain ⟨w, hw, e⟩ := hw h
    rw [if_pos h, if_pos h, e, ho w hw]
  · rw [if_neg h, if_neg h]
theorem fz_pq_own {r : List Int32} (ho : ∀ w, w ≤ W → own' (nI w) = own (nI w)) (hw : fz_wb W r) : fz_pq own' r = fz_pq own r := by
  unfold fz_pq
  by_cases h : r.getD 0 0 = 2
  · obtain ⟨w, hw, e⟩ := hw h
    rw [if_pos h, if_pos h, e, ho w hw]
  · rw [if_neg h, if_neg h]
theorem fz_fo_own {l : List (List Int32)} (ho : ∀ w, w ≤ W → own' (nI w) = own (nI w)) (hw : ∀ r ∈ l, fz_wb W r) (z : Int32 × Int32) : fz_fo own' z l = fz_fo own z l := List.filter_congr (fun r hr => by rw [fz_po_own ho (hw r hr)])
theorem fz_fq_own {l : List (List Int32)} (ho : ∀ w, w ≤ W → own' (nI w) = own (nI w)) (hw : ∀ r ∈ l, fz_wb W r) (z : Int32 × Int32) : fz_fq own' z l = fz_fq own z l := List.filter_congr (fun r hr => by rw [fz_pq_own ho (hw r hr)])
theorem fz_fo_all {l : List (List Int32)} {z : Int32 × Int32} (h : ∀ r ∈ l, fz_po own r = some z) : fz_fo own z l = l := List.filter_eq_self.mpr (fun r hr => decide_eq_true (h r hr))
theorem fz_fo_none {l : List (List Int32)} {z z' : Int32 × Int32} (h : ∀ r ∈ l, fz_po own r = some z) (hz : z ≠ z') : fz_fo own z' l = [] := List.filter_eq_nil_iff.mpr (fun r hr => by rw [h r hr]; simpa using hz)
theorem fz_wb.mono {r : List Int32} (h : fz_wb W r) (hW : W ≤ W') : fz_wb W' r := fun e => by
  obtain ⟨w, h1, h2⟩ := h e
  exact ⟨w, by omega, h2⟩
theorem fz_X.gen {s s' : fc_S} {k : Nat} {row row' : List Int32} {z0 : Int32 × Int32} {Y : Nat → List (List Int32)} (I : fz_X own W ns s k) (hW : W ≤ W') (ho : ∀ w, w ≤ W → own' (nI w) = own (nI w)) (hk : (s 7)[k]? = some row) (hz : fz_pr row = z0) (hz' : fz_pr row' = z0) (h2 : s' 2 = [[nI W']]) (h7 : s' 7 = (s 7).set k row') (hwv : ∃ w, w ≤ W' ∧ row'.getD 3 0 = nI w ∧ own' (nI w) = z0) (h20 : ∀ j, j < ns → s' (20 + j) = s (20 + j)) (h40 : ∀ j, j < ns → s' (40 + j) = s (40 + j)) (h30 : ∀ j, j < ns → s' (30 + j) = s (30 + j) ++ Y j) (hY : ∀ j, j < ns → ∀ r ∈ Y j, fz_po own' r = some z0 ∧ fz_wb W' r) (hC : fz_C ns (fun i => ((fz_T own s i z0).1 ++ if i < ns then Y i else [], (fz_T own s i z0).2.1, (fz_T own s i z0).2.2)) row') (hw : ∀ (j : Nat) (r : List Int32), j ≠ k → (s 7)[j]? = some r → ∀ e ∈ r.drop 8, fz_sw e < ns) (hw' : ∀ e ∈ row'.drop 8, fz_sw e < ns) : fz_I own' W' ns s' := by
  obtain ⟨-, hL, hK, h1, hN⟩ := I
  have hkl := (List.getElem?_eq_some_iff.mp hk).1
  have Tz : ∀ j, j < ns → ∀ z, z0 ≠ z → fz_T own' s' j z = fz_T own s j z := fun j hj z hne => by
    unfold fz_T
    rw [h20 j hj, h40 j hj, h30 j hj, fz_fo_app, fz_fo_own ho (hL j hj).1, fz_fq_own ho (hL j hj).2.1, fz_fo_none (fun r hr => (hY j hj r hr).1) hne, List.append_nil]
  have T0 : ∀ j, j < ns → fz_T own' s' j z0 = ((fz_T own s j z0).1 ++ Y j, (fz_T own s j z0).2.1, (fz_T own s j z0).2.2) := fun j hj => by
    unfold fz_T
    rw [h20 j hj, h40 j hj, h30 j hj, fz_fo_app, fz_fo_own ho (hL j hj).1, fz_fq_own ho (hL j hj).2.1, fz_fo_all (fun r hr => (hY j hj r hr).1)]
  refine ⟨h2, fun j hj => ?_, ?_, ?_, ?_⟩
  · obtain ⟨a, b, c, d⟩ := hL j hj
    rw [h30 j hj, h40 j hj]
    refine ⟨fun r hr => ?_, fun r hr => (b r hr).mono hW, ?_, d⟩
    · rcases List.mem_append.mp hr with h | h
      · exact (a r h).mono hW
      · exact (hY j hj r h).2
    · rw [List.countP_append, show (Y j).countP fz_lo = 0 from List.countP_eq_zero.mpr (fun r hr e => by
        have := fz_lo_none (own := own') e
        rw [(hY j hj r hr).1] at this
        cases this)]
      exact c
  · rw [h7]
    intro r hr
    obtain ⟨j, hj⟩ := List.mem_iff_getElem?.mp hr
    by_cases e : j = k
    · subst e
      rw [List.getElem?_set_self hkl] at hj
      cases hj
      rw [hz']
      refine ⟨hwv, hC.step (fun i hi => fz_ste.of ?_) hw'⟩
      show fz_T own' s' i z0 = ((fz_T own s i z0).1 ++ if i < ns then Y i else [], _, _)
      rw [T0 i hi, if_pos hi]
    · rw [List.getElem?_set_ne (Ne.symm e)] at hj
      obtain ⟨⟨w, a, b, c⟩, d⟩ := hK j r e hj
      have hne : z0 ≠ fz_pr r := fun q => e (h1 j k r row hj hk (by rw [hz]; exact q.symm))
      exact ⟨⟨w, by omega, b, by rw [ho w a]; exact c⟩, d.step (fun i hi => fz_ste.of (Tz i hi _ hne)) (hw j r e hj)⟩
  · intro j j' r r' hj hj' e
    rw [h7] at hj hj'
    have get : ∀ (j : Nat) (r : List Int32), ((s 7).set k row')[j]? = some r → ∃ q, (s 7)[j]? = some q ∧ fz_pr q = fz_pr r := fun j r h => by
      by_cases e : j = k
      · subst e
        rw [List.getElem?_set_self hkl] at h
        cases h
        exact ⟨row, hk, by rw [hz, hz']⟩
      · rw [List.getElem?_set_ne (Ne.symm e)] at h
        exact ⟨r, h, rfl⟩
    obtain ⟨q, a, b⟩ := get j r hj
    obtain ⟨q', a', b'⟩ := get j' r' hj'
    exact h1 j j' q q' a a' (by rw [b, b', e])
  · intro z hz2 i hi
    rw [h7] at hz2
    have hne : z0 ≠ z := fun q => hz2 row' (List.mem_of_getElem? (List.getElem?_set_self hkl)) (by rw [hz']; exact q)
    rw [Tz i hi z hne]
    refine hN z (fun r hr q => ?_) i hi
    obtain ⟨j, hj⟩ := List.mem_iff_getElem?.mp hr
    by_cases e : j = k
    · subst e
      rw [hk] at hj
      cases hj
      exact hne (by rw [← hz]; exact q)
    · exact hz2 r (List.mem_of_getElem? ((List.getElem?_set_ne (Ne.symm e)).trans hj)) q
/-- what the controller leaves as it is -/
def fz_cs (ns : Nat) (s s' : fc_S) : Prop := (∀ c, (c ≤ 1 ∨ (10 ≤ c ∧ c < 30) ∨ 40 ≤ c) → s' c = s c) ∧ ∀ j, j < ns → ∀ r ∈ s' (30 + j), fc_oOk r
theorem fz_asm {s s' : fc_S} (D : fc_iD ns room s) (h : fz_cs ns s s') (IK : fc_iK ns s') (Io : fc_iO ns s') (I : fz_I own W ns s') : fz_J own W ns room s' := by
  obtain ⟨h0, IH, IP, IW, IG, IR, IL, -, -⟩ := D
  have n5 := h0.2.1
  refine ⟨⟨h0, IH.same (fun c hc => h.1 c (by omega)), IP.same (fun c hc => h.1 c (by omega)), IW.same (fun c hc => h.1 c (by omega)), IG.same (fun j hj => h.1 _ (by omega)), IR.same (fun j hj => h.1 _ (by omega)), fun j hj => ?_, Io, IK⟩, I⟩
  have hs := fz_short I IK.1 hj
  have := IL j hj
  exact ⟨⟨by omega, h.2 j hj⟩, by omega, by rw [h.1 _ (by omega)]; exact this.2.2⟩
theorem fc_iL.ok {s : fc_S} (IL : fc_iL ns s) {j : Nat} (hj : j < ns) : ∀ r ∈ s (30 + j), fc_oOk r := (IL j hj).1.2
/-- a wave is made -/
def fz_own (own : Int32 → Int32 × Int32) (W : Nat) (z : Int32 × Int32) : Int32 → Int32 × Int32 := fun x => if x = nI (W + 1) then z else own x
theorem fz_own_old {z : Int32 × Int32} (hW : W + 1 < 2 ^ 31) {w : Nat} (hw : w ≤ W) : fz_own own W z (nI w) = own (nI w) := if_neg (fun e => by have := (nI_eq (by omega) hW).mp e; omega)
theorem fz_own_new (z : Int32 × Int32) : fz_own own W z (nI (W + 1)) = z := if_pos rfl
theorem fc_fold_at {r1 r2 : List Int32} : ∀ {way : List Int32} (u : fc_S) (j : Nat), (way.map fz_sw).Nodup → (way.foldl (fun u e => fc_ord (fc_ord u e r1) e r2) u) (30 + j) = u (30 + j) ++ if j ∈ way.map fz_sw then [r1, r2] else []
  | [], u, j, _ => by simp
  | e :: way, u, j, h => by
    rw [List.map_cons, List.nodup_cons] at h
    rw [List.foldl_cons, fc_fold_at _ _ h.2]
    show (fc_add (fc_add u (30 + fz_sw e) r1) (30 + fz_sw e) r2) (30 + j) ++ _ = _
    rw [List.map_cons]
    by_cases q : j = fz_sw e
    · subst q
      rw [fc_add_same, fc_add_same, if_neg h.1, if_pos (List.mem_cons_self ..), List.append_nil, List.append_assoc]
      rfl
    · rw [fc_add_ne _ (by omega), fc_add_ne _ (by omega)]
      congr 1
      by_cases m : j ∈ way.map fz_sw
      · rw [if_pos m, if_pos (List.mem_cons_of_mem _ m)]
      · rw [if_neg m, if_neg (fun z => by rcases List.mem_cons.mp z with z | z <;> contradiction)]
theorem fc_fold_off {r1 r2 : List Int32} {c : Nat} : ∀ {way : List Int32} (u : fc_S), (∀ e ∈ way, c ≠ 30 + fz_sw e) → (way.foldl (fun u e => fc_ord (fc_ord u e r1) e r2) u) c = u c
  | [], u, _ => rfl
  | e :: way, u, h => by
    rw [List.foldl_cons, fc_fold_off _ (fun x hx => h x (List.mem_cons_of_mem _ hx))]
    show (fc_add (fc_add u (30 + fz_sw e) r1) (30 + fz_sw e) r2) c = _
    rw [fc_add_ne _ (h e (List.mem_cons_self ..)), fc_add_ne _ (h e (List.mem_cons_self ..))]
theorem fz_mem_le {own : Int32 → Int32 × Int32} {W : Nat} {l : List (List Int32)} (hl : ∀ r ∈ l, fz_wb W r) (hW : W + 1 < 2 ^ 31) : [2, nI (W + 1), -1, -1, 0] ∉ l := fun h => by
  obtain ⟨w, hw, e⟩ := hl _ h rfl
  have := (nI_eq (show W + 1 < 2 ^ 31 by omega) (by omega)).mp e
  omega
theorem fz_J.clr {s : fc_S} (J : fz_J own W ns room s) (hW : W + 1 < 2 ^ 31) {k : Nat} (hk : k < (s 7).length) (hst : fc_get s 7 k 2 = 2 ∨ fc_get s 7 k 2 = 3) : ∃ own', fz_J own' (W + 1) ns room (fc_clr s k) := by
  obtain ⟨h0, IH, IP, IW, IG, IR, IL, Io, IK⟩ := id J.1
  have n5 := h0.2.1
  obtain ⟨f, t, l, st, wv, aw, kp, kn, way, hr, h1, h2, h4, h5, h6, h7, h8, h9⟩ := IK.row hk
  have hst' : st = 2 ∨ st = 3 := by rw [fc_get_row hr] at hst; exact hst
  obtain ⟨e7, e2⟩ := fc_clr_7 hr J.2.1
  have hsw : ∀ e ∈ way, fz_sw e < ns := IK.sw n5 _ (List.mem_of_getElem? hr)
  obtain ⟨-, hnd, P, hP1, hP2, hP3, hP4⟩ := J.2.2.2.1 _ (List.mem_of_getElem? hr)
  have hnd' : (way.map fz_sw).Nodup := hnd
  have hpr : fz_pr ([nI f, nI t, st, wv, aw, nI l, kp, kn] ++ way) = (nI f, nI t) := rfl
  rw [hpr] at hP3 hP4
  have el : (nI W + 1 : Int32) = nI (W + 1) := nI_1 W
  rw [el] at e7 e2
  have key : ∀ c, fc_clr s k c = (way.foldl (fun u e => fc_ord (fc_ord u e [1, -1, nI f, nI t, 0]) e [2, nI (W + 1), -1, -1, 0]) (fc_cb s k)) c := fun c => by
    obtain ⟨-, a, b, d, e⟩ := fc_cb_eq hr J.2.1
    show (List.foldl _ (fc_cb s k) _) c = _
    rw [a, b, d, e, el]
  have off : ∀ c, 35 ≤ c → fc_clr s k c = s c := fun c hc => by
    rw [key, fc_fold_off _ (fun e he => by have := hsw e he; omega), fc_cb_ne (by omega) (by omega)]
  have on : ∀ j, j < ns → fc_clr s k (30 + j) = s (30 + j) ++ if j ∈ way.map fz_sw then [[1, -1, nI f, nI t, 0], [2, nI (W + 1), -1, -1, 0]] else [] := fun j hj => by
    rw [key, fc_fold_at _ _ hnd', fc_cb_ne (by omega) (by omega)]
  have Pw : ∀ i, i ∈ P → i ∈ way.map fz_sw := fun i hi => by
    rcases hP4 with ⟨-, b, -⟩ | ⟨-, b, -⟩ | ⟨a, -⟩
    · rw [b] at hi
      obtain ⟨x, hx, rfl⟩ := List.mem_map.mp hi
      exact List.mem_map_of_mem (List.mem_of_mem_drop hx)
    · rw [b] at hi; exact hi
    · exact absurd a (by show ¬ st = 1; rcases hst' with rfl | rfl <;> decide)
  have le : ∀ i, i < ns → fz_le 3 2 (fz_T own s i (nI f, nI t)) := fun i hi => by
    by_cases m : i ∈ P
    · rcases hP4 with ⟨-, -, c⟩ | ⟨-, -, c⟩ | ⟨a, -⟩
      · obtain ⟨x, y, v⟩ : fz_le 2 2 (fz_T own s i (nI f, nI t)) := c i m
        exact ⟨by omega, y, v⟩
      · exact c i m
      · exact absurd a (by show ¬ st = 1; rcases hst' with rfl | rfl <;> decide)
    · have : fz_T own s i (nI f, nI t) = ([], [], 0) := hP3 i hi m
      rw [this]
      exact ⟨Nat.zero_le _, Nat.zero_le _, Nat.zero_le _⟩
  refine ⟨fz_own own W (nI f, nI t), fz_asm J.1 ⟨fun c hc => ?_, fun j hj r hr' => ?_⟩ (IK.clr Io hk).1 (IK.clr Io hk).2 ((J.2.but k).gen (row' := [nI f, nI t, 1, nI (W + 1), nI way.length, nI l, kp, kn] ++ way) (z0 := (nI f, nI t)) (Y := fun j => if j ∈ way.map fz_sw then [[1, -1, nI f, nI t, 0], [2, nI (W + 1), -1, -1, 0]] else []) (Nat.le_succ W) (fun w hw => fz_own_old hW hw) hr rfl rfl e2 e7 ⟨W + 1, Nat.le_refl _, rfl, fz_own_new _⟩ (fun j hj => ?_) (fun j hj => off _ (by omega)) on (fun j hj r hr' => ?_) ⟨hnd, way.map fz_sw, hnd', ?_, fun i hi hm => ?_, Or.inr (Or.inr ⟨rfl, ?_, fun i hi => ?_⟩)⟩ (fun j r _ hj => IK.sw n5 r (List.mem_of_getElem? hj)) hsw)⟩
  · rcases hc with hc | hc | hc
    · rw [fc_clr_ne (by omega), fc_cb_ne (by omega) (by omega)]
    · rw [fc_clr_ne (by omega), fc_cb_ne (by omega) (by omega)]
    · exact off c (by omega)
  · rw [on j hj] at hr'
    rcases List.mem_append.mp hr' with h | h
    · exact IL.ok hj r h
    · by_cases m : j ∈ way.map fz_sw
      · rw [if_pos m] at h
        rcases List.mem_cons.mp h with h | h
        · exact Or.inr (Or.inl ⟨f, t, h1, h2, h⟩)
        · exact Or.inr (Or.inr (Or.inl ⟨_, List.mem_singleton.mp h⟩))
      · rw [if_neg m] at h; cases h
  · rw [fc_clr_ne (by omega), fc_cb_ne (by omega) (by omega)]
  · by_cases m : j ∈ way.map fz_sw
    · simp only [if_pos m] at hr'
      rcases List.mem_cons.mp hr' with h | h
      · rw [h]; exact ⟨rfl, fun e => absurd e (by show ¬ (1 : Int32) = 2; decide)⟩
      · rw [List.mem_singleton.mp h]; exact ⟨congrArg some (fz_own_new _), fun _ => ⟨W + 1, Nat.le_refl _, rfl⟩⟩
    · simp only [if_neg m] at hr'; cases hr'
  · rw [List.length_map]; exact h7
  · have hn := hP3 i hi (fun m => hm (Pw i m))
    have hm' : i ∉ way.map fz_sw := hm
    show (_, _, _) = _
    rw [if_pos hi, if_neg hm', List.append_nil]
    exact hn
  · show nI way.length = nI (way.map fz_sw).length
    rw [List.length_map]
  · have hi' : i < ns := by
      obtain ⟨x, hx, rfl⟩ := List.mem_map.mp hi
      exact hsw x hx
    obtain ⟨a, b, c⟩ := le i hi'
    have hL := J.2.2.1 i hi'
    have hOw : ∀ r ∈ (fz_T own s i (nI f, nI t)).1, fz_wb W r := fun r hr' => hL.1 r (List.mem_filter.mp hr').1
    have hQw : ∀ r ∈ (fz_T own s i (nI f, nI t)).2.1, fz_wb W r := fun r hr' => hL.2.1 r (List.mem_filter.mp hr').1
    refine ⟨hi', ?_⟩
    show fz_pd (nI (W + 1)) (nI f, nI t) (_, _, _)
    rw [if_pos hi', if_pos hi]
    refine ⟨⟨?_, ?_, c⟩, Or.inl ⟨_, rfl, fz_mem_le (own := own) hOw hW, fz_mem_le (own := own) hQw hW⟩⟩
    · show (_ ++ [_, _]).length ≤ 5
      rw [List.length_append]
      show _ + 2 ≤ 5
      omega
    · show (fz_T own s i (nI f, nI t)).2.1.length + (fz_T own s i (nI f, nI t)).2.2 + ((fz_T own s i (nI f, nI t)).1 ++ [_, _]).countP fz_hv ≤ 3
      rw [List.countP_append]
      have : [[1, -1, nI f, nI t, 0], [2, nI (W + 1), -1, -1, 0]].countP fz_hv = 1 := by rfl
      omega
end INJ
