/-! the law: the store at its start -/
section LWD
variable {s : State} {b L : Nat} {xs : Nat → Int32}
/-- an array of no places that a term names -/
theorem lw_zero {args : Array Value} {t : Term} {ty : FieldType} (h2 : (Cond.arrayOf t ty).before args s = true) (h3 : (Cond.eq (.length t) (.int 0)).before args s = true) : ∃ (a : Nat) (cell : Cell), t.eval args s none [] s = some (.ref a) ∧ s.heap[a]? = some cell ∧ s.isArrayOf cell ty ∧ cell.vm ≠ .unknown ∧ cell.slots = #[] := by
  cases hv : (Term.length t).eval args s none [] s with
  | none => simp [Cond.before, Cond.holds, Cond.value, hv] at h3
  | some v =>
    obtain ⟨a, cell, ha, hc, rfl⟩ := Term.length_spec hv
    obtain ⟨hcell, -⟩ := State.arrayAt?_spec hc
    obtain ⟨k1, k2⟩ := Cond.arrayOf_spec h2 ha hcell
    have hv2 := hv
    simp only [Term.eval, Option.bind_eq_bind, ha, hc, Option.bind_some] at hv2
    have hsz : cell.slots.size < 2 ^ 31 := by
      split at hv2
      · omega
      · cases hv2
    have hq := Cond.eq_ints hv (show (Term.int 0).eval args s none [] s = some (.int 0) from rfl)
    have hz : cell.slots.size.toInt32 = 0 := by
      simpa [Cond.before, Cond.holds, hq] using h3
    have hz2 : nI cell.slots.size = 0 := hz
    have h0 : cell.slots.size = 0 := by
      have e1 := congrArg Int32.toInt hz2
      rw [nI_toInt hsz] at e1
      have e2 : (0 : Int32).toInt = 0 := by decide
      rw [e2] at e1
      omega
    exact ⟨a, cell, ha, hcell, k1, k2, Array.eq_empty_of_size_eq_zero h0⟩
theorem lw_tab {w : Cond} (h : tables_1.contains w = true) : w ∈ lw_tbl := List.mem_append_right _ (List.contains_iff_mem.mp h)
theorem lw_inst {q : vw_C} (h : q ∈ am_cl) : Cond.instantiable q.1 q.2.2 ∈ lw_tbl := by
  simp only [am_cl, List.mem_cons, List.not_mem_nil, or_false] at h
  rcases h with rfl | rfl | rfl | rfl | rfl | rfl | rfl | rfl | rfl | rfl | rfl | rfl | rfl <;> exact lw_tab (by decide +kernel)
theorem lw_nF : am_nF.all (fun x => tables_1.contains (Cond.fieldLinkNest x.1 x.2.1 x.2.2.1 x.2.2.2.1 x.2.2.2.2.1 x.2.2.2.2.2)) = true := by decide +kernel
theorem lw_nM : am_nM.all (fun x => tables_1.contains (Cond.methodLinkNest x.1 x.2.1 x.2.2.1 x.2.2.2)) = true := by decide +kernel
theorem lw_nC : am_nC.all (fun x => tables_1.contains (Cond.castable x.1 x.2)) = true := by decide +kernel
theorem lw_nO : am_nO.all (fun x => tables_1.contains (Cond.arrayOver (.object x))) = true := by decide +kernel
/-- a kind of arrays of numbers, of objects -/
theorem lw_ai {args : Array Value} {ty : FieldType} (hw : (Cond.arrayClass ty).before args s = true) (hk : ∀ C, ty ≠ .object C) : ∃ cA : ClassId, ArrOfT s cA ty ∧ va_RA s cA ty := by
  obtain ⟨c, k, comp, h1, h2, h3⟩ := Cond.arrayClass_spec hw
  refine ⟨c, fun n z => ⟨fun k h => (by cases h), k, h2, comp, h3⟩, ?_⟩
  cases ty with
  | object C => exact absurd rfl (hk C)
  | _ => exact h1
theorem lw_ao {args : Array Value} {C : String} (hw : (Cond.arrayOver (.object C)).before args s = true) : ∃ cA : ClassId, ArrOfT s cA (.object C) ∧ va_RA s cA (.object C) := by
  obtain ⟨comp, c, k, f1, f2, f3, f4, f5⟩ := Cond.arrayOver_spec hw
  exact ⟨c, fun n z => ⟨fun k h => (by cases h), k, f3, comp, f4⟩, k, comp, f3, f4, f1, f5⟩
theorem lw_ar {args : Array Value} (hts : ∀ w ∈ lw_tbl, w.before args s = true) (t : Nat) : ∃ cA : ClassId, ∀ ty, am_ak[t]? = some ty → ArrOfT s cA ty ∧ va_RA s cA ty := by
  match t with
  | 0 =>
    obtain ⟨cA, h⟩ := lw_ai (hts (Cond.arrayClass .int) (lw_tab (by decide +kernel))) (fun C z => by cases z)
    exact ⟨cA, fun ty z => by have q := Option.some.inj (am_kI_ok.symm.trans z); subst q; exact h⟩
  | 1 =>
    obtain ⟨cA, h⟩ := lw_ai (hts (Cond.arrayClass .boolean) (lw_tab (by decide +kernel))) (fun C z => by cases z)
    exact ⟨cA, fun ty z => by have q := Option.some.inj (am_kZ_ok.symm.trans z); subst q; exact h⟩
  | 2 =>
    obtain ⟨cA, h⟩ := lw_ao (hts (Cond.arrayOver (.object "java/lang/Object")) (lw_tab (by decide +kernel)))
    exact ⟨cA, fun ty z => by have q := Option.some.inj (am_kO_ok.symm.trans z); subst q; exact h⟩
  | 3 =>
    obtain ⟨cA, h⟩ := lw_ao (hts (Cond.arrayOver (.object "FlowFabric$Node")) (lw_tab (by decide +kernel)))
    exact ⟨cA, fun ty z => by have q := Option.some.inj (am_kN_ok.symm.trans z); subst q; exact h⟩
  | 4 =>
    obtain ⟨cA, h⟩ := lw_ao (hts (Cond.arrayOver (.object "FlowFabric$Port")) (lw_tab (by decide +kernel)))
    exact ⟨cA, fun ty z => by have q := Option.some.inj (am_kP_ok.symm.trans z); subst q; exact h⟩
  | 5 =>
    obtain ⟨cA, h⟩ := lw_ao (hts (Cond.arrayOver (.object "FlowFabric$Host")) (lw_tab (by decide +kernel)))
    exact ⟨cA, fun ty z => by have q := Option.some.inj (am_kH_ok.symm.trans z); subst q; exact h⟩
  | n + 6 => exact ⟨0, fun ty z => by
    have h1 := (List.getElem?_eq_some_iff.mp z).1
    have h6 : am_ak.length = 6 := rfl
    omega⟩
theorem lw_lay {args : Array Value} (hts : ∀ w ∈ lw_tbl, w.before args s = true) (c : Nat) : ∃ p : ClassId × (Nat → Nat), ∀ q, am_cl[c]? = some q → u_Kn s q.1 q.2.1 q.2.2 p.1 p.2 := by
  cases h : am_cl[c]? with
  | none => exact ⟨(0, fun _ => 0), fun q z => by cases z⟩
  | some q =>
    obtain ⟨cC, iS, hk⟩ := u_known (ws := am_wz) (fun w hw => hts w (List.mem_filter.mp hw).1) (am_cl_ok c q h).1 (hts _ (lw_inst (List.mem_of_getElem? h)))
    exact ⟨(cC, iS), fun q' z => by cases z; exact hk⟩
/-- the store at the start: the shared empty array, NO_WAY, the script -/
def lw_S (e nw b L : Nat) (xs : Nat → Int32) (n : Nat) : am_S := (fun q => if q = e then some (0, .inl (am_kO, [])) else if q = nw then some (0, .inl (am_kI, [])) else if q = b then some (0, .inl (am_kI, fr_ls L xs)) else none, n, 0)
theorem lw_S_cases {e nw n a t : Nat} {x : am_K} (h : (lw_S e nw b L xs n).1 a = some (t, x)) : t = 0 ∧ ((a = e ∧ x = .inl (am_kO, [])) ∨ (a = nw ∧ x = .inl (am_kI, [])) ∨ (a = b ∧ x = .inl (am_kI, fr_ls L xs))) := by
  have h' : ((if a = e then some (0, .inl (am_kO, [])) else if a = nw then some (0, .inl (am_kI, [])) else if a = b then some (0, .inl (am_kI, fr_ls L xs)) else none) : Option (Nat × am_K)) = some (t, x) := h
  by_cases h1 : a = e
  · rw [if_pos h1] at h'
    cases h'
    exact ⟨rfl, Or.inl ⟨h1, rfl⟩⟩
  · rw [if_neg h1] at h'
    by_cases h2 : a = nw
    · rw [if_pos h2] at h'
      cases h'
      exact ⟨rfl, Or.inr (Or.inl ⟨h2, rfl⟩)⟩
    · rw [if_neg h2] at h'
      by_cases h3 : a = b
      · rw [if_pos h3] at h'
        cases h'
        exact ⟨rfl, Or.inr (Or.inr ⟨h3, rfl⟩)⟩
      · rw [if_neg h3] at h'
        cases h'
theorem lw_scr {scr : Cell} (h1 : scr.slots.size = L) (h2 : ∀ j : Nat, j < L → scr.slots[j]? = some (.int (xs j))) : scr.slots = (fr_ls L xs).toArray := by
  apply Array.ext
  · rw [h1, List.size_toArray, fr_ls_len]
  · intro i i1 i2
    have e1 := h2 i (by omega)
    rw [Array.getElem?_eq_getElem i1] at e1
    have e2 := fr_ls_get xs (show i < L by omega)
    rw [← List.getElem?_toArray, Array.getElem?_eq_getElem i2] at e2
    exact Option.some.inj (e1.trans e2.symm)
theorem lw_start (l : Launch) (hts : ∀ w ∈ lw_tbl, w.before #[Value.ref b] s = true) (hX : va_X b L xs s s.heap) (hg : (Jvm.Cond.and given_1 narrow_1).before #[Value.ref b] s = true) : ∃ (g : am_G) (e nw : Nat), (g.1 = l ∧ g.old = s.heap) ∧ am_T g s ∧ (am_gE g e ∧ am_gW g nw) ∧ am_R g (lw_S e nw b L xs s.heap.size) s.heap ∧ am_ok (lw_S e nw b L xs s.heap.size) ∧ (lw_S e nw b L xs s.heap.size).1 e = some (0, .inl (am_kO, [])) ∧ (lw_S e nw b L xs s.heap.size).1 nw = some (0, .inl (am_kI, [])) ∧ (lw_S e nw b L xs s.heap.size).1 b = some (0, .inl (am_kI, fr_ls L xs)) := by
  have hs := flat_of_before _ hg
  obtain ⟨e, ce, e1, e2, e3, e4, e5⟩ := lw_zero (s := s) (args := #[Value.ref b]) (t := .static "java/util/ArrayList" "DEFAULTCAPACITY_EMPTY_ELEMENTDATA" "[Ljava/lang/Object;") (ty := .object "java/lang/Object") (hs _ (by decide +kernel)) (hs _ (by decide +kernel))
  obtain ⟨nw, cn, n1, n2, n3, n4, n5⟩ := lw_zero (s := s) (args := #[Value.ref b]) (t := .static "FlowFabric" "NO_WAY" "[I") (ty := .int) (hs _ (by decide +kernel)) (hs _ (by decide +kernel))
  obtain ⟨mi, hmi⟩ := va_Mi.of (args := #[Value.ref b]) (s := s) (C := "[Ljava/lang/Object;") (hs _ (by decide +kernel))
  obtain ⟨scr, x1, x2, x3, x4, x5⟩ := hX
  have x6 := lw_scr x4 x5
  obtain ⟨lay, hlay⟩ := Classical.axiomOfChoice (lw_lay hts)
  obtain ⟨arr, harr⟩ := Classical.axiomOfChoice (lw_ar hts)
  have le : e < s.heap.size := (Array.getElem?_eq_some_iff.mp e2).1
  have ln : nw < s.heap.size := (Array.getElem?_eq_some_iff.mp n2).1
  have lb : b < s.heap.size := (Array.getElem?_eq_some_iff.mp x1).1
  have kind : ∀ {c : Cell}, s.isArrayOf c .int → s.isArrayOf c (.object "java/lang/Object") → False := fun {c} h1 h2 => by
    obtain ⟨-, k, k1, comp, k2⟩ := h1
    obtain ⟨-, k', k1', comp', k2'⟩ := h2
    cases k1.symm.trans k1'
    rw [k2] at k2'
    cases k2'
  have ne1 : nw ≠ e := fun z => by
    subst z
    cases n2.symm.trans e2
    exact kind n3 e3
  have ne2 : b ≠ e := fun z => by
    subst z
    cases x1.symm.trans e2
    exact kind x2 e3
  refine ⟨(l, (fun c => (lay c).1, fun c => (lay c).2), arr, s.heap, [("java/util/ArrayList", "DEFAULTCAPACITY_EMPTY_ELEMENTDATA", "[Ljava/lang/Object;", .ref e), ("FlowFabric", "NO_WAY", "[I", .ref nw)], mi, [(e, am_kO), (nw, am_kI), (b, am_kI)]), e, nw, ⟨rfl, rfl⟩, ⟨fun w hw => ?_, fun x hx => ?_, fun x hx => ?_, fun x hx => ?_, fun x hx => ?_, fun c q hq => hlay c q hq, fun t ty ht => harr t ty ht, fun x hx => ?_, hmi, ?_, ?_⟩, ⟨List.mem_cons_self, List.mem_cons_of_mem _ List.mem_cons_self⟩, ⟨rfl, Nat.le_refl _, fun _ _ => rfl, fun a t x h => ?_, fun a t x h ht => absurd (lw_S_cases h).1 ht⟩, fun a c h => ?_, ?_, ?_, ?_⟩
  · have hg := am_wz_good w hw
    simp only [Bool.and_eq_true] at hg
    exact va_Nw.of hg.1 (hts w (List.mem_filter.mp hw).1)
  · exact va_Nw.of rfl (hts _ (lw_tab (List.all_eq_true.mp lw_nF x hx)))
  · exact va_Nw.of rfl (hts _ (lw_tab (List.all_eq_true.mp lw_nM x hx)))
  · exact va_Nw.of rfl (hts _ (lw_tab (List.all_eq_true.mp lw_nC x hx)))
  · exact va_AO.of (hts _ (lw_tab (List.all_eq_true.mp lw_nO x hx)))
  · rcases List.mem_cons.mp hx with rfl | hx
    · exact va_Zof (C := "java/util/ArrayList") (n := "DEFAULTCAPACITY_EMPTY_ELEMENTDATA") (d := "[Ljava/lang/Object;") (v := .ref e) (hts _ (lw_tab (by decide +kernel))) (hts _ (lw_tab (by decide +kernel))) e1 (fun a ha => Nat.not_le.mpr ha)
    · rcases List.mem_cons.mp hx with rfl | hx
      · exact va_Zof (C := "FlowFabric") (n := "NO_WAY") (d := "[I") (v := .ref nw) (hts _ (lw_tab (by decide +kernel))) (hts _ (lw_tab (by decide +kernel))) n1 (fun a ha => Nat.not_le.mpr ha)
      · cases hx
  · exact va_Dc.of (hts _ (lw_tab (by decide +kernel)))
  · intro a t cell ty h1 h2 h3
    have h2' : s.heap[a]? = some cell := h2
    rcases List.mem_cons.mp h1 with z | h1
    · cases z
      have q := Option.some.inj (am_kO_ok.symm.trans h3)
      subst q
      cases e2.symm.trans h2'
      exact ⟨e3, e4⟩
    · rcases List.mem_cons.mp h1 with z | h1
      · cases z
        have q := Option.some.inj (am_kI_ok.symm.trans h3)
        subst q
        cases n2.symm.trans h2'
        exact ⟨n3, n4⟩
      · rcases List.mem_cons.mp h1 with z | h1
        · cases z
          have q := Option.some.inj (am_kI_ok.symm.trans h3)
          subst q
          cases x1.symm.trans h2'
          exact ⟨x2, x3⟩
        · cases h1
  · obtain ⟨-, ⟨rfl, rfl⟩ | ⟨rfl, rfl⟩ | ⟨rfl, rfl⟩⟩ := lw_S_cases h
    · exact Or.inr ⟨le, List.mem_cons_self, ce, e2, e2, e5⟩
    · exact Or.inr ⟨ln, List.mem_cons_of_mem _ List.mem_cons_self, cn, n2, n2, n5⟩
    · exact Or.inr ⟨lb, List.mem_cons_of_mem _ (List.mem_cons_of_mem _ List.mem_cons_self), scr, x1, x1, x6⟩
  · obtain ⟨t, x⟩ := c
    show a < s.heap.size
    obtain ⟨-, ⟨h, -⟩ | ⟨h, -⟩ | ⟨h, -⟩⟩ := lw_S_cases h
    · omega
    · omega
    · omega
  · show (if e = e then _ else _) = _
    rw [if_pos rfl]
  · show (if nw = e then _ else if nw = nw then _ else _) = _
    rw [if_neg ne1, if_pos rfl]
  · show (if b = e then _ else if b = nw then _ else if b = b then _ else _) = _
    rw [if_neg ne2]
    by_cases z : b = nw
    · rw [if_pos z]
      subst z
      cases x1.symm.trans n2
      have hL0 : L = 0 := x4.symm.trans (by rw [n5]; first | done | rfl)
      subst hL0
      rfl
    · rw [if_neg z, if_pos rfl]
end LWD
