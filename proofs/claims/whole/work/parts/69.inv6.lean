/-! whose an order, a report is -/
abbrev fz_3 : Type := List (List Int32) × List (List Int32) × Nat
def fz_po (own : Int32 → Int32 × Int32) (r : List Int32) : Option (Int32 × Int32) := if r.getD 0 0 = 2 then some (own (r.getD 1 0)) else if r.getD 0 0 = 0 ∨ r.getD 0 0 = 1 ∨ r.getD 0 0 = 4 then some (r.getD 2 0, r.getD 3 0) else none
def fz_pq (own : Int32 → Int32 × Int32) (r : List Int32) : Option (Int32 × Int32) := if r.getD 0 0 = 2 then some (own (r.getD 1 0)) else if r.getD 0 0 = 3 ∨ r.getD 0 0 = 4 then some (r.getD 2 0, r.getD 3 0) else none
def fz_lo (r : List Int32) : Bool := decide (r.getD 0 0 ≠ 2 ∧ ¬ (r.getD 0 0 = 0 ∨ r.getD 0 0 = 1 ∨ r.getD 0 0 = 4))
def fz_lq (r : List Int32) : Bool := decide (r.getD 0 0 ≠ 2 ∧ ¬ (r.getD 0 0 = 3 ∨ r.getD 0 0 = 4))
def fz_hv (r : List Int32) : Bool := decide (r.getD 0 0 = 0 ∨ r.getD 0 0 = 2)
def fz_fo (own : Int32 → Int32 × Int32) (z : Int32 × Int32) (l : List (List Int32)) : List (List Int32) := l.filter (fun r => decide (fz_po own r = some z))
def fz_fq (own : Int32 → Int32 × Int32) (z : Int32 × Int32) (l : List (List Int32)) : List (List Int32) := l.filter (fun r => decide (fz_pq own r = some z))
def fz_nr (z : Int32 × Int32) (l : List (List Int32)) : Nat := l.countP (fun r => decide ((r.getD 0 0, r.getD 1 0) = z))
def fz_T (own : Int32 → Int32 × Int32) (s : fc_S) (i : Nat) (z : Int32 × Int32) : fz_3 := (fz_fo own z (s (30 + i)), fz_fq own z (s (40 + i)), fz_nr z (s (20 + i)))
def fz_le (a b : Nat) (T : fz_3) : Prop := T.1.length ≤ a ∧ T.2.1.length + T.2.2 + T.1.countP fz_hv ≤ b ∧ T.2.2 ≤ 1
def fz_nil (T : fz_3) : Prop := T = ([], [], 0)
/-- a clearing of the wave w is under way -/
def fz_pd (w : Int32) (z : Int32 × Int32) (T : fz_3) : Prop := fz_le 5 3 T ∧ ((∃ pre, T.1 = pre ++ [[1, -1, z.1, z.2, 0], [2, w, -1, -1, 0]] ∧ [2, w, -1, -1, 0] ∉ pre ∧ [2, w, -1, -1, 0] ∉ T.2.1) ∨ (T.1 = [[2, w, -1, -1, 0]] ∧ T.2.2 = 0 ∧ [2, w, -1, -1, 0] ∉ T.2.1) ∨ (T.1 = [] ∧ T.2.2 = 0 ∧ ∃ pre, T.2.1 = pre ++ [[2, w, -1, -1, 0]] ∧ [2, w, -1, -1, 0] ∉ pre))
def fz_sw (e : Int32) : Nat := e.toNatClampNeg / 4
def fz_pr (row : List Int32) : Int32 × Int32 := (row.getD 0 0, row.getD 1 0)
/-- a course: at which switches something of it may be -/
def fz_C (ns : Nat) (F : Nat → fz_3) (row : List Int32) : Prop := ((row.drop 8).map fz_sw).Nodup ∧ ∃ P : List Nat, P.Nodup ∧ P.length ≤ 5 ∧ (∀ i, i < ns → i ∉ P → fz_nil (F i)) ∧
  ((row.getD 2 0 = 2 ∧ P = ((row.drop 8).drop (row.getD 5 0).toNatClampNeg).map fz_sw ∧ ∀ i ∈ P, fz_le 2 2 (F i)) ∨ (row.getD 2 0 = 3 ∧ P = (row.drop 8).map fz_sw ∧ ∀ i ∈ P, fz_le 3 2 (F i)) ∨ (row.getD 2 0 = 1 ∧ row.getD 4 0 = nI P.length ∧ ∀ i ∈ P, i < ns ∧ fz_pd (row.getD 3 0) (fz_pr row) (F i)))
def fz_wb (W : Nat) (r : List Int32) : Prop := r.getD 0 0 = 2 → ∃ w, w ≤ W ∧ r.getD 1 0 = nI w
def fz_L (W ns : Nat) (s : fc_S) : Prop := ∀ i, i < ns → (∀ r ∈ s (30 + i), fz_wb W r) ∧ (∀ r ∈ s (40 + i), fz_wb W r) ∧ (s (30 + i)).countP fz_lo ≤ 16 ∧ (s (40 + i)).countP fz_lq ≤ 21
def fz_one (s : fc_S) : Prop := ∀ (j k : Nat) (r r' : List Int32), (s 7)[j]? = some r → (s 7)[k]? = some r' → fz_pr r = fz_pr r' → j = k
def fz_I (own : Int32 → Int32 × Int32) (W ns : Nat) (s : fc_S) : Prop := s 2 = [[nI W]] ∧ fz_L W ns s ∧ (∀ row ∈ s 7, (∃ w, w ≤ W ∧ row.getD 3 0 = nI w ∧ own (nI w) = fz_pr row) ∧ fz_C ns (fun i => fz_T own s i (fz_pr row)) row) ∧ fz_one s ∧ ∀ z, (∀ r ∈ s 7, fz_pr r ≠ z) → ∀ i, i < ns → fz_nil (fz_T own s i z)
/-- how many there are at most -/
theorem fz_sum {own : Int32 → Int32 × Int32} {cs : List (List Int32)} {p : List Int32 → Option (Int32 × Int32)} {q : List Int32 → Bool} {b : Nat} : ∀ {l : List (List Int32)}, (∀ r ∈ l, q r = true ∨ ∃ c ∈ cs, p r = some (fz_pr c)) → l.length ≤ l.countP q + (cs.map (fun c => (l.filter (fun r => decide (p r = some (fz_pr c)))).length)).sum
  | [], _ => Nat.zero_le _
  | r :: l, h => by
    have ih := fz_sum (own := own) (b := b) (l := l) (fun x hx => h x (List.mem_cons_of_mem _ hx))
    have mono : ∀ (D : List (List Int32)), (D.map (fun c => (l.filter (fun r => decide (p r = some (fz_pr c)))).length)).sum ≤ (D.map (fun c => ((r :: l).filter (fun r => decide (p r = some (fz_pr c)))).length)).sum ∧ ((∃ c ∈ D, p r = some (fz_pr c)) → (D.map (fun c => (l.filter (fun r => decide (p r = some (fz_pr c)))).length)).sum + 1 ≤ (D.map (fun c => ((r :: l).filter (fun r => decide (p r = some (fz_pr c)))).length)).sum) := by
      intro D
      induction D with
      | nil => exact ⟨Nat.le_refl _, fun ⟨c, hc, _⟩ => by cases hc⟩
      | cons d D ihD =>
        simp only [List.map_cons, List.sum_cons]
        have one : (l.filter (fun r => decide (p r = some (fz_pr d)))).length ≤ ((r :: l).filter (fun r => decide (p r = some (fz_pr d)))).length ∧ (p r = some (fz_pr d) → (l.filter (fun r => decide (p r = some (fz_pr d)))).length + 1 ≤ ((r :: l).filter (fun r => decide (p r = some (fz_pr d)))).length) := by
          rw [List.filter_cons]
          by_cases e : p r = some (fz_pr d)
          · rw [if_pos (by simpa using e)]; simp
          · rw [if_neg (by simpa using e)]; exact ⟨Nat.le_refl _, fun z => absurd z e⟩
        refine ⟨by have := ihD.1; have := one.1; omega, fun ⟨c, hc, he⟩ => ?_⟩
        rcases List.mem_cons.mp hc with rfl | hc
        · have := one.2 he; have := ihD.1; omega
        · have := ihD.2 ⟨c, hc, he⟩; have := one.1; omega
    rw [List.length_cons, List.countP_cons]
    rcases h r (List.mem_cons_self ..) with h1 | h1
    · rw [if_pos h1]; have := (mono cs).1; omega
    · have := (mono cs).2 h1
      split <;> omega
theorem fz_sumle {cs : List (List Int32)} {f : List Int32 → Nat} {b : Nat} (h : ∀ c ∈ cs, f c ≤ b) : (cs.map f).sum ≤ cs.length * b := by
  induction cs with
  | nil => simp
  | cons c cs ih =>
    simp only [List.map_cons, List.sum_cons, List.length_cons]
    have h1 := h c (List.mem_cons_self ..)
    have h2 := ih (fun x hx => h x (List.mem_cons_of_mem _ hx))
    rw [Nat.succ_mul]; omega
theorem fz_C_le {ns : Nat} {F : Nat → fz_3} {row : List Int32} (h : fz_C ns F row) {i : Nat} (hi : i < ns) : fz_le 5 3 (F i) := by
  obtain ⟨-, P, -, -, h0, h1⟩ := h
  by_cases hP : i ∈ P
  · rcases h1 with ⟨-, -, h1⟩ | ⟨-, -, h1⟩ | ⟨-, -, h1⟩
    · obtain ⟨a, b, c⟩ := h1 i hP; exact ⟨by omega, by omega, c⟩
    · obtain ⟨a, b, c⟩ := h1 i hP; exact ⟨by omega, by omega, c⟩
    · exact (h1 i hP).2.1
  · have := h0 i hi hP
    unfold fz_nil at this
    rw [this]
    exact ⟨Nat.zero_le _, Nat.zero_le _, Nat.zero_le _⟩
theorem fz_po_cases (own : Int32 → Int32 × Int32) (r : List Int32) : fz_lo r = true ∨ ∃ z, fz_po own r = some z := by
  unfold fz_lo fz_po
  by_cases h1 : r.getD 0 0 = 2
  · exact Or.inr ⟨_, if_pos h1⟩
  · by_cases h2 : r.getD 0 0 = 0 ∨ r.getD 0 0 = 1 ∨ r.getD 0 0 = 4
    · exact Or.inr ⟨_, (if_neg h1).trans (if_pos h2)⟩
    · exact Or.inl (decide_eq_true ⟨h1, h2⟩)
theorem fz_pq_cases (own : Int32 → Int32 × Int32) (r : List Int32) : fz_lq r = true ∨ ∃ z, fz_pq own r = some z := by
  unfold fz_lq fz_pq
  by_cases h1 : r.getD 0 0 = 2
  · exact Or.inr ⟨_, if_pos h1⟩
  · by_cases h2 : r.getD 0 0 = 3 ∨ r.getD 0 0 = 4
    · exact Or.inr ⟨_, (if_neg h1).trans (if_pos h2)⟩
    · exact Or.inl (decide_eq_true ⟨h1, h2⟩)
theorem fz_short {own : Int32 → Int32 × Int32} {W ns : Nat} {s : fc_S} (I : fz_I own W ns s) (h6 : (s 7).length ≤ 6) {i : Nat} (hi : i < ns) : (s (30 + i)).length ≤ 46 ∧ (s (40 + i)).length ≤ 39 := by
  obtain ⟨-, hL, hK, -, hN⟩ := I
  obtain ⟨-, -, hl1, hl2⟩ := hL i hi
  have hc : ∀ c ∈ s 7, fz_le 5 3 (fz_T own s i (fz_pr c)) := fun c hc => fz_C_le (F := fun i => fz_T own s i (fz_pr c)) (hK c hc).2 hi
  constructor
  · have h := fz_sum (own := own) (b := 5) (cs := s 7) (p := fz_po own) (q := fz_lo) (l := s (30 + i)) (fun r hr => by
      rcases fz_po_cases own r with h | ⟨z, hz⟩
      · exact Or.inl h
      · refine Or.inr (Classical.byContradiction fun hno => ?_)
        have hn := hN z (fun c hc e => hno ⟨c, hc, by rw [hz, e]⟩) i hi
        have h0 : fz_fo own z (s (30 + i)) = [] := congrArg (fun T : fz_3 => T.1) hn
        have : r ∈ fz_fo own z (s (30 + i)) := List.mem_filter.mpr ⟨hr, decide_eq_true hz⟩
        rw [h0] at this
        cases this)
    have h2 := fz_sumle (cs := s 7) (f := fun c => ((s (30 + i)).filter (fun r => decide (fz_po own r = some (fz_pr c)))).length) (b := 5) (fun c hc' => (hc c hc').1)
    have h3 : (s 7).length * 5 ≤ 30 := Nat.mul_le_mul_right 5 h6
    omega
  · have h := fz_sum (own := own) (b := 3) (cs := s 7) (p := fz_pq own) (q := fz_lq) (l := s (40 + i)) (fun r hr => by
      rcases fz_pq_cases own r with h | ⟨z, hz⟩
      · exact Or.inl h
      · refine Or.inr (Classical.byContradiction fun hno => ?_)
        have hn := hN z (fun c hc e => hno ⟨c, hc, by rw [hz, e]⟩) i hi
        have h0 : fz_fq own z (s (40 + i)) = [] := congrArg (fun T : fz_3 => T.2.1) hn
        have : r ∈ fz_fq own z (s (40 + i)) := List.mem_filter.mpr ⟨hr, decide_eq_true hz⟩
        rw [h0] at this
        cases this)
    have h2 := fz_sumle (cs := s 7) (f := fun c => ((s (40 + i)).filter (fun r => decide (fz_pq own r = some (fz_pr c)))).length) (b := 3) (fun c hc' => by have := (hc c hc').2.1; show (fz_fq own (fz_pr c) (s (40 + i))).length ≤ 3; have h9 : (fz_fq own (fz_pr c) (s (40 + i))).length + _ + _ ≤ 3 := this; omega)
    have h3 : (s 7).length * 3 ≤ 18 := Nat.mul_le_mul_right 3 h6
    omega
/-- a step that keeps all that is said of a pair at a switch -/
def fz_ste (z : Int32 × Int32) (T T' : fz_3) : Prop := (∀ a b, fz_le a b T → fz_le a b T') ∧ (fz_nil T → fz_nil T') ∧ ∀ w, fz_pd w z T → fz_pd w z T'
theorem fz_ste.rfl {z : Int32 × Int32} {T : fz_3} : fz_ste z T T := ⟨fun _ _ h => h, fun h => h, fun _ h => h⟩
theorem fz_ste.of {z : Int32 × Int32} {T T' : fz_3} (h : T' = T) : fz_ste z T T' := h ▸ fz_ste.rfl
theorem fz_ste.trans {z : Int32 × Int32} {T T' T'' : fz_3} (h : fz_ste z T T') (h' : fz_ste z T' T'') : fz_ste z T T'' := ⟨fun a b x => h'.1 a b (h.1 a b x), fun x => h'.2.1 (h.2.1 x), fun w x => h'.2.2 w (h.2.2 w x)⟩
theorem fz_C.step {ns : Nat} {F F' : Nat → fz_3} {row : List Int32} (h : fz_C ns F row) (hs : ∀ i, i < ns → fz_ste (fz_pr row) (F i) (F' i)) (hw : ∀ e ∈ row.drop 8, fz_sw e < ns) : fz_C ns F' row := by
  obtain ⟨h0, P, h1, h2, h3, h4⟩ := h
  refine ⟨h0, P, h1, h2, fun i hi hP => (hs i hi).2.1 (h3 i hi hP), ?_⟩
  have lt : ∀ l : List Int32, (∀ e ∈ l, e ∈ row.drop 8) → ∀ i ∈ l.map fz_sw, i < ns := fun l hl i hi => by
    obtain ⟨e, he, rfl⟩ := List.mem_map.mp hi
    exact hw e (hl e he)
  rcases h4 with ⟨a, b, c⟩ | ⟨a, b, c⟩ | ⟨a, b, c⟩
  · refine Or.inl ⟨a, b, fun i hi => (hs i (lt _ (fun e he => List.mem_of_mem_drop he) i (b ▸ hi))).1 _ _ (c i hi)⟩
  · refine Or.inr (Or.inl ⟨a, b, fun i hi => (hs i (lt _ (fun e he => he) i (b ▸ hi))).1 _ _ (c i hi)⟩)
  · exact Or.inr (Or.inr ⟨a, b, fun i hi => ⟨(c i hi).1, (hs i (c i hi).1).2.2 _ (c i hi).2⟩⟩)
/-- the ways of the courses -/
theorem fc_iK.sw {ns : Nat} {s : fc_S} (hn : ns ≤ 5) (I : fc_iK ns s) : ∀ row ∈ s 7, ∀ e ∈ row.drop 8, fz_sw e < ns := by
  intro row hr e he
  obtain ⟨f, t, l, st, wv, aw, kp, kn, way, h1, h2, h3, h4, h5, h6, h7, h8, h9⟩ := I.2 row hr
  subst h3
  obtain ⟨m, hm, rfl⟩ := h9 e he
  unfold fz_sw
  rw [nI_clamp (by omega)]
  omega
theorem fz_I.step {own : Int32 → Int32 × Int32} {W ns : Nat} {s s' : fc_S} (hn : ns ≤ 5) (IK : fc_iK ns s) (I : fz_I own W ns s) (h2 : s' 2 = s 2) (h7 : s' 7 = s 7) (hL : fz_L W ns s') (hs : ∀ i, i < ns → ∀ z, fz_ste z (fz_T own s i z) (fz_T own s' i z)) : fz_I own W ns s' := by
  obtain ⟨a, -, c, d, e⟩ := I
  refine ⟨by rw [h2]; exact a, hL, ?_, fun j k r r' => by rw [h7]; exact d j k r r', ?_⟩
  · rw [h7]
    exact fun row hr => ⟨(c row hr).1, (c row hr).2.step (fun i hi => hs i hi _) (IK.sw hn row hr)⟩
  · rw [h7]
    exact fun z hz i hi => (hs i hi z).2.1 (e z hz i hi)
