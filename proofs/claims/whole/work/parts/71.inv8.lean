/-! what always holds: a switch obeys -/
section INH
variable {ns room idle : Nat}
variable {own : Int32 → Int32 × Int32} {W : Nat}
theorem fz_code {r : List Int32} {w : Int32} (h : r.getD 0 0 ≠ 2) : r ≠ [2, w, -1, -1, 0] := fun e => h (by rw [e]; rfl)
theorem fz_ste.head {z : Int32 × Int32} {r : List Int32} {O Q X : List (List Int32)} {R R' : Nat} (h1 : r.getD 0 0 ≠ 1) (h2 : r.getD 0 0 ≠ 2) (hX : ∀ x ∈ X, x.getD 0 0 ≠ 2) (hR : R ≤ 1 → R' ≤ 1) (hs : R ≤ 1 → X.length + R' ≤ R + if fz_hv r = true then 1 else 0) : fz_ste z (r :: O, Q, R) (O, Q ++ X, R') := by
  have le : ∀ a b, fz_le a b (r :: O, Q, R) → fz_le a b (O, Q ++ X, R') := fun a b ⟨x, y, v⟩ => by
    refine ⟨by simp only [List.length_cons] at x; exact Nat.le_of_succ_le x, ?_, hR v⟩
    have h := hs v
    show (Q ++ X).length + R' + O.countP fz_hv ≤ b
    have y' : Q.length + R + (r :: O).countP fz_hv ≤ b := y
    rw [List.countP_cons] at y'
    rw [List.length_append]
    omega
  refine ⟨le, fun h => absurd (congrArg (fun T : fz_3 => T.1) h) (by simp), fun w ⟨x, y⟩ => ⟨le _ _ x, ?_⟩⟩
  rcases y with ⟨pre, e1, e2, e3⟩ | ⟨e1, -⟩ | ⟨e1, -⟩
  · cases pre with
    | nil => exact absurd (by rw [(List.cons.inj e1).1]; rfl) h1
    | cons a pre =>
      refine Or.inl ⟨pre, (List.cons.inj e1).2, fun z => e2 (List.mem_cons_of_mem _ z), fun z => ?_⟩
      rcases List.mem_append.mp z with z | z
      · exact e3 z
      · exact hX _ z (Eq.refl _)
  · exact absurd (by rw [(List.cons.inj e1).1]; rfl) h2
  · cases e1
theorem fz_ste.cut {z : Int32 × Int32} {r : List Int32} {O Q : List (List Int32)} {R R' : Nat} (h2 : r.getD 0 0 ≠ 2) (hR : R ≤ 1 → R' = 0) : fz_ste z (r :: O, Q, R) (O, Q, R') := by
  have le : ∀ a b, fz_le a b (r :: O, Q, R) → fz_le a b (O, Q, R') := fun a b ⟨x, y, v⟩ => by
    refine ⟨by simp only [List.length_cons] at x; exact Nat.le_of_succ_le x, ?_, by show R' ≤ 1; rw [hR v]; exact Nat.zero_le _⟩
    show Q.length + R' + O.countP fz_hv ≤ b
    have y' : Q.length + R + (r :: O).countP fz_hv ≤ b := y
    rw [List.countP_cons] at y'
    rw [hR v]
    omega
  refine ⟨le, fun h => absurd (congrArg (fun T : fz_3 => T.1) h) (by simp), fun w ⟨x, y⟩ => ⟨le _ _ x, ?_⟩⟩
  rcases y with ⟨pre, e1, e2, e3⟩ | ⟨e1, -⟩ | ⟨e1, -⟩
  · cases pre with
    | nil => exact Or.inr (Or.inl ⟨(List.cons.inj e1).2, hR x.2.2, e3⟩)
    | cons a pre => exact Or.inl ⟨pre, (List.cons.inj e1).2, fun z => e2 (List.mem_cons_of_mem _ z), e3⟩
  · exact absurd (by rw [(List.cons.inj e1).1]; rfl) h2
  · cases e1
theorem fz_ste.bar {z : Int32 × Int32} {w' : Int32} {O Q : List (List Int32)} {R : Nat} : fz_ste z ([2, w', -1, -1, 0] :: O, Q, R) (O, Q ++ [[2, w', -1, -1, 0]], R) := by
  have le : ∀ a b, fz_le a b ([2, w', -1, -1, 0] :: O, Q, R) → fz_le a b (O, Q ++ [[2, w', -1, -1, 0]], R) := fun a b ⟨x, y, v⟩ => by
    refine ⟨by simp only [List.length_cons] at x; exact Nat.le_of_succ_le x, ?_, v⟩
    show (Q ++ [[2, w', -1, -1, 0]]).length + R + O.countP fz_hv ≤ b
    have y' : Q.length + R + ([2, w', -1, -1, 0] :: O).countP fz_hv ≤ b := y
    rw [List.countP_cons, if_pos (by rfl)] at y'
    rw [List.length_append, List.length_singleton]
    omega
  refine ⟨le, fun h => absurd (congrArg (fun T : fz_3 => T.1) h) (by simp), fun w ⟨x, y⟩ => ⟨le _ _ x, ?_⟩⟩
  rcases y with ⟨pre, e1, e2, e3⟩ | ⟨e1, e2, e3⟩ | ⟨e1, -⟩
  · cases pre with
    | nil => exact absurd (List.cons.inj (List.cons.inj e1).1).1 (by decide)
    | cons a pre =>
      have ha := (List.cons.inj e1).1
      refine Or.inl ⟨pre, (List.cons.inj e1).2, fun z => e2 (List.mem_cons_of_mem _ z), fun z => ?_⟩
      rcases List.mem_append.mp z with z | z
      · exact e3 z
      · exact e2 (by rw [← ha, ← List.mem_singleton.mp z]; exact List.mem_cons_self ..)
  · have ha := (List.cons.inj e1).1
    exact Or.inr (Or.inr ⟨(List.cons.inj e1).2, e2, Q, by rw [ha], e3⟩)
  · cases e1
theorem fz_ste.gone {z : Int32 × Int32} {O Q X : List (List Int32)} {R R' : Nat} (hX : ∀ x ∈ X, x.getD 0 0 ≠ 2) (hs : X.length + R' = R) : fz_ste z (O, Q, R) (O, Q ++ X, R') := by
  by_cases hR : R = 0
  · have hX0 : X = [] := List.eq_nil_of_length_eq_zero (by omega)
    have hR' : R' = R := by omega
    rw [hX0, List.append_nil, hR']
    exact fz_ste.rfl
  have le : ∀ a b, fz_le a b (O, Q, R) → fz_le a b (O, Q ++ X, R') := fun a b ⟨x, y, v⟩ => by
    have v' : R ≤ 1 := v
    refine ⟨x, ?_, by show R' ≤ 1; omega⟩
    show (Q ++ X).length + R' + O.countP fz_hv ≤ b
    have y' : Q.length + R + O.countP fz_hv ≤ b := y
    rw [List.length_append]
    omega
  refine ⟨le, fun h => absurd (congrArg (fun T : fz_3 => T.2.2) h) hR, fun w ⟨x, y⟩ => ⟨le _ _ x, ?_⟩⟩
  rcases y with ⟨pre, e1, e2, e3⟩ | ⟨e1, e2, e3⟩ | ⟨e1, e2, -⟩
  · refine Or.inl ⟨pre, e1, e2, fun z => ?_⟩
    rcases List.mem_append.mp z with z | z
    · exact e3 z
    · exact hX _ z (Eq.refl _)
  · exact absurd e2 hR
  · exact absurd e2 hR
theorem fz_fo_cons (z : Int32 × Int32) (r : List Int32) (l : List (List Int32)) : fz_fo own z (r :: l) = fz_fo own z [r] ++ fz_fo own z l := fz_fo_app z [r] l
theorem fz_fq_cons (z : Int32 × Int32) (r : List Int32) (l : List (List Int32)) : fz_fq own z (r :: l) = fz_fq own z [r] ++ fz_fq own z l := fz_fq_app z [r] l
/-- the first order of a switch is taken and changes its rules and reports -/
theorem fz_I.obeyed {s s' : fc_S} (hn : ns ≤ 5) (IK : fc_iK ns s) (I : fz_I own W ns s) {i : Nat} {r : List Int32} {rest X : List (List Int32)} (hi : i < ns) (hr : s (30 + i) = r :: rest) (h2 : s' 2 = s 2) (h7 : s' 7 = s 7) (h3 : ∀ j, j < ns → s' (30 + j) = if j = i then rest else s (30 + j)) (h4 : ∀ j, j < ns → s' (40 + j) = if j = i then s (40 + j) ++ X else s (40 + j)) (hX : ∀ x ∈ X, fz_lq x = false ∧ fz_wb W x) (h5 : ∀ j, j < ns → j ≠ i → s' (20 + j) = s (20 + j)) (hs : ∀ z, fz_ste z (fz_fo own z [r] ++ fz_fo own z rest, fz_fq own z (s (40 + i)), fz_nr z (s (20 + i))) (fz_fo own z rest, fz_fq own z (s (40 + i)) ++ fz_fq own z X, fz_nr z (s' (20 + i)))) : fz_I own W ns s' := by
  refine I.step hn IK h2 h7 (fun j hj => ?_) (fun j hj z => ?_)
  · obtain ⟨a, b, c, d⟩ := I.2.1 j hj
    rw [h3 j hj, h4 j hj]
    by_cases e : j = i
    · subst e
      rw [if_pos rfl, if_pos rfl]
      rw [hr] at a c
      refine ⟨fun r hr => a r (List.mem_cons_of_mem _ hr), fun r hr => ?_, ?_, ?_⟩
      · rcases List.mem_append.mp hr with h | h
        · exact b r h
        · exact (hX r h).2
      · rw [List.countP_cons] at c; omega
      · rw [List.countP_append, show X.countP fz_lq = 0 from List.countP_eq_zero.mpr (fun x hx => by rw [(hX x hx).1]; decide)]
        exact d
    · rw [if_neg e, if_neg e]; exact ⟨a, b, c, d⟩
  · by_cases e : j = i
    · subst e
      have := hs z
      unfold fz_T
      rw [hr, h3 j hj, if_pos rfl, h4 j hj, if_pos rfl, fz_fo_cons, fz_fq_app]
      exact this
    · refine fz_ste.of ?_
      unfold fz_T
      rw [h3 j hj, if_neg e, h4 j hj, if_neg e, h5 j hj e]
theorem fz_cerase {p : List Int32 → Bool} {b : List Int32} : ∀ {l : List (List Int32)} {k : Nat}, l[k]? = some b → (l.eraseIdx k).countP p = l.countP p - if p b = true then 1 else 0
  | [], _, h' => by cases h'
  | x :: l, 0, h' => by
    cases h'
    rw [List.eraseIdx_cons_zero, List.countP_cons]
    omega
  | x :: l, k + 1, h' => by
    have h2 : l[k]? = some b := by simpa using h'
    rw [List.eraseIdx_cons_succ, List.countP_cons, List.countP_cons, fz_cerase h2]
    by_cases e : p b = true
    · rw [if_pos e]
      have : 0 < l.countP p := List.countP_pos_iff.mpr ⟨b, List.mem_of_getElem? h2, e⟩
      omega
    · rw [if_neg e]; omega
theorem fz_cut_nr {s : fc_S} {i : Nat} {x y : Int32} (z : Int32 × Int32) : fz_nr z (fc_cut s i x y (20 + i)) = if (x, y) = z then fz_nr z (s (20 + i)) - 1 else fz_nr z (s (20 + i)) := by
  unfold fc_cut
  cases hx : fc_rix s i x y with
  | none =>
    show fz_nr z (s (20 + i)) = _
    split
    · next e =>
      have h0 : fz_nr z (s (20 + i)) = 0 := by
        unfold fz_nr
        refine List.countP_eq_zero.mpr (fun r hr => ?_)
        unfold fc_rix at hx
        have := List.findIdx?_eq_none_iff.mp hx r hr
        subst e
        simpa using this
      rw [h0]
    · rfl
  | some k =>
    obtain ⟨row, hr, h1, h2⟩ := fc_rix_row hx
    show fz_nr z (fc_del s (20 + i) k (20 + i)) = _
    rw [fc_del_same]
    unfold fz_nr
    rw [fz_cerase hr, h1, h2]
    by_cases e : (x, y) = z
    · rw [if_pos e, if_pos (decide_eq_true e)]
    · rw [if_neg e, if_neg (by simpa using e)]; rfl
theorem fz_nr_app (z : Int32 × Int32) (l l' : List (List Int32)) : fz_nr z (l ++ l') = fz_nr z l + fz_nr z l' := List.countP_append
theorem fc_iD.cut {s : fc_S} (D : fc_iD ns room s) {i : Nat} (hi : i < ns) (x y : Int32) : fc_iD ns room (fc_cut s i x y) := by
  obtain ⟨h0, IH, IP, IW, IG, IR, IL, Io, IK⟩ := D
  have n5 := h0.2.1
  refine ⟨h0, IH.same (fun c hc => fc_cut_ne (by omega)), IP.same (fun c hc => fc_cut_ne (by omega)), IW.same (fun c hc => fc_cut_ne (by omega)), IG.same (fun j hj => fc_cut_ne (by omega)), fun j hj => ?_, IL.same (fun j hj => ⟨fc_cut_ne (by omega), fc_cut_ne (by omega)⟩), Io.same (fun c h1 h2 => fc_cut_ne (by omega)), IK.same (fc_cut_ne (by omega))⟩
  by_cases e : j = i
  · subst e
    refine ⟨Nat.le_trans fc_cut_le (IR j hj).1, fun r hr => (IR j hj).2 r ?_⟩
    unfold fc_cut at hr
    revert hr
    cases fc_rix s j x y with
    | none => exact fun h => h
    | some k => exact fun h => List.mem_of_mem_eraseIdx (by rw [← fc_del_same]; exact h)
  · rw [fc_cut_ne (by omega)]; exact IR j hj
theorem fc_iD.addR {s : fc_S} (D : fc_iD ns room s) {i f t p : Nat} {m l u : Int32} (hi : i < ns) (hf : f < 6) (ht : t < 6) (hp : p < 4) (hl : (s (20 + i)).length < room) : fc_iD ns room (fc_add s (20 + i) [nI f, nI t, nI p, m, l, u]) := by
  obtain ⟨h0, IH, IP, IW, IG, IR, IL, Io, IK⟩ := D
  have n5 := h0.2.1
  refine ⟨h0, IH.same (fun c hc => fc_add_ne _ (by omega)), IP.same (fun c hc => fc_add_ne _ (by omega)), IW.same (fun c hc => fc_add_ne _ (by omega)), IG.same (fun j hj => fc_add_ne _ (by omega)), fun j hj => ?_, IL.same (fun j hj => ⟨fc_add_ne _ (by omega), fc_add_ne _ (by omega)⟩), Io.same (fun c h1 h2 => fc_add_ne _ (by omega)), IK.same (fc_add_ne _ (by omega))⟩
  by_cases e : j = i
  · subst e
    rw [fc_add_same]
    refine ⟨by rw [List.length_append, List.length_singleton]; omega, fun r hr => ?_⟩
    rcases List.mem_append.mp hr with h | h
    · exact (IR j hj).2 r h
    · exact ⟨f, t, p, m, l, u, hf, ht, hp, List.mem_singleton.mp h⟩
  · rw [fc_add_ne _ (by omega)]; exact IR j hj
/-- the first order goes, and nothing else changes -/
theorem fz_J.less {s : fc_S} (J : fz_J own W ns room s) {i : Nat} {r : List Int32} {rest : List (List Int32)} (hi : i < ns) (hr : s (30 + i) = r :: rest) (h1 : r.getD 0 0 ≠ 1) (h2 : r.getD 0 0 ≠ 2) : fz_J own W ns room (fc_del s (30 + i) 0) := by
  have n5 := J.1.1.2.1
  have IK := J.1.2.2.2.2.2.2.2.2
  refine ⟨J.1.delL 0 (Or.inl ⟨by omega, by omega⟩), J.2.obeyed (X := []) n5 IK hi hr (fc_del_ne _ (by omega)) (fc_del_ne _ (by omega)) (fun j hj => ?_) (fun j hj => ?_) (fun x hx => by cases hx) (fun j hj _ => fc_del_ne _ (by omega)) (fun z => ?_)⟩
  · by_cases e : j = i
    · subst e; rw [if_pos rfl, fc_del_same, hr]; rfl
    · rw [if_neg e, fc_del_ne _ (by omega)]
  · rw [fc_del_ne _ (by omega), List.append_nil]; split <;> rfl
  · rw [fc_del_ne _ (by omega)]
    by_cases e : fz_po own r = some z
    · rw [fz_fo_yes e]
      exact fz_ste.head h1 h2 (fun x hx => by cases hx) (fun h => h) (fun h => by show 0 + _ ≤ _; omega)
    · rw [fz_fo_no e]
      exact fz_ste.of (by show _ = (fz_fo own z rest, _, _); rw [show fz_fq own z [] = [] from rfl, List.append_nil]; try rfl)
theorem fz_J.outs {s : fc_S} (J : fz_J own W ns room s) {i : Nat} (hi : i < ns) (bits : Int32) {row : List Int32} (hf : fc_frm ns row) : ∀ p, p ≤ 4 → fz_J own W ns room (fc_outs s i bits row p)
  | 0, _ => J
  | p + 1, h => by
    show fz_J own W ns room (if _ then _ else _)
    split
    · exact (fz_J.outs J hi bits hf p (by omega)).out (by omega) hf
    · exact fz_J.outs J hi bits hf p (by omega)
theorem fz_J.prbs {s : fc_S} (J : fz_J own W ns room s) {i : Nat} (hi : i < ns) : ∀ p, p ≤ 4 → fz_J own W ns room (fc_prbs s i p)
  | 0, _ => J
  | p + 1, h => by
    show fz_J own W ns room (if _ then _ else _)
    split
    · exact (fz_J.prbs J hi p (by omega)).out (by omega) (Or.inr ⟨4 * i + p, by omega, rfl⟩)
    · exact fz_J.prbs J hi p (by omega)
theorem fz_J.short {s : fc_S} (J : fz_J own W ns room s) {i : Nat} (hi : i < ns) : (s (30 + i)).length ≤ 46 ∧ (s (40 + i)).length ≤ 39 := fz_short J.2 J.1.2.2.2.2.2.2.2.2.1 hi
theorem fc_d0 {s : fc_S} {i : Nat} (p f t n : Int32) : fc_does room s i [0, p, f, t, n] = fc_putr room s i f t p := if_pos rfl
theorem fc_d1 {s : fc_S} {i : Nat} (p f t n : Int32) : fc_does room s i [1, p, f, t, n] = fc_cut s i f t := (if_neg (by show ¬ (1 : Int32) = 0; decide)).trans (if_pos rfl)
theorem fc_d2 {s : fc_S} {i : Nat} (p f t n : Int32) : fc_does room s i [2, p, f, t, n] = fc_add s (40 + i) [2, p, -1, -1, 0] := (if_neg (by show ¬ (2 : Int32) = 0; decide)).trans ((if_neg (by show ¬ (2 : Int32) = 1; decide)).trans (if_pos rfl))
theorem fc_d3 {s : fc_S} {i : Nat} (p f t n : Int32) : fc_does room s i [3, p, f, t, n] = fc_outs s i p [f, t, n] 4 := (if_neg (by show ¬ (3 : Int32) = 0; decide)).trans ((if_neg (by show ¬ (3 : Int32) = 1; decide)).trans ((if_neg (by show ¬ (3 : Int32) = 2; decide)).trans (if_pos rfl)))
theorem fc_d4 {s : fc_S} {i : Nat} (p f t n : Int32) : fc_does room s i [4, p, f, t, n] = fc_rules s i (nI 4) f t n := (if_neg (by show ¬ (4 : Int32) = 0; decide)).trans ((if_neg (by show ¬ (4 : Int32) = 1; decide)).trans ((if_neg (by show ¬ (4 : Int32) = 2; decide)).trans ((if_neg (by show ¬ (4 : Int32) = 3; decide)).trans ((if_pos rfl).trans (by rw [show nI 4 = (4 : Int32) from by decide]; rfl)))))
theorem fc_d5 {s : fc_S} {i : Nat} (p f t n : Int32) : fc_does room s i [5, p, f, t, n] = fc_prbs s i 4 := (if_neg (by show ¬ (5 : Int32) = 0; decide)).trans ((if_neg (by show ¬ (5 : Int32) = 1; decide)).trans ((if_neg (by show ¬ (5 : Int32) = 2; decide)).trans ((if_neg (by show ¬ (5 : Int32) = 3; decide)).trans ((if_neg (by show ¬ (5 : Int32) = 4; decide)).trans (if_pos rfl)))))
theorem fz_J.obey {s : fc_S} (J : fz_J own W ns room s) (x : Int32) : fz_J own W ns room (fc_obey ns room s x).2 := by
  unfold fc_obey
  split
  · next h =>
    have n5 := J.1.1.2.1
    have IK := J.1.2.2.2.2.2.2.2.2
    rw [Bool.and_eq_true] at h
    obtain ⟨i, hi, rfl⟩ := fc_sw_nat n5 h.1
    have he := h.2
    rw [nI_clamp (by omega)] at he ⊢
    show fz_J own W ns room (fc_does _ _ _ _)
    cases hr : s (30 + i) with
    | nil => rw [hr] at he; simp at he
    | cons r rest =>
    have D1 : fc_iD ns room (fc_del s (30 + i) 0) := J.1.delL 0 (Or.inl ⟨by omega, by omega⟩)
    have e30 : ∀ j, j < ns → fc_del s (30 + i) 0 (30 + j) = if j = i then rest else s (30 + j) := fun j hj => by
      by_cases e : j = i
      · subst e; rw [if_pos rfl, fc_del_same, hr]; rfl
      · rw [if_neg e, fc_del_ne _ (by omega)]
    show fz_J own W ns room (fc_does room (fc_del s (30 + i) 0) i r)
    have hsh := (J.short hi).2
    rcases ((J.1.2.2.2.2.2.2.1 i hi).1.2 r (by rw [hr]; exact List.mem_cons_self ..)) with ⟨p, f, t, hp, hf, ht, rfl⟩ | ⟨f, t, hf, ht, rfl⟩ | ⟨w, rfl⟩ | ⟨b, n, f, t, hf, ht, rfl⟩ | ⟨n, f, t, hf, ht, rfl⟩ | rfl
    · rw [fc_d0]
      have po : fz_po own [0, nI p, nI f, nI t, 0] = some (nI f, nI t) := rfl
      have cn : fz_nr (nI f, nI t) (fc_cut (fc_del s (30 + i) 0) i (nI f) (nI t) (20 + i)) = fz_nr (nI f, nI t) (s (20 + i)) - 1 := by rw [fz_cut_nr, if_pos rfl, fc_del_ne _ (by omega)]
      have cn' : ∀ z, (nI f, nI t) ≠ z → fz_nr z (fc_cut (fc_del s (30 + i) 0) i (nI f) (nI t) (20 + i)) = fz_nr z (s (20 + i)) := fun z hz => by rw [fz_cut_nr, if_neg hz, fc_del_ne _ (by omega)]
      unfold fc_putr fc_len
      split
      · refine ⟨(D1.cut hi _ _).addL hi (Or.inr ⟨rfl, Or.inr (Or.inr (Or.inr (Or.inl ⟨f, t, hf, ht, rfl⟩)))⟩) (by rw [fc_cut_ne (by omega), fc_del_ne _ (by omega)]; omega), J.2.obeyed (X := [[3, -1, nI f, nI t, 0]]) n5 IK hi hr ?_ ?_ (fun j hj => ?_) (fun j hj => ?_) (fun x hx => ?_) (fun j hj hne => ?_) (fun z => ?_)⟩
        · rw [fc_add_ne _ (by omega), fc_cut_ne (by omega), fc_del_ne _ (by omega)]
        · rw [fc_add_ne _ (by omega), fc_cut_ne (by omega), fc_del_ne _ (by omega)]
        · rw [fc_add_ne _ (by omega), fc_cut_ne (by omega)]; exact e30 j hj
        · by_cases e : j = i
          · subst e; rw [if_pos rfl, fc_add_same, fc_cut_ne (by omega), fc_del_ne _ (by omega)]
          · rw [if_neg e, fc_add_ne _ (by omega), fc_cut_ne (by omega), fc_del_ne _ (by omega)]
        · rw [List.mem_singleton.mp hx]; exact ⟨rfl, fun h => absurd h (by show ¬ (3 : Int32) = 2; decide)⟩
        · rw [fc_add_ne _ (by omega), fc_cut_ne (by omega), fc_del_ne _ (by omega)]
        · rw [fc_add_ne _ (by omega)]
          by_cases e : (nI f, nI t) = z
          · subst e
            rw [fz_fo_yes po, cn, fz_fq_yes rfl]
            refine fz_ste.head (by show (0 : Int32) ≠ 1; decide) (by show (0 : Int32) ≠ 2; decide) (fun x hx => by rw [List.mem_singleton.mp hx]; show (3 : Int32) ≠ 2; decide) (fun h => by omega) (fun h => ?_)
            rw [if_pos (by rfl), List.length_singleton]; omega
          · rw [fz_fo_no (by rw [po]; simpa using e), cn' z e, fz_fq_no (by show some (nI f, nI t) ≠ some z; simpa using e), List.append_nil]
            exact fz_ste.rfl
      · next hl =>
        refine ⟨(D1.cut hi _ _).addR hi hf ht hp (by omega), J.2.obeyed (X := []) n5 IK hi hr ?_ ?_ (fun j hj => ?_) (fun j hj => ?_) (fun x hx => by cases hx) (fun j hj hne => ?_) (fun z => ?_)⟩
        · rw [fc_add_ne _ (by omega), fc_cut_ne (by omega), fc_del_ne _ (by omega)]
        · rw [fc_add_ne _ (by omega), fc_cut_ne (by omega), fc_del_ne _ (by omega)]
        · rw [fc_add_ne _ (by omega), fc_cut_ne (by omega)]; exact e30 j hj
        · rw [fc_add_ne _ (by omega), fc_cut_ne (by omega), fc_del_ne _ (by omega), List.append_nil]; split <;> rfl
        · rw [fc_add_ne _ (by omega), fc_cut_ne (by omega), fc_del_ne _ (by omega)]
        · rw [fc_add_same, fz_nr_app]
          by_cases e : (nI f, nI t) = z
          · subst e
            rw [fz_fo_yes po, cn]
            have h1 : fz_nr (nI f, nI t) [[nI f, nI t, nI p, fc_now (fc_del s (30 + i) 0), fc_now (fc_del s (30 + i) 0), 0]] = 1 := by simp [fz_nr]
            rw [h1]
            refine fz_ste.head (by show (0 : Int32) ≠ 1; decide) (by show (0 : Int32) ≠ 2; decide) (fun x hx => by cases hx) (fun h => by omega) (fun h => ?_)
            rw [if_pos (by rfl)]; show 0 + _ ≤ _; omega
          · rw [fz_fo_no (by rw [po]; simpa using e), cn' z e]
            have h1 : fz_nr z [[nI f, nI t, nI p, fc_now (fc_del s (30 + i) 0), fc_now (fc_del s (30 + i) 0), 0]] = 0 := by simpa [fz_nr] using e
            rw [h1]
            exact fz_ste.of (by rw [show fz_fq own z [] = [] from rfl, List.append_nil]; try rfl)
    · rw [fc_d1]
      have po : fz_po own [1, -1, nI f, nI t, 0] = some (nI f, nI t) := rfl
      refine ⟨D1.cut hi _ _, J.2.obeyed (X := []) n5 IK hi hr ?_ ?_ (fun j hj => ?_) (fun j hj => ?_) (fun x hx => by cases hx) (fun j hj hne => ?_) (fun z => ?_)⟩
      · rw [fc_cut_ne (by omega), fc_del_ne _ (by omega)]
      · rw [fc_cut_ne (by omega), fc_del_ne _ (by omega)]
      · rw [fc_cut_ne (by omega)]; exact e30 j hj
      · rw [fc_cut_ne (by omega), fc_del_ne _ (by omega), List.append_nil]; split <;> rfl
      · rw [fc_cut_ne (by omega), fc_del_ne _ (by omega)]
      · rw [fz_cut_nr, fc_del_ne _ (by omega), show fz_fq own z [] = [] from rfl, List.append_nil]
        by_cases e : (nI f, nI t) = z
        · subst e
          rw [fz_fo_yes po, if_pos rfl]
          exact fz_ste.cut (by show (1 : Int32) ≠ 2; decide) (fun h => by omega)
        · rw [fz_fo_no (by rw [po]; simpa using e), if_neg e]
          exact fz_ste.rfl
    · rw [fc_d2]
      have po : fz_po own [2, w, -1, -1, 0] = some (own w) := rfl
      have pq : fz_pq own [2, w, -1, -1, 0] = some (own w) := rfl
      refine ⟨D1.addL hi (Or.inr ⟨rfl, Or.inr (Or.inr (Or.inl ⟨w, rfl⟩))⟩) (by rw [fc_del_ne _ (by omega)]; omega), J.2.obeyed (X := [[2, w, -1, -1, 0]]) n5 IK hi hr ?_ ?_ (fun j hj => ?_) (fun j hj => ?_) (fun x hx => ?_) (fun j hj hne => ?_) (fun z => ?_)⟩
      · rw [fc_add_ne _ (by omega), fc_del_ne _ (by omega)]
      · rw [fc_add_ne _ (by omega), fc_del_ne _ (by omega)]
      · rw [fc_add_ne _ (by omega)]; exact e30 j hj
      · by_cases e : j = i
        · subst e; rw [if_pos rfl, fc_add_same, fc_del_ne _ (by omega)]
        · rw [if_neg e, fc_add_ne _ (by omega), fc_del_ne _ (by omega)]
      · rw [List.mem_singleton.mp hx]; exact ⟨rfl, (J.2.2.1 i hi).1 _ (by rw [hr]; exact List.mem_cons_self ..)⟩
      · rw [fc_add_ne _ (by omega), fc_del_ne _ (by omega)]
      · rw [fc_add_ne _ (by omega), fc_del_ne _ (by omega)]
        by_cases e : own w = z
        · subst e
          rw [fz_fo_yes po, fz_fq_yes pq]
          exact fz_ste.bar
        · rw [fz_fo_no (by rw [po]; simpa using e), fz_fq_no (by rw [pq]; simpa using e), List.append_nil]
          exact fz_ste.rfl
    · rw [fc_d3]
      exact (J.less hi hr (by show (3 : Int32) ≠ 1; decide) (by show (3 : Int32) ≠ 2; decide)).outs hi b (Or.inl ⟨f, t, n, hf, ht, rfl⟩) 4 (Nat.le_refl _)
    · rw [fc_d4]
      exact (J.less hi hr (by show (4 : Int32) ≠ 1; decide) (by show (4 : Int32) ≠ 2; decide)).rules hi (Nat.le_refl _) hf ht n
    · rw [fc_d5]
      exact (J.less hi hr (by show (5 : Int32) ≠ 1; decide) (by show (5 : Int32) ≠ 2; decide)).prbs hi 4 (Nat.le_refl _)
  · exact J
end INH
