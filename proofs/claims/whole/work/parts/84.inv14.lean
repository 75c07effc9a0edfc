/-! what always holds: a port without a link is down; links have two ends -/
section INS
variable {ns room idle : Nat}
variable {own : Int32 → Int32 × Int32} {W : Nat}
def fc_iU (ns : Nat) (s : fc_S) : Prop := ∀ e, e < 4 * ns → (fc_get s (100 + e) 0 1 = -1 → fc_get s (100 + e) 0 2 = 0) ∧ ∀ m, m < 4 * ns → fc_get s (100 + e) 0 1 = nI m → fc_get s (100 + m) 0 1 ≠ -1
def fc_sP (s s' : fc_S) : Prop := ∀ e, e < 100 → s' (100 + e) = s (100 + e)
theorem fc_iU.same {s s' : fc_S} (n5 : ns ≤ 5) (h : fc_iU ns s) (q : fc_sP s s') : fc_iU ns s' := fun e he => by
  unfold fc_get
  rw [q e (by omega)]
  refine ⟨(h e he).1, fun m hm => ?_⟩
  rw [q m (by omega)]
  exact (h e he).2 m hm
theorem fc_sP.id0 {s : fc_S} : fc_sP s s := fun _ _ => rfl
theorem fc_sP.trans {s s' s'' : fc_S} (h : fc_sP s s') (h' : fc_sP s' s'') : fc_sP s s'' := fun e he => (h' e he).trans (h e he)
theorem fc_sP.up {s : fc_S} {c : Nat} (rows : List (List Int32)) (hc : c < 100 ∨ 200 ≤ c) : fc_sP s (fc_up s c rows) := fun e he => fc_up_ne _ (by omega)
theorem fc_sP.out (s : fc_S) (q : Nat) (row : List Int32) : fc_sP s (fc_out s q row) := fun e he => fc_out_at (by omega) (by omega)
theorem fc_sP.slight (s : fc_S) {i : Nat} (hi : i < 50) (row : List Int32) : fc_sP s (fc_slight s i row) := by
  unfold fc_slight
  split
  · exact fc_sP.up _ (by omega)
  · exact fc_sP.id0
theorem fc_sP.rules (s : fc_S) {i : Nat} (hi : i < 50) (p f t nr : Int32) : fc_sP s (fc_rules s i p f t nr) := by
  unfold fc_rules
  cases fc_rix s i f t with
  | none => exact fc_sP.slight s hi _
  | some k => exact ((fc_sP.up _ (by omega)).trans (fc_sP.up _ (by omega))).trans (fc_sP.out _ _ _)
theorem fc_sP.come (s : fc_S) {i : Nat} (hi : i < 50) (p f t nr : Int32) : fc_sP s (fc_in s i p f t nr) := by
  unfold fc_in
  cases fc_bst (s (10 + i)) p f t (fc_len s (10 + i)) with
  | none => exact fc_sP.rules s hi _ _ _ _
  | some k =>
    show fc_sP s (if _ then _ else if _ then _ else if _ then _ else _)
    split
    · exact (fc_sP.up _ (by omega)).trans (fc_sP.out _ _ _)
    · split
      · exact (fc_sP.up _ (by omega)).trans (fc_sP.rules _ hi _ _ _ _)
      · split
        · exact (fc_sP.up _ (by omega)).trans (fc_sP.slight _ hi _)
        · exact fc_sP.up _ (by omega)
theorem fc_sP.outs (s : fc_S) (i : Nat) (bits : Int32) (row : List Int32) : ∀ p, fc_sP s (fc_outs s i bits row p)
  | 0 => fc_sP.id0
  | p + 1 => by
    show fc_sP s (if _ then _ else _)
    split
    · exact (fc_sP.outs s i bits row p).trans (fc_sP.out _ _ _)
    · exact fc_sP.outs s i bits row p
theorem fc_sP.prbs (s : fc_S) (i : Nat) : ∀ p, fc_sP s (fc_prbs s i p)
  | 0 => fc_sP.id0
  | p + 1 => by
    show fc_sP s (if _ then _ else _)
    split
    · exact (fc_sP.prbs s i p).trans (fc_sP.out _ _ _)
    · exact fc_sP.prbs s i p
theorem fc_sP.cut (s : fc_S) {i : Nat} (hi : i < 50) (x y : Int32) : fc_sP s (fc_cut s i x y) := fun e he => fc_cut_ne (by omega)
theorem fc_iU.send {s : fc_S} (D : fc_iD ns room s) (U : fc_iU ns s) (f t nr : Int32) : fc_iU ns (fc_send s f t nr).2 := by
  unfold fc_send
  split
  · next h =>
    rw [Bool.and_eq_true] at h
    have n5 := D.1.2.1
    obtain ⟨f', hf, rfl⟩ := fc_hs_nat D.2.1.2.1 h.1
    have h6 := D.2.1.2.1
    have hr := List.getElem?_eq_getElem hf
    obtain ⟨i, p, a, b, c, h1, h2, he⟩ := D.2.1.2.2 f' _ hr
    rw [he] at hr
    refine U.same n5 (fc_sP.come s ?_ _ _ _ _)
    rw [nI_clamp (show f' < 2 ^ 31 by omega), fc_get_row hr]
    show (nI i).toNatClampNeg < 50
    rw [nI_clamp (by omega)]
    omega
  · exact U
theorem fc_iU.carry {s : fc_S} (D : fc_iD ns room s) (U : fc_iU ns s) (x p : Int32) : fc_iU ns (fc_carry ns s x p).2 := by
  unfold fc_carry
  split
  · next h =>
    have n5 := D.1.2.1
    rw [Bool.and_eq_true] at h
    have h1 := h.1
    unfold fc_en at h1
    rw [Bool.and_eq_true] at h1
    obtain ⟨i, q, hi, hq, rfl, rfl⟩ := fc_pt_nat n5 h1.1
    rw [fc_e_nat (by omega) hq] at h1 ⊢
    obtain ⟨hh, o, u, hP, -, ho, -, -⟩ := D.2.2.1 (4 * i + q) (by omega)
    have hm : fc_mate s (4 * i + q) / 4 < 50 := by
      unfold fc_mate fc_get
      rw [hP]
      show o.toNatClampNeg / 4 < 50
      rcases ho with rfl | ⟨m, hm, rfl⟩
      · decide
      · rw [nI_clamp (by omega)]; omega
    refine U.same n5 ?_
    show fc_sP s (if _ then _ else _)
    split
    · exact (fc_sP.up _ (by omega)).trans (fc_sP.slight _ hm _)
    · exact (fc_sP.up _ (by omega)).trans (fc_sP.come _ hm _ _ _ _)
  · exact U
theorem fc_iU.obey {s : fc_S} (D : fc_iD ns room s) (U : fc_iU ns s) (x : Int32) : fc_iU ns (fc_obey ns room s x).2 := by
  unfold fc_obey
  split
  · next h =>
    have n5 := D.1.2.1
    rw [Bool.and_eq_true] at h
    obtain ⟨i, hi, rfl⟩ := fc_sw_nat n5 h.1
    rw [nI_clamp (by omega)]
    refine U.same n5 (fc_sP.trans (s' := fc_del s (30 + i) 0) (fc_sP.up _ (by omega)) ?_)
    show fc_sP _ (fc_does _ _ _ _)
    unfold fc_does
    split
    · unfold fc_putr
      split
      · exact (fc_sP.cut _ (by omega) _ _).trans (fc_sP.up _ (by omega))
      · exact (fc_sP.cut _ (by omega) _ _).trans (fc_sP.up _ (by omega))
    · split
      · exact fc_sP.cut _ (by omega) _ _
      · split
        · exact fc_sP.up _ (by omega)
        · split
          · exact fc_sP.outs _ _ _ _ _
          · split
            · exact fc_sP.rules _ (by omega) _ _ _ _
            · split
              · exact fc_sP.prbs _ _ _
              · exact fc_sP.id0
  · exact U
theorem fc_iU.probe {s : fc_S} (D : fc_iD ns room s) (U : fc_iU ns s) : fc_iU ns (fc_probe ns s).2 := by
  unfold fc_probe
  split
  · exact U.same D.1.2.1 (fun e he => by
      show fc_all ns s _ (100 + e) = _
      rw [fc_all_at, if_neg (by have := D.1.2.1; omega)])
  · exact U
theorem fc_iU.tick {s : fc_S} (D : fc_iD ns room s) (U : fc_iU ns s) : fc_iU ns (fc_tick ns idle s).2 := by
  have n5 := D.1.2.1
  refine U.same n5 (fun e he => ?_)
  show fc_drops idle _ ns (100 + e) = _
  rw [fc_drops_ne (fun i hi => ⟨by omega, by omega⟩), fc_put_ne _ _ _ (by omega)]
theorem fc_iU.guard {s : fc_S} (D : fc_iD ns room s) (U : fc_iU ns s) (x pr m v : Int32) : fc_iU ns (fc_guard ns s x pr m v).2 := by
  unfold fc_guard
  split
  · next h =>
    rw [Bool.and_eq_true] at h
    obtain ⟨i, hi, rfl⟩ := fc_sw_nat D.1.2.1 h.1
    have n5 := D.1.2.1
    rw [nI_clamp (by omega)]
    split
    · exact U
    · exact U.same n5 (fc_sP.up _ (by omega))
  · exact U
theorem fc_iU.unguard {s : fc_S} (D : fc_iD ns room s) (U : fc_iU ns s) (x k : Int32) : fc_iU ns (fc_unguard ns s x k).2 := by
  unfold fc_unguard
  split
  · next h =>
    unfold fc_gd at h
    rw [Bool.and_eq_true] at h
    obtain ⟨i, hi, rfl⟩ := fc_sw_nat D.1.2.1 h.1
    have n5 := D.1.2.1
    rw [nI_clamp (by omega)]
    exact U.same n5 (fc_sP.up _ (by omega))
  · exact U
theorem fc_iU.tp {s : fc_S} (D : fc_iD ns room s) (U : fc_iU ns s) {q : Nat} (hq : q < 4 * ns) (ho : fc_get s (100 + q) 0 1 ≠ -1) (u : Int32) : fc_iU ns (fc_tp s q u) ∧ ∀ e, e < 4 * ns → fc_get (fc_tp s q u) (100 + e) 0 1 = fc_get s (100 + e) 0 1 := by
  have n5 := D.1.2.1
  obtain ⟨h, o, u', hP, -⟩ := D.2.2.1 q hq
  have hr : (s (100 + q))[0]? = some [h, o, u'] := by rw [hP]; rfl
  have eP : fc_tp s q u (100 + q) = [[h, o, u]] := by
    unfold fc_tp
    split
    · rw [fc_add_ne _ (by omega), fc_up_ne _ (by omega), fc_put1 hr, fc_up_same, hP]; rfl
    · rw [fc_put1 hr, fc_up_same, hP]; rfl
  have ne : ∀ e, e < 4 * ns → e ≠ q → fc_tp s q u (100 + e) = s (100 + e) := fun e he hne => by
    unfold fc_tp
    split
    · rw [fc_add_ne _ (by omega), fc_up_ne _ (by omega), fc_put_ne _ _ _ (by omega)]
    · rw [fc_put_ne _ _ _ (by omega)]
  have g1 : fc_get s (100 + q) 0 1 = o := by unfold fc_get; rw [hP]; rfl
  have get : ∀ e, e < 4 * ns → fc_get (fc_tp s q u) (100 + e) 0 1 = fc_get s (100 + e) 0 1 := fun e he => by
    by_cases z : e = q
    · subst z; rw [g1]; unfold fc_get; rw [eP]; rfl
    · unfold fc_get; rw [ne e he z]
  refine ⟨fun e he => ⟨fun z => ?_, fun m hm z => ?_⟩, get⟩
  · rw [get e he] at z
    have hne : e ≠ q := fun w => ho (w ▸ z)
    have := (U e he).1 z
    unfold fc_get
    rw [ne e he hne]
    exact this
  · rw [get m hm]
    rw [get e he] at z
    exact (U e he).2 m hm z
theorem fc_iU.turn {s : fc_S} (J : fz_J own W ns room s) (U : fc_iU ns s) (x p u : Int32) (hu : u = 0 ∨ u = 1) : fc_iU ns (fc_turn ns s x p u).2 := by
  unfold fc_turn
  split
  · next h =>
    have n5 := J.1.1.2.1
    simp only [Bool.and_eq_true, decide_eq_true_eq] at h
    obtain ⟨h1, -, h3, h4⟩ := h
    unfold fc_en at h1
    rw [Bool.and_eq_true] at h1
    obtain ⟨i, q, hi, hq, rfl, rfl⟩ := fc_pt_nat n5 h1.1
    rw [fc_e_nat (by omega) hq] at h1 h3 h4 ⊢
    obtain ⟨hh, o, u', hP, -, ho, -, -⟩ := J.1.2.2.1 (4 * i + q) (by omega)
    have hg : fc_get s (100 + (4 * i + q)) 0 1 = o := by unfold fc_get; rw [hP]; rfl
    have h12 := h1.2
    rw [hg] at h12
    rcases ho with rfl | ⟨m, hm, rfl⟩
    · simp at h12
    have hmate : fc_mate s (4 * i + q) = m := by unfold fc_mate; rw [hg]; exact nI_clamp (by omega)
    unfold fc_len at h3 h4
    rw [hmate] at h4 ⊢
    rw [show (4 * i + q) / 4 = i by omega] at h3
    have J1 := J.tp hi hq hu (by omega)
    obtain ⟨U1, g1⟩ := U.tp J.1 (show 4 * i + q < 4 * ns by omega) (by rw [hg]; exact cl_ix_ne (by omega)) u
    exact (U1.tp J1.1 hm (by rw [g1 m hm]; exact (U (4 * i + q) (by omega)).2 m hm hg) u).1
  · exact U
theorem fc_iU.link {s : fc_S} (D : fc_iD ns room s) (U : fc_iU ns s) (a p b q : Int32) : fc_iU ns (fc_link ns s a p b q).2 := by
  unfold fc_link
  split
  · next h =>
    have n5 := D.1.2.1
    simp only [Bool.and_eq_true] at h
    obtain ⟨h1, h2, h3, h4, h5⟩ := h
    obtain ⟨i, p', hi, hp, rfl, rfl⟩ := fc_pt_nat n5 h1
    obtain ⟨j, q', hj, hq, rfl, rfl⟩ := fc_pt_nat n5 h2
    have hij : i ≠ j := fun e => by subst e; simp at h3
    rw [fc_e_nat (by omega) hp] at h4 ⊢
    rw [fc_e_nat (by omega) hq] at h5 ⊢
    obtain ⟨x1, x2, x3, hx, -⟩ := D.2.2.1 (4 * i + p') (by omega)
    obtain ⟨rfl, rfl⟩ := fc_free_iff hx h4
    obtain ⟨y1, y2, y3, hy, -⟩ := D.2.2.1 (4 * j + q') (by omega)
    obtain ⟨rfl, rfl⟩ := fc_free_iff hy h5
    have jn : ∀ (s : fc_S) (e o c : Nat), c ≠ 100 + e → fc_join s e o c = s c := fun s e o c hc => by unfold fc_join; rw [fc_put_ne _ _ _ hc, fc_put_ne _ _ _ hc]
    have jr : ∀ (s : fc_S) (e o : Nat) (u : Int32), s (100 + e) = [[-1, -1, u]] → fc_join s e o (100 + e) = [[-1, nI o, 1]] := fun s e o u hu => by
      have hr : (s (100 + e))[0]? = some [-1, -1, u] := by rw [hu]; rfl
      unfold fc_join
      rw [fc_put2 hr, fc_up_same, hu]
      rfl
    have r2 : fc_join (fc_join s (4 * i + p') (4 * j + q')) (4 * j + q') (4 * i + p') (100 + (4 * j + q')) = [[-1, nI (4 * i + p'), 1]] := jr _ _ _ y3 (by rw [jn _ _ _ _ (by omega)]; exact hy)
    have r1 : fc_join (fc_join s (4 * i + p') (4 * j + q')) (4 * j + q') (4 * i + p') (100 + (4 * i + p')) = [[-1, nI (4 * j + q'), 1]] := by rw [jn _ _ _ _ (by omega)]; exact jr _ _ _ x3 hx
    have r0 : ∀ e, e ≠ 4 * i + p' → e ≠ 4 * j + q' → fc_join (fc_join s (4 * i + p') (4 * j + q')) (4 * j + q') (4 * i + p') (100 + e) = s (100 + e) := fun e a b => by rw [jn _ _ _ _ (by omega), jn _ _ _ _ (by omega)]
    have full : ∀ e, fc_get (fc_join (fc_join s (4 * i + p') (4 * j + q')) (4 * j + q') (4 * i + p')) (100 + e) 0 1 = -1 → e ≠ 4 * i + p' ∧ e ≠ 4 * j + q' := fun e z => by
      refine ⟨fun w => ?_, fun w => ?_⟩
      · subst w
        unfold fc_get at z
        rw [r1] at z
        exact cl_ix_ne (k := 4 * j + q') (by omega) z
      · subst w
        unfold fc_get at z
        rw [r2] at z
        exact cl_ix_ne (k := 4 * i + p') (by omega) z
    show fc_iU ns (fc_join (fc_join s (4 * i + p') (4 * j + q')) (4 * j + q') (4 * i + p'))
    intro e he
    refine ⟨fun z => ?_, fun m hm z w => ?_⟩
    · obtain ⟨a, b⟩ := full e z
      unfold fc_get at z ⊢
      rw [r0 e a b] at z ⊢
      exact (U e he).1 z
    · obtain ⟨a, b⟩ := full m w
      by_cases e1 : e = 4 * i + p'
      · subst e1
        unfold fc_get at z
        rw [r1] at z
        exact b ((nI_eq (a := 4 * j + q') (by omega) (by omega)).mp z).symm
      · by_cases e2 : e = 4 * j + q'
        · subst e2
          unfold fc_get at z
          rw [r2] at z
          exact a ((nI_eq (a := 4 * i + p') (by omega) (by omega)).mp z).symm
        · unfold fc_get at z w
          rw [r0 e e1 e2] at z
          rw [r0 m a b] at w
          exact (U e he).2 m hm z w
  · exact U
theorem fc_iU.attach {s : fc_S} (D : fc_iD ns room s) (U : fc_iU ns s) (x p : Int32) : fc_iU ns (fc_attach ns s x p).2 := by
  by_cases h : fc_pt ns x p = true
  · have n5 := D.1.2.1
    obtain ⟨i, q, hi, hq, rfl, rfl⟩ := fc_pt_nat n5 h
    rw [fc_attach_at n5 hi hq h]
    split
    · next hf =>
      split
      · exact U
      · obtain ⟨x1, x2, x3, hx, -⟩ := D.2.2.1 (4 * i + q) (by omega)
        have hr : ((fc_put (fc_add s 1 [nI (s 1).length, nI i, nI q, 0, 0, -1]) 0 0 1 (nI ((s 1).length + 1))) (100 + (4 * i + q)))[0]? = some [x1, x2, x3] := by rw [fc_put_ne _ _ _ (by omega), fc_add_ne _ (by omega), hx]; rfl
        have ne := fc_att_rows D hi hq
        have get : ∀ e, e < 4 * ns → ∀ j, j = 1 ∨ j = 2 → fc_get (fc_put (fc_put (fc_add s 1 [nI (s 1).length, nI i, nI q, 0, 0, -1]) 0 0 1 (nI ((s 1).length + 1))) (100 + (4 * i + q)) 0 0 (nI (s 1).length)) (100 + e) 0 j = fc_get s (100 + e) 0 j := fun e he j hj => by
          by_cases z : e = 4 * i + q
          · subst z
            rw [fc_get_put hr 0 _ (by show 0 < 3; decide), if_neg (by omega), fc_get_ne _ _ _ (by omega)]
            unfold fc_get
            rw [fc_add_ne _ (by omega)]
          · unfold fc_get
            rw [ne _ (by omega) (by omega) (by omega)]
        intro e he
        rw [get e he 1 (by omega), get e he 2 (by omega)]
        exact ⟨(U e he).1, fun m hm z => by rw [get m hm 1 (by omega)]; exact (U e he).2 m hm z⟩
    · exact U
  · rw [fc_attach_bad (by simpa using h)]
    exact U
/-- the controller leaves the ports alone -/
theorem fc_sP.ord (s : fc_S) {x : Int32} (hx : x.toNatClampNeg < 200) (row : List Int32) : fc_sP s (fc_ord s x row) := fc_sP.up _ (by omega)
theorem fc_sP.fold {r1 r2 : List Int32} : ∀ {way : List Int32} (u : fc_S), (∀ x ∈ way, x.toNatClampNeg < 200) → fc_sP u (way.foldl (fun u e => fc_ord (fc_ord u e r1) e r2) u)
  | [], u, _ => fc_sP.id0
  | x :: way, u, h => ((fc_sP.ord u (h x (List.mem_cons_self ..)) r1).trans (fc_sP.ord _ (h x (List.mem_cons_self ..)) r2)).trans (fc_sP.fold _ (fun y hy => h y (List.mem_cons_of_mem _ hy)))
theorem fc_iK.way {s : fc_S} (n5 : ns ≤ 5) (IK : fc_iK ns s) (k : Nat) : ∀ x ∈ fc_way s k, x.toNatClampNeg < 200 := by
  intro x hx
  by_cases hk : k < (s 7).length
  · obtain ⟨f, t, l, st, wv, aw, kp, kn, way, hr, h1, h2, h4, h5, h6, h7, h8, h9⟩ := IK.row hk
    rw [fc_way_row hr] at hx
    obtain ⟨m, hm, rfl⟩ := h9 x hx
    rw [nI_clamp (by omega)]
    omega
  · unfold fc_way at hx
    rw [List.getD_eq_getElem?_getD, List.getElem?_eq_none (by omega)] at hx
    cases hx
theorem fc_sP.clr {s : fc_S} {k : Nat} (h : ∀ x ∈ fc_way s k, x.toNatClampNeg < 200) : fc_sP s (fc_clr s k) := by
  refine fc_sP.trans (s' := fc_cb s k) (fun e he => fc_cb_ne (by omega) (by omega)) ?_
  exact fc_sP.fold _ h
theorem fc_getD_lt {way : List Int32} (h : ∀ x ∈ way, x.toNatClampNeg < 200) (j : Nat) : (way.getD j 0).toNatClampNeg < 200 := by
  by_cases hj : j < way.length
  · rw [List.getD_eq_getElem?_getD, List.getElem?_eq_getElem hj]
    exact h _ (List.getElem_mem hj)
  · rw [List.getD_eq_getElem?_getD, List.getElem?_eq_none (by omega)]
    decide
theorem fc_sP.lead {s : fc_S} {k : Nat} (h : ∀ x ∈ fc_way s k, x.toNatClampNeg < 200) : fc_sP s (fc_lead s k) := by
  unfold fc_lead
  exact ((((fc_sP.up _ (by omega)).trans (fc_sP.up _ (by omega))).trans (fc_sP.up _ (by omega))).trans (fc_sP.ord _ (fc_getD_lt h _) _)).trans (fc_sP.ord _ (fc_getD_lt h _) _)
theorem fc_sP.lay {s : fc_S} {k : Nat} {f t st wv aw ld kp kn : Int32} {way0 way : List Int32} (hr : (s 7)[k]? = some ([f, t, st, wv, aw, ld, kp, kn] ++ way0)) (h : ∀ x ∈ way, x.toNatClampNeg < 200) : fc_sP s (fc_lay s k way) := by
  have hk := (List.getElem?_eq_some_iff.mp hr).1
  rw [fc_lay_row hr]
  refine (fc_sP.up _ (by omega)).trans (fc_sP.lead ?_)
  rw [fc_way_row (f := f) (t := t) (st := 2) (wv := wv) (aw := aw) (ld := nI way.length) (kp := kp) (kn := kn) (way := way) (by rw [fc_up_same, List.getElem?_set_self hk])]
  exact h
theorem fc_way_lt {s : fc_S} (n5 : ns ≤ 5) (Io : fc_iO ns s) {f t : Nat} (hf : f < 6) (ht : t < 6) : ∀ x ∈ fc_wayOf ns s (nI f) (nI t), x.toNatClampNeg < 200 := fun x hx => by
  obtain ⟨m, hm, rfl⟩ := (fc_wayOf_ok n5 Io hf ht).2 x hx
  rw [nI_clamp (by omega)]
  omega
theorem fc_sP.hurt {s : fc_S} (n5 : ns ≤ 5) (IK : fc_iK ns s) (Io : fc_iO ns s) (hurt : List Int32 → Bool) : ∀ k, k ≤ (s 7).length → fc_sP s (fc_hurt s hurt k)
  | 0, _ => fc_sP.id0
  | k + 1, hk => by
    rw [fc_hurt_s]
    have ih := fc_sP.hurt n5 IK Io hurt k (by omega)
    split
    · exact ih.trans (fc_sP.clr ((fc_hurt_ok IK Io hurt k (by omega)).1.way n5 k))
    · exact ih
theorem fc_sP.flood (s : fc_S) (i : Nat) (port f t nr : Int32) {u : Nat} (hu : u ≤ 5) : fc_sP s (fc_flood s i port f t nr u) := fun e he => fc_flood_ne (by omega)
theorem fc_sP.fin {s : fc_S} {k : Nat} (h : ∀ x ∈ fc_way s k, x.toNatClampNeg < 200) : fc_sP s (fc_fin s k) := by
  unfold fc_fin
  split
  · exact fc_sP.up _ (by omega)
  · exact ((fc_sP.up _ (by omega)).trans (fc_sP.up _ (by omega))).trans (fc_sP.ord _ (fc_getD_lt h _) _)
theorem fc_sP.hears {s : fc_S} (D : fc_iD ns room s) {i : Nat} (hi : i < ns) {r : List Int32} (hr : fc_qOk ns r) : fc_sP s (fc_hears ns s i r) := by
  have n5 := D.1.2.1
  obtain ⟨h0, IH, IP, IW, IG, IR, IL, Io, IK⟩ := D
  rcases hr with ⟨p, f, t, n, hp, hf, ht, rfl⟩ | ⟨p, o, hp, ho, rfl⟩ | ⟨w, rfl⟩ | ⟨f, t, hf, ht, rfl⟩ | ⟨f, t, hf, ht, rfl⟩ | ⟨p, hp, rfl⟩
  · rw [fc_h0, fc_miss_2]
    have h1 : fc_sP s (if nI p ≠ 4 ∧ fc_get s 4 0 (4 * i + (nI p).toNatClampNeg) = 0 then fc_put s 5 0 (nI f).toNatClampNeg (nI (4 * i + (nI p).toNatClampNeg)) else s) ∧ fc_iK ns (if nI p ≠ 4 ∧ fc_get s 4 0 (4 * i + (nI p).toNatClampNeg) = 0 then fc_put s 5 0 (nI f).toNatClampNeg (nI (4 * i + (nI p).toNatClampNeg)) else s) ∧ fc_iO ns (if nI p ≠ 4 ∧ fc_get s 4 0 (4 * i + (nI p).toNatClampNeg) = 0 then fc_put s 5 0 (nI f).toNatClampNeg (nI (4 * i + (nI p).toNatClampNeg)) else s) := by
      split
      · next h =>
        obtain ⟨-, -, -, ⟨p0, h5, h5l, h5e⟩⟩ := id Io
        have hp4 : p ≠ 4 := fun e => h.1 (by rw [e]; rfl)
        have ep : fc_put s 5 0 (nI f).toNatClampNeg (nI (4 * i + (nI p).toNatClampNeg)) = fc_up s 5 [p0.set f (nI (4 * i + p))] := by
          rw [fc_put1 (row := p0) (by rw [h5]; rfl), h5, nI_clamp (by omega), nI_clamp (by omega)]
          rfl
        rw [ep]
        refine ⟨fc_sP.up _ (by omega), IK.same (fc_up_ne _ (by omega)), Io.up5 (by rw [List.length_set]; exact h5l) (fun x hx => ?_)⟩
        rcases List.mem_or_eq_of_mem_set hx with h | h
        · exact h5e x h
        · exact Or.inr ⟨4 * i + p, by omega, h⟩
      · exact ⟨fc_sP.id0, IK, Io⟩
    revert h1
    generalize (if nI p ≠ 4 ∧ fc_get s 4 0 (4 * i + (nI p).toNatClampNeg) = 0 then fc_put s 5 0 (nI f).toNatClampNeg (nI (4 * i + (nI p).toNatClampNeg)) else s) = s1
    rintro ⟨h1, IK1, Io1⟩
    refine h1.trans ?_
    unfold fc_mis2
    cases hx : fc_cix s1 (nI f) (nI t) with
    | none =>
      show fc_sP s1 (if _ then _ else _)
      split
      · exact fc_sP.flood _ _ _ _ _ _ n5
      · unfold fc_make fc_len
        split
        · exact fc_sP.id0
        · split
          · exact fc_sP.id0
          · refine fc_sP.trans (s' := fc_add s1 7 [nI f, nI t, 2, 0, 0, 0, 1, n]) (fc_sP.up _ (by omega)) ?_
            refine fc_sP.lay (f := nI f) (t := nI t) (st := 2) (wv := 0) (aw := 0) (ld := 0) (kp := 1) (kn := n) (way0 := []) ?_ (fc_way_lt n5 Io1 hf ht)
            rw [fc_add_same, List.getElem?_append_right (Nat.le_refl _), Nat.sub_self]
            rfl
    | some k =>
      have hk := fc_cix_some hx
      obtain ⟨f', t', l, st, wv, aw, kp, kn, way, hr, h1, h2, h4, h5, h6, h7, h8, h9⟩ := IK1.row hk
      show fc_sP s1 (if _ then _ else _)
      rw [fc_putk hr]
      split
      · refine (fc_sP.up _ (by omega)).trans (fc_sP.clr ?_)
        rw [fc_way_row (f := nI f') (t := nI t') (st := st) (wv := wv) (aw := aw) (ld := nI l) (kp := 1) (kn := n) (way := way) (by rw [fc_up_same, List.getElem?_set_self hk])]
        rw [← fc_way_row hr]
        exact IK1.way n5 k
      · exact fc_sP.up _ (by omega)
  · rw [fc_h1]
    obtain ⟨-, ⟨ot, h3, h3l, h3e⟩, ⟨mk, h4, h4l, h4e⟩, ⟨p0, h5, h5l, h5e⟩⟩ := id Io
    rw [nI_clamp (by omega), nI_clamp (by omega)]
    unfold fc_seen fc_len
    rw [h3, h4, h5]
    have Io' : fc_iO ns (fc_up (fc_up (fc_up s 4 [(mk.set (4 * i + p) 1).set o 1]) 3 [(ot.set (4 * i + p) (nI o)).set o (nI (4 * i + p))]) 5 [p0.map (fun x => if x = nI (4 * i + p) ∨ x = nI o then -1 else x)]) := by
      refine ((Io.up4 (by rw [List.length_set, List.length_set]; exact h4l) (am_set2 h4e (Or.inr rfl) (Or.inr rfl))).up3 (by rw [List.length_set, List.length_set]; exact h3l) (am_set2 h3e (Or.inr ⟨o, ho, rfl⟩) (Or.inr ⟨4 * i + p, by omega, rfl⟩))).up5 (by rw [List.length_map]; exact h5l) (fun x hx => ?_)
      obtain ⟨y, hy, rfl⟩ := List.mem_map.mp hx
      show fc_end ns (if y = nI (4 * i + p) ∨ y = nI o then -1 else y)
      split
      · exact Or.inl rfl
      · exact h5e y hy
    have e7 : (fc_up (fc_up (fc_up s 4 [(mk.set (4 * i + p) 1).set o 1]) 3 [(ot.set (4 * i + p) (nI o)).set o (nI (4 * i + p))]) 5 [p0.map (fun x => if x = nI (4 * i + p) ∨ x = nI o then -1 else x)]) 7 = s 7 := by rw [fc_up_ne _ (by omega), fc_up_ne _ (by omega), fc_up_ne _ (by omega)]
    exact (((fc_sP.up _ (by omega)).trans (fc_sP.up _ (by omega))).trans (fc_sP.up _ (by omega))).trans (fc_sP.hurt n5 (IK.same e7) Io' _ _ (by rw [e7]; exact Nat.le_refl _))
  · rw [fc_h2, fc_done_eq]
    cases hx : (s 7).findIdx? (fun r => r.getD 3 0 == w) with
    | none => exact fc_sP.id0
    | some k =>
      obtain ⟨hk, -, -⟩ := List.findIdx?_eq_some_iff_getElem.mp hx
      obtain ⟨f, t, l, st, wv, aw, kp, kn, way, hr, h1, h2, h4, h5, h6, h7, h8, h9⟩ := IK.row hk
      show fc_sP s (if _ then _ else if _ then (if _ then _ else _) else _)
      split
      · rw [fc_cnt_row hr]
        split
        · exact fc_sP.up _ (by omega)
        · split
          · exact fc_sP.up _ (by omega)
          · refine (fc_sP.up _ (by omega)).trans (fc_sP.lay (f := nI f) (t := nI t) (st := st) (wv := wv) (aw := aw - 1) (ld := nI l) (kp := kp) (kn := kn) (way0 := way) (by rw [fc_up_same, List.getElem?_set_self hk]) (fc_way_lt n5 Io h1 h2))
      · split
        · split
          · exact fc_sP.lead (IK.way n5 k)
          · exact fc_sP.fin (IK.way n5 k)
        · exact fc_sP.id0
  · rw [fc_h3]
    unfold fc_noroom
    cases hx : fc_cix s (nI f) (nI t) with
    | none => exact fc_sP.id0
    | some k =>
      have hk := fc_cix_some hx
      obtain ⟨f', t', l, st, wv, aw, kp, kn, way, hr, h1, h2, h4, h5, h6, h7, h8, h9⟩ := IK.row hk
      show fc_sP s (if _ then _ else _)
      split
      · rw [show fc_put s 7 k 6 0 = fc_up s 7 ((s 7).set k ([nI f', nI t', st, wv, aw, nI l, 0, kn] ++ way)) from fc_put_row hr 0]
        refine (fc_sP.up _ (by omega)).trans (fc_sP.clr ?_)
        rw [fc_way_row (f := nI f') (t := nI t') (st := st) (wv := wv) (aw := aw) (ld := nI l) (kp := 0) (kn := kn) (way := way) (by rw [fc_up_same, List.getElem?_set_self hk])]
        rw [← fc_way_row hr]
        exact IK.way n5 k
      · exact fc_sP.id0
  · rw [fc_h4]
    unfold fc_wentOff
    cases hx : fc_cix s (nI f) (nI t) with
    | none => exact fc_sP.id0
    | some k =>
      show fc_sP s (if _ then _ else _)
      split
      · exact fc_sP.clr (IK.way n5 k)
      · exact fc_sP.id0
  · rw [fc_h5]
    obtain ⟨-, ⟨ot, h3, h3l, h3e⟩, -⟩ := id Io
    unfold fc_down fc_len
    split
    · exact fc_sP.id0
    · rw [h3]
      refine (fc_sP.up _ (by omega)).trans (fc_sP.hurt n5 (IK.same (fc_up_ne _ (by omega))) (Io.up3 (by rw [List.length_set, List.length_set]; exact h3l) (am_set2 h3e (Or.inl rfl) (Or.inl rfl))) _ _ (by rw [fc_up_ne _ (by omega)]; exact Nat.le_refl _))
theorem fc_iU.report {s : fc_S} (D : fc_iD ns room s) (U : fc_iU ns s) (x : Int32) : fc_iU ns (fc_report ns s x).2 := by
  unfold fc_report
  split
  · next h =>
    have n5 := D.1.2.1
    rw [Bool.and_eq_true] at h
    obtain ⟨i, hi, rfl⟩ := fc_sw_nat n5 h.1
    have he := h.2
    rw [nI_clamp (by omega)] at he ⊢
    cases hr : s (40 + i) with
    | nil => rw [hr] at he; simp at he
    | cons r rest =>
    refine U.same n5 (fc_sP.trans (s' := fc_del s (40 + i) 0) (fc_sP.up _ (by omega)) ?_)
    exact fc_sP.hears (D.delL 0 (Or.inr ⟨by omega, by omega⟩)) hi ((D.2.2.2.2.2.2.1 i hi).2.2 r (by rw [hr]; exact List.mem_cons_self ..))
  · exact U
theorem fc_iU.zero (n5 : ns ≤ 5) : fc_iU ns (fc_0 ns) := fun e he => by
  have h : ∀ e, e < 4 * ns → fc_0 ns (100 + e) = [[-1, -1, 0]] := fun e he => by
    unfold fc_0
    rw [if_neg (show ¬ 100 + e = 0 by omega), if_neg (show ¬ 100 + e = 2 by omega), if_neg (show ¬ 100 + e = 3 by omega), if_neg (show ¬ 100 + e = 4 by omega), if_neg (show ¬ 100 + e = 5 by omega), if_pos (show 100 ≤ 100 + e ∧ 100 + e < 200 by omega)]
  unfold fc_get
  rw [h e he]
  exact ⟨fun _ => rfl, fun m hm z => absurd z.symm (cl_ix_ne (k := m) (by omega))⟩
end INS
