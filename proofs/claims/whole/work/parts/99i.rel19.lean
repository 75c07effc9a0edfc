/-! a MISS, a report: what they come to -/
section IOF
variable {ns room idle : Nat}
variable {own : Int32 → Int32 × Int32} {W : Nat}
theorem fc_any_or (p q : Int32 → Bool) : ∀ l : List Int32, (l.any p || l.any q) = l.any (fun x => p x || q x)
  | [] => rfl
  | x :: l => by
    rw [List.any_cons, List.any_cons, List.any_cons, ← fc_any_or p q l]
    cases p x <;> cases q x <;> cases l.any p <;> cases l.any q <;> rfl
theorem fz_J.place {s : fc_S} (J : fz_J own W ns room s) {f x : Nat} (hx : x < 4 * ns) : fz_J own W ns room (fc_put s 5 0 f (nI x)) := by
  have Io := J.1.2.2.2.2.2.2.2.1
  obtain ⟨-, -, -, ⟨p0, h5, h5l, h5e⟩⟩ := id Io
  have ep : fc_put s 5 0 f (nI x) = fc_up s 5 [p0.set f (nI x)] := by
    rw [fc_put1 (row := p0) (by rw [h5]; rfl), h5]
    rfl
  rw [ep]
  refine J.ctl (Io.up5 (by rw [List.length_set]; exact h5l) (fun y hy => ?_)) (fun c a b d => fc_up_ne _ d)
  rcases List.mem_or_eq_of_mem_set hy with h | h
  · exact h5e y h
  · exact Or.inr ⟨x, hx, h⟩
theorem fc_miss_a {s : fc_S} {i p f t : Nat} {nr : Int32} (hp : p < 1000) (hf : f < 1000) (h : ¬ (p ≠ 4 ∧ fc_get s 4 0 (4 * i + p) = 0)) : fc_miss ns s i (nI p) (nI f) (nI t) nr = fc_mis2 ns s i (nI p) (nI f) (nI t) nr := by
  rw [fc_miss_2, if_neg]
  rintro ⟨a, b⟩
  rw [nI_clamp (by omega)] at b
  exact h ⟨fun e => a (by rw [e]; rfl), b⟩
theorem fc_miss_b {s : fc_S} {i p f t : Nat} {nr : Int32} (hp : p < 1000) (hf : f < 1000) (h4 : p ≠ 4) (hm : fc_get s 4 0 (4 * i + p) = 0) : fc_miss ns s i (nI p) (nI f) (nI t) nr = fc_mis2 ns (fc_put s 5 0 f (nI (4 * i + p))) i (nI p) (nI f) (nI t) nr := by
  rw [fc_miss_2, if_pos, nI_clamp (by omega), nI_clamp (by omega)]
  refine ⟨fun e => h4 ((nI_eq (a := p) (b := 4) (by omega) (by omega)).mp e), ?_⟩
  rw [nI_clamp (by omega)]
  exact hm
theorem fc_mis2_some {s : fc_S} {i k : Nat} {port f t nr : Int32} {a b st wv aw ld kp kn : Int32} {way : List Int32} (hx : fc_cix s f t = some k) (hr : (s 7)[k]? = some ([a, b, st, wv, aw, ld, kp, kn] ++ way)) : fc_mis2 ns s i port f t nr = if st = 3 then fc_clr (fc_up s 7 ((s 7).set k ([a, b, st, wv, aw, ld, 1, nr] ++ way))) k else fc_up s 7 ((s 7).set k ([a, b, st, wv, aw, ld, 1, nr] ++ way)) := by
  unfold fc_mis2
  rw [hx]
  show (if _ then _ else _) = _
  rw [fc_putk hr, fc_get_row hr]
  rfl
theorem fc_mis2_flood {s : fc_S} {i t : Nat} {port f nr : Int32} (ht : t < 1000) (hx : fc_cix s f (nI t) = none) (h5 : fc_get s 5 0 t = -1) : fc_mis2 ns s i port f (nI t) nr = fc_flood s i port f (nI t) nr ns := by
  unfold fc_mis2
  rw [hx]
  show (if _ then _ else _) = _
  rw [nI_clamp (by omega), if_pos h5]
theorem fc_mis2_make {s : fc_S} {i t : Nat} {port f nr : Int32} (ht : t < 1000) (hx : fc_cix s f (nI t) = none) (h5 : ¬ fc_get s 5 0 t = -1) : fc_mis2 ns s i port f (nI t) nr = fc_make ns s f (nI t) nr := by
  unfold fc_mis2
  rw [hx]
  show (if _ then _ else _) = _
  rw [nI_clamp (by omega), if_neg h5]
theorem fc_make_full {s : fc_S} {f t nr : Int32} (h : 6 ≤ (s 7).length) : fc_make ns s f t nr = s := by unfold fc_make fc_len; rw [if_pos h]
theorem fc_make_no {s : fc_S} {f t nr : Int32} (h : (fc_wayOf ns s f t).isEmpty = true) : fc_make ns s f t nr = s := by
  unfold fc_make fc_len
  by_cases h6 : 6 ≤ (s 7).length
  · rw [if_pos h6]
  · rw [if_neg h6, if_pos h]
theorem fc_make_yes {s : fc_S} {f t nr : Int32} (h6 : ¬ 6 ≤ (s 7).length) (h : ¬ (fc_wayOf ns s f t).isEmpty = true) : fc_make ns s f t nr = fc_lay (fc_add s 7 [f, t, 2, 0, 0, 0, 1, nr]) (s 7).length (fc_wayOf ns s f t) := by unfold fc_make fc_len; rw [if_neg h6, if_neg h]
theorem fc_report_no {s : fc_S} {x : Int32} (h : fc_sw ns x = false) : fc_report ns s x = (-1, s) := by unfold fc_report; rw [h]; rfl
theorem fc_report_nil {s : fc_S} (n5 : ns ≤ 5) {i : Nat} (hi : i < ns) (h : fc_sw ns (nI i) = true) (hl : (s (40 + i)).length = 0) : fc_report ns s (nI i) = (-1, s) := by
  unfold fc_report
  rw [h, nI_clamp (by omega), List.eq_nil_of_length_eq_zero hl]
  rfl
theorem fc_report_eq {s : fc_S} (n5 : ns ≤ 5) {i : Nat} (hi : i < ns) (h : fc_sw ns (nI i) = true) {r : List Int32} {rest : List (List Int32)} (hr : s (40 + i) = r :: rest) : fc_report ns s (nI i) = (r.getD 0 0, fc_hears ns (fc_del s (40 + i) 0) i r) := by
  unfold fc_report fc_get
  rw [h, nI_clamp (by omega), hr]
  rfl
theorem fc_report_1 {s : fc_S} (n5 : ns ≤ 5) {i : Nat} (hi : i < ns) (h : fc_sw ns (nI i) = true) {r : List Int32} {rest : List (List Int32)} (hr : s (40 + i) = r :: rest) : (fc_report ns s (nI i)).1 = r.getD 0 0 := by rw [fc_report_eq n5 hi h hr]
theorem fc_report_2 {s : fc_S} (n5 : ns ≤ 5) {i : Nat} (hi : i < ns) (h : fc_sw ns (nI i) = true) {r : List Int32} {rest : List (List Int32)} (hr : s (40 + i) = r :: rest) : (fc_report ns s (nI i)).2 = fc_hears ns (fc_del s (40 + i) 0) i r := by rw [fc_report_eq n5 hi h hr]
theorem fc_noroom_none {s : fc_S} {f t : Int32} (h : fc_cix s f t = none) : fc_noroom s f t = s := by unfold fc_noroom; rw [h]
theorem fc_noroom_some {s : fc_S} {k : Nat} {f t a b st wv aw ld kp kn : Int32} {way : List Int32} (h : fc_cix s f t = some k) (hr : (s 7)[k]? = some ([a, b, st, wv, aw, ld, kp, kn] ++ way)) : fc_noroom s f t = if st = 2 then fc_clr (fc_up s 7 ((s 7).set k ([a, b, st, wv, aw, ld, 0, kn] ++ way))) k else s := by
  unfold fc_noroom
  rw [h]
  show (if _ then _ else _) = _
  rw [fc_put_row hr, fc_get_row hr]
  rfl
theorem fc_off_none {s : fc_S} {i : Nat} {f t : Int32} (h : fc_cix s f t = none) : fc_wentOff s i f t = s := by unfold fc_wentOff; rw [h]
theorem fc_off_some {s : fc_S} {i k : Nat} {f t a b st wv aw ld kp kn : Int32} {way : List Int32} (h : fc_cix s f t = some k) (hr : (s 7)[k]? = some ([a, b, st, wv, aw, ld, kp, kn] ++ way)) (hs : st = 1 ∨ st = 2 ∨ st = 3) : fc_wentOff s i f t = if ¬ st = 1 ∧ way.any (fun e => e.toNatClampNeg / 4 == i) = true then fc_clr s k else s := by
  unfold fc_wentOff
  rw [h]
  show (if _ then _ else _) = _
  rw [fc_way_row hr, fc_get_row hr]
  have e : (st = 2 ∨ st = 3) ↔ ¬ st = 1 := ⟨fun z e => by subst e; rcases z with z | z <;> revert z <;> decide, fun z => hs.resolve_left z⟩
  by_cases q : ¬ st = 1 ∧ way.any (fun e => e.toNatClampNeg / 4 == i) = true
  · rw [if_pos q]
    exact if_pos ⟨e.mpr q.1, q.2⟩
  · rw [if_neg q]
    exact if_neg (fun z => q ⟨e.mp z.1, z.2⟩)
theorem fc_down_no {s : fc_S} {q : Nat} (h : fc_get s 3 0 q = -1) : fc_down s q = s := by unfold fc_down; rw [if_pos h]
theorem fc_down_yes {s : fc_S} {q o : Nat} {ot : List Int32} (h3 : s 3 = [ot]) (h : fc_get s 3 0 q = nI o) (ho : o < 1000) : fc_down s q = fc_hurt (fc_up s 3 [(ot.set q (-1)).set o (-1)]) (fun w => w.any (fun x => x == nI q) || w.any (fun x => x == nI o)) (s 7).length := by
  unfold fc_down fc_len
  rw [h, if_neg (cl_ix_ne (by omega)), nI_clamp (by omega), h3]
  rfl
end IOF
