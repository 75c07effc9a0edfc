/-! how the reference's numbers move with the rows: wires, guards, rules, hosts, ports -/
section INO
variable {ns room idle : Nat}
def fr_wadd (r : fr_S) (e n : Nat) (x0 x1 x2 : Int32) : fr_S := fr_up (fr_up (fr_up (fr_up r 13 (18 * e + 3 * n) x0) 13 (18 * e + 3 * n + 1) x1) 13 (18 * e + 3 * n + 2) x2) 12 e (nI (n + 1))
theorem fr_wadd_13 {r : fr_S} {e n : Nat} {x0 x1 x2 : Int32} (i : Nat) : (fr_wadd r e n x0 x1 x2).2 13 i = if i = 18 * e + 3 * n + 2 then x2 else if i = 18 * e + 3 * n + 1 then x1 else if i = 18 * e + 3 * n then x0 else r.2 13 i := by
  unfold fr_wadd
  rw [fr_up_ne (by decide), fr_up_hit, fr_up_hit, fr_up_hit]
theorem fr_wadd_12 {r : fr_S} {e n : Nat} {x0 x1 x2 : Int32} (i : Nat) : (fr_wadd r e n x0 x1 x2).2 12 i = if i = e then nI (n + 1) else r.2 12 i := by
  unfold fr_wadd
  rw [fr_up_hit, fr_up_ne (by decide), fr_up_ne (by decide), fr_up_ne (by decide)]
theorem fr_rW.add {s : fc_S} {r : fr_S} (h : fr_rW ns s (r.2 12) (r.2 13)) (IW : ∀ e, e < 4 * ns → (s (200 + e)).length ≤ 6) {e : Nat} (he : e < 4 * ns) (h6 : (s (200 + e)).length < 6) (x0 x1 x2 : Int32) : fr_rW ns (fc_add s (200 + e) [x0, x1, x2]) ((fr_wadd r e (s (200 + e)).length x0 x1 x2).2 12) ((fr_wadd r e (s (200 + e)).length x0 x1 x2).2 13) := by
  intro l hl
  by_cases q : l = e
  · subst q
    rw [fc_add_same]
    refine ⟨by rw [fr_wadd_12, if_pos rfl, List.length_append, List.length_singleton], fun k row' hr j hj => ?_⟩
    refine fr_t_add (ix := fun k => 18 * l + 3 * k + j) (g := fun row => row.getD j 0) (fun k r' hr => (h l hl).2 k r' hr j hj) (fun k hk => ?_) ?_ k row' hr
    · rw [fr_wadd_13, if_neg (by omega), if_neg (by omega), if_neg (by omega)]
    · rw [fr_wadd_13]
      show _ = [x0, x1, x2].getD j 0
      rcases (show j = 0 ∨ j = 1 ∨ j = 2 by omega) with rfl | rfl | rfl
      · rw [if_neg (by omega), if_neg (by omega), if_pos (by omega)]; rfl
      · rw [if_neg (by omega), if_pos (by omega)]; rfl
      · rw [if_pos (by omega)]; rfl
  · rw [fc_add_ne _ (by omega)]
    refine ⟨by rw [fr_wadd_12, if_neg q]; exact (h l hl).1, fun k row' hr j hj => ?_⟩
    have hk := (List.getElem?_eq_some_iff.mp hr).1
    have := IW l hl
    rw [fr_wadd_13, if_neg (by omega), if_neg (by omega), if_neg (by omega)]
    exact (h l hl).2 k row' hr j hj
def fr_wdel (r : fr_S) (e n : Nat) : fr_S := fr_sh (fr_up r 12 e (nI (n - 1))) [13] (18 * e) (3 * (n - 1)) 3
theorem fr_wdel_13 {r : fr_S} {e n : Nat} (i : Nat) : (fr_wdel r e n).2 13 i = if 18 * e ≤ i ∧ i < 18 * e + 3 * (n - 1) then r.2 13 (i + 3) else r.2 13 i := by
  have hb : ∀ j, (fr_up r 12 e (nI (n - 1))).2 13 j = r.2 13 j := fun j => by rw [fr_up_ne (by decide)]
  unfold fr_wdel
  rw [fr_sh_at, hb, hb]
  by_cases q : 18 * e ≤ i ∧ i < 18 * e + 3 * (n - 1)
  · rw [if_pos ⟨by decide, q⟩, if_pos q]
  · rw [if_neg (fun z => q z.2), if_neg q]
theorem fr_wdel_12 {r : fr_S} {e n : Nat} (i : Nat) : (fr_wdel r e n).2 12 i = if i = e then nI (n - 1) else r.2 12 i := by
  unfold fr_wdel
  rw [fr_sh_not (by decide), fr_up_hit]
theorem fr_len0 (rows : List (List Int32)) : (rows.eraseIdx 0).length = rows.length - 1 := by
  rw [List.length_eraseIdx]
  split <;> omega
theorem fr_rW.del {s : fc_S} {r : fr_S} (h : fr_rW ns s (r.2 12) (r.2 13)) (IW : ∀ e, e < 4 * ns → (s (200 + e)).length ≤ 6) {e : Nat} (he : e < 4 * ns) : fr_rW ns (fc_del s (200 + e) 0) ((fr_wdel r e (s (200 + e)).length).2 12) ((fr_wdel r e (s (200 + e)).length).2 13) := by
  intro l hl
  by_cases q : l = e
  · subst q
    rw [fc_del_same]
    refine ⟨by rw [fr_wdel_12, if_pos rfl, fr_len0], fun k row' hr j hj => ?_⟩
    refine fr_t_del (ix := fun k => 18 * l + 3 * k + j) (k0 := 0) (g := fun row => row.getD j 0) (fun k r' hr => (h l hl).2 k r' hr j hj) (fun k hk => by omega) (fun k _ hk => ?_) k row' hr
    rw [fr_wdel_13, if_pos (by omega)]
    show r.2 13 (18 * l + 3 * k + j + 3) = r.2 13 (18 * l + 3 * (k + 1) + j)
    rw [show 18 * l + 3 * k + j + 3 = 18 * l + 3 * (k + 1) + j by omega]
  · rw [fc_del_ne _ (by omega)]
    refine ⟨by rw [fr_wdel_12, if_neg q]; exact (h l hl).1, fun k row' hr j hj => ?_⟩
    have hk := (List.getElem?_eq_some_iff.mp hr).1
    have := IW l hl
    have := IW e he
    rw [fr_wdel_13, if_neg (by omega)]
    exact (h l hl).2 k row' hr j hj
theorem fr_rW.clr {s : fc_S} {r : fr_S} (h : fr_rW ns s (r.2 12) (r.2 13)) (e : Nat) : fr_rW ns (fc_up s (200 + e) []) ((fr_up r 12 e (nI 0)).2 12) ((fr_up r 12 e (nI 0)).2 13) := by
  intro l hl
  rw [fr_up_hit, fr_up_ne (show 13 ≠ 12 by decide)]
  by_cases q : l = e
  · subst q
    rw [fc_up_same, if_pos rfl]
    exact ⟨rfl, fun k row hr => by cases hr⟩
  · rw [fc_up_ne _ (by omega), if_neg q]
    exact h l hl
/-! guards -/
def fr_gadd (r : fr_S) (i n : Nat) (p m v : Int32) : fr_S := fr_up (fr_up (fr_up (fr_up (fr_up r 15 (4 * i + n) p) 16 (4 * i + n) m) 17 (4 * i + n) v) 18 (4 * i + n) (nI 0)) 14 i (nI (n + 1))
def fr_gdel (r : fr_S) (i n k : Nat) : fr_S := fr_sh (fr_up r 14 i (nI (n - 1))) [15, 16, 17, 18] (4 * i + k) (n - 1 - k) 1
theorem fr_gadd_at {r : fr_S} {i n : Nat} {p m v : Int32} (j : Nat) : (fr_gadd r i n p m v).2 14 j = (if j = i then nI (n + 1) else r.2 14 j) ∧ (fr_gadd r i n p m v).2 15 j = (if j = 4 * i + n then p else r.2 15 j) ∧ (fr_gadd r i n p m v).2 16 j = (if j = 4 * i + n then m else r.2 16 j) ∧ (fr_gadd r i n p m v).2 17 j = (if j = 4 * i + n then v else r.2 17 j) ∧ (fr_gadd r i n p m v).2 18 j = (if j = 4 * i + n then nI 0 else r.2 18 j) := by
  unfold fr_gadd
  refine ⟨?_, ?_, ?_, ?_, ?_⟩
  · rw [fr_up_hit, fr_up_ne (by decide), fr_up_ne (by decide), fr_up_ne (by decide), fr_up_ne (by decide)]
  · rw [fr_up_ne (by decide), fr_up_ne (by decide), fr_up_ne (by decide), fr_up_ne (by decide), fr_up_hit]
  · rw [fr_up_ne (by decide), fr_up_ne (by decide), fr_up_ne (by decide), fr_up_hit, fr_up_ne (by decide)]
  · rw [fr_up_ne (by decide), fr_up_ne (by decide), fr_up_hit, fr_up_ne (by decide), fr_up_ne (by decide)]
  · rw [fr_up_ne (by decide), fr_up_hit, fr_up_ne (by decide), fr_up_ne (by decide), fr_up_ne (by decide)]
theorem fr_sh_hit {r : fr_S} {fs : List Nat} {lo m dd q : Nat} (hq : q ∈ fs) (j : Nat) : (fr_sh r fs lo m dd).2 q j = if lo ≤ j ∧ j < lo + m then r.2 q (j + dd) else r.2 q j := by
  rw [fr_sh_at]
  by_cases e : lo ≤ j ∧ j < lo + m
  · rw [if_pos ⟨hq, e⟩, if_pos e]
  · rw [if_neg (fun z => e z.2), if_neg e]
theorem fr_rG.add {s : fc_S} {r : fr_S} (h : fr_rG ns s (r.2 14) (r.2 15) (r.2 16) (r.2 17) (r.2 18)) (IG : ∀ i, i < ns → (s (10 + i)).length ≤ 4) {i : Nat} (hi : i < ns) (h4 : (s (10 + i)).length < 4) (p m v : Int32) : fr_rG ns (fc_add s (10 + i) [p, m, v, 0]) ((fr_gadd r i (s (10 + i)).length p m v).2 14) ((fr_gadd r i (s (10 + i)).length p m v).2 15) ((fr_gadd r i (s (10 + i)).length p m v).2 16) ((fr_gadd r i (s (10 + i)).length p m v).2 17) ((fr_gadd r i (s (10 + i)).length p m v).2 18) := by
  intro l hl
  obtain ⟨h0, h1⟩ := h l hl
  by_cases q : l = i
  · subst q
    rw [fc_add_same]
    refine ⟨by rw [fr_gadd_at _ |>.1, if_pos rfl, List.length_append, List.length_singleton], fun k row hr => ⟨?_, ?_, ?_, ?_⟩⟩
    · exact fr_t_add (ix := fun k => 4 * l + k) (g := fun row => row.getD 0 0) (fun k r' hr => (h1 k r' hr).1) (fun k hk => by rw [(fr_gadd_at _).2.1, if_neg (by omega)]) (by rw [(fr_gadd_at _).2.1, if_pos rfl]; rfl) k row hr
    · exact fr_t_add (ix := fun k => 4 * l + k) (g := fun row => row.getD 1 0) (fun k r' hr => (h1 k r' hr).2.1) (fun k hk => by rw [(fr_gadd_at _).2.2.1, if_neg (by omega)]) (by rw [(fr_gadd_at _).2.2.1, if_pos rfl]; rfl) k row hr
    · exact fr_t_add (ix := fun k => 4 * l + k) (g := fun row => row.getD 2 0) (fun k r' hr => (h1 k r' hr).2.2.1) (fun k hk => by rw [(fr_gadd_at _).2.2.2.1, if_neg (by omega)]) (by rw [(fr_gadd_at _).2.2.2.1, if_pos rfl]; rfl) k row hr
    · exact fr_t_add (ix := fun k => 4 * l + k) (g := fun row => row.getD 3 0) (fun k r' hr => (h1 k r' hr).2.2.2) (fun k hk => by rw [(fr_gadd_at _).2.2.2.2, if_neg (by omega)]) (by rw [(fr_gadd_at _).2.2.2.2, if_pos rfl]; rfl) k row hr
  · rw [fc_add_ne _ (by omega)]
    refine ⟨by rw [(fr_gadd_at _).1, if_neg q]; exact h0, fun k row hr => ?_⟩
    have hk := (List.getElem?_eq_some_iff.mp hr).1
    have := IG l hl
    rw [(fr_gadd_at _).2.1, (fr_gadd_at _).2.2.1, (fr_gadd_at _).2.2.2.1, (fr_gadd_at _).2.2.2.2, if_neg (by omega), if_neg (by omega), if_neg (by omega), if_neg (by omega)]
    exact h1 k row hr
theorem fr_gdel_at {r : fr_S} {i n k q : Nat} (hq : q ∈ [15, 16, 17, 18]) (j : Nat) : (fr_gdel r i n k).2 q j = if 4 * i + k ≤ j ∧ j < 4 * i + k + (n - 1 - k) then r.2 q (j + 1) else r.2 q j := by
  unfold fr_gdel
  have hne : q ≠ 14 := fun e => by subst e; exact absurd hq (by decide)
  have hb : ∀ j, (fr_up r 14 i (nI (n - 1))).2 q j = r.2 q j := fun j => by rw [fr_up_ne hne]
  rw [fr_sh_hit hq, hb, hb]
theorem fr_rG.del {s : fc_S} {r : fr_S} (h : fr_rG ns s (r.2 14) (r.2 15) (r.2 16) (r.2 17) (r.2 18)) (IG : ∀ i, i < ns → (s (10 + i)).length ≤ 4) {i k0 : Nat} (hi : i < ns) (hk : k0 < (s (10 + i)).length) : fr_rG ns (fc_del s (10 + i) k0) ((fr_gdel r i (s (10 + i)).length k0).2 14) ((fr_gdel r i (s (10 + i)).length k0).2 15) ((fr_gdel r i (s (10 + i)).length k0).2 16) ((fr_gdel r i (s (10 + i)).length k0).2 17) ((fr_gdel r i (s (10 + i)).length k0).2 18) := by
  intro l hl
  obtain ⟨h0, h1⟩ := h l hl
  have e14 : ∀ j, (fr_gdel r i (s (10 + i)).length k0).2 14 j = if j = i then nI ((s (10 + i)).length - 1) else r.2 14 j := fun j => by
    unfold fr_gdel
    rw [fr_sh_not (by decide), fr_up_hit]
  by_cases q : l = i
  · subst q
    rw [fc_del_same]
    have key : ∀ (f : Nat) (g : List Int32 → Int32), f ∈ [15, 16, 17, 18] → (∀ (k : Nat) (row : List Int32), (s (10 + l))[k]? = some row → r.2 f (4 * l + k) = g row) → ∀ (k : Nat) (row : List Int32), ((s (10 + l)).eraseIdx k0)[k]? = some row → (fr_gdel r l (s (10 + l)).length k0).2 f (4 * l + k) = g row := fun f g hf hh => fr_t_del (ix := fun k => 4 * l + k) (a := r.2 f) hh (fun k hk hk2 => by rw [fr_gdel_at hf, if_neg (by omega)]) (fun k hk hk2 => by
      rw [fr_gdel_at hf, if_pos (by omega)]
      rfl)
    refine ⟨by rw [e14, if_pos rfl, List.length_eraseIdx, if_pos hk], fun k row hr => ⟨?_, ?_, ?_, ?_⟩⟩
    · exact key 15 (fun row => row.getD 0 0) (by decide) (fun k r' hr => (h1 k r' hr).1) k row hr
    · exact key 16 (fun row => row.getD 1 0) (by decide) (fun k r' hr => (h1 k r' hr).2.1) k row hr
    · exact key 17 (fun row => row.getD 2 0) (by decide) (fun k r' hr => (h1 k r' hr).2.2.1) k row hr
    · exact key 18 (fun row => row.getD 3 0) (by decide) (fun k r' hr => (h1 k r' hr).2.2.2) k row hr
  · rw [fc_del_ne _ (by omega)]
    refine ⟨by rw [e14, if_neg q]; exact h0, fun k row hr => ?_⟩
    have hk' := (List.getElem?_eq_some_iff.mp hr).1
    have := IG l hl
    have := IG i hi
    rw [fr_gdel_at (by decide), fr_gdel_at (by decide), fr_gdel_at (by decide), fr_gdel_at (by decide), if_neg (by omega), if_neg (by omega), if_neg (by omega), if_neg (by omega)]
    exact h1 k row hr
theorem fr_rG.hit {s : fc_S} {r : fr_S} (h : fr_rG ns s (r.2 14) (r.2 15) (r.2 16) (r.2 17) (r.2 18)) (IG : ∀ i, i < ns → (s (10 + i)).length ≤ 4) {i k0 : Nat} (hi : i < ns) (x : Int32) {p m v y : Int32} (hr0 : (s (10 + i))[k0]? = some [p, m, v, y]) : fr_rG ns (fc_up s (10 + i) ((s (10 + i)).set k0 [p, m, v, x])) ((fr_up r 18 (4 * i + k0) x).2 14) ((fr_up r 18 (4 * i + k0) x).2 15) ((fr_up r 18 (4 * i + k0) x).2 16) ((fr_up r 18 (4 * i + k0) x).2 17) ((fr_up r 18 (4 * i + k0) x).2 18) := by
  intro l hl
  obtain ⟨h0, h1⟩ := h l hl
  have hk0 := (List.getElem?_eq_some_iff.mp hr0).1
  rw [fr_up_ne (show 14 ≠ 18 by decide), fr_up_ne (show 15 ≠ 18 by decide), fr_up_ne (show 16 ≠ 18 by decide), fr_up_ne (show 17 ≠ 18 by decide)]
  by_cases q : l = i
  · subst q
    rw [fc_up_same]
    refine ⟨by rw [List.length_set]; exact h0, fun k row hr => ⟨?_, ?_, ?_, ?_⟩⟩
    · exact fr_t_set (ix := fun k => 4 * l + k) (row := [p, m, v, x]) (g := fun row => row.getD 0 0) (fun k r' hr => (h1 k r' hr).1) (fun _ _ _ => rfl) (fun _ => (h1 k0 _ hr0).1) k row hr
    · exact fr_t_set (ix := fun k => 4 * l + k) (row := [p, m, v, x]) (g := fun row => row.getD 1 0) (fun k r' hr => (h1 k r' hr).2.1) (fun _ _ _ => rfl) (fun _ => (h1 k0 _ hr0).2.1) k row hr
    · exact fr_t_set (ix := fun k => 4 * l + k) (row := [p, m, v, x]) (g := fun row => row.getD 2 0) (fun k r' hr => (h1 k r' hr).2.2.1) (fun _ _ _ => rfl) (fun _ => (h1 k0 _ hr0).2.2.1) k row hr
    · exact fr_t_set (ix := fun k => 4 * l + k) (a := r.2 18) (g := fun row => row.getD 3 0) (fun k r' hr => (h1 k r' hr).2.2.2) (fun k hk _ => by rw [fr_up_hit, if_neg (by omega)]) (fun _ => by rw [fr_up_hit, if_pos rfl]; rfl) k row hr
  · rw [fc_up_ne _ (by omega)]
    refine ⟨h0, fun k row hr => ?_⟩
    have hk := (List.getElem?_eq_some_iff.mp hr).1
    have := IG l hl
    have := IG i hi
    rw [fr_up_hit, if_neg (by omega)]
    exact h1 k row hr
/-! rules -/
def fr_radd (r : fr_S) (i n : Nat) (pair p now : Int32) : fr_S := fr_up (fr_up (fr_up (fr_up (fr_up (fr_up r 20 (8 * i + n) pair) 21 (8 * i + n) p) 22 (8 * i + n) (nI 0)) 23 (8 * i + n) now) 24 (8 * i + n) now) 19 i (nI (n + 1))
theorem fr_radd_at {r : fr_S} {i n : Nat} {pair p now : Int32} (j : Nat) : (fr_radd r i n pair p now).2 19 j = (if j = i then nI (n + 1) else r.2 19 j) ∧ (fr_radd r i n pair p now).2 20 j = (if j = 8 * i + n then pair else r.2 20 j) ∧ (fr_radd r i n pair p now).2 21 j = (if j = 8 * i + n then p else r.2 21 j) ∧ (fr_radd r i n pair p now).2 22 j = (if j = 8 * i + n then nI 0 else r.2 22 j) ∧ (fr_radd r i n pair p now).2 23 j = (if j = 8 * i + n then now else r.2 23 j) ∧ (fr_radd r i n pair p now).2 24 j = (if j = 8 * i + n then now else r.2 24 j) := by
  unfold fr_radd
  refine ⟨?_, ?_, ?_, ?_, ?_, ?_⟩
  · rw [fr_up_hit, fr_up_ne (by decide), fr_up_ne (by decide), fr_up_ne (by decide), fr_up_ne (by decide), fr_up_ne (by decide)]
  · rw [fr_up_ne (by decide), fr_up_ne (by decide), fr_up_ne (by decide), fr_up_ne (by decide), fr_up_ne (by decide), fr_up_hit]
  · rw [fr_up_ne (by decide), fr_up_ne (by decide), fr_up_ne (by decide), fr_up_ne (by decide), fr_up_hit, fr_up_ne (by decide)]
  · rw [fr_up_ne (by decide), fr_up_ne (by decide), fr_up_ne (by decide), fr_up_hit, fr_up_ne (by decide), fr_up_ne (by decide)]
  · rw [fr_up_ne (by decide), fr_up_ne (by decide), fr_up_hit, fr_up_ne (by decide), fr_up_ne (by decide), fr_up_ne (by decide)]
  · rw [fr_up_ne (by decide), fr_up_hit, fr_up_ne (by decide), fr_up_ne (by decide), fr_up_ne (by decide), fr_up_ne (by decide)]
theorem fr_rR.add {s : fc_S} {r : fr_S} (h : fr_rR ns s (r.2 19) (r.2 20) (r.2 21) (r.2 22) (r.2 23) (r.2 24)) (IR : ∀ i, i < ns → (s (20 + i)).length ≤ 8) {i : Nat} (hi : i < ns) (h8 : (s (20 + i)).length < 8) (f t p now : Int32) : fr_rR ns (fc_add s (20 + i) [f, t, p, now, now, 0]) ((fr_radd r i (s (20 + i)).length (nI 6 * f + t) p now).2 19) ((fr_radd r i (s (20 + i)).length (nI 6 * f + t) p now).2 20) ((fr_radd r i (s (20 + i)).length (nI 6 * f + t) p now).2 21) ((fr_radd r i (s (20 + i)).length (nI 6 * f + t) p now).2 22) ((fr_radd r i (s (20 + i)).length (nI 6 * f + t) p now).2 23) ((fr_radd r i (s (20 + i)).length (nI 6 * f + t) p now).2 24) := by
  intro l hl
  obtain ⟨h0, h1⟩ := h l hl
  by_cases q : l = i
  · subst q
    rw [fc_add_same]
    refine ⟨by rw [fr_radd_at _ |>.1, if_pos rfl, List.length_append, List.length_singleton], fun k row hr => ⟨?_, ?_, ?_, ?_, ?_⟩⟩
    · exact fr_t_add (ix := fun k => 8 * l + k) (g := fun row => nI 6 * row.getD 0 0 + row.getD 1 0) (fun k r' hr => (h1 k r' hr).1) (fun k hk => by rw [(fr_radd_at _).2.1, if_neg (by omega)]) (by rw [(fr_radd_at _).2.1, if_pos rfl]; rfl) k row hr
    · exact fr_t_add (ix := fun k => 8 * l + k) (g := fun row => row.getD 2 0) (fun k r' hr => (h1 k r' hr).2.1) (fun k hk => by rw [(fr_radd_at _).2.2.1, if_neg (by omega)]) (by rw [(fr_radd_at _).2.2.1, if_pos rfl]; rfl) k row hr
    · exact fr_t_add (ix := fun k => 8 * l + k) (g := fun row => row.getD 5 0) (fun k r' hr => (h1 k r' hr).2.2.1) (fun k hk => by rw [(fr_radd_at _).2.2.2.1, if_neg (by omega)]) (by rw [(fr_radd_at _).2.2.2.1, if_pos rfl]; rfl) k row hr
    · exact fr_t_add (ix := fun k => 8 * l + k) (g := fun row => row.getD 3 0) (fun k r' hr => (h1 k r' hr).2.2.2.1) (fun k hk => by rw [(fr_radd_at _).2.2.2.2.1, if_neg (by omega)]) (by rw [(fr_radd_at _).2.2.2.2.1, if_pos rfl]; rfl) k row hr
    · exact fr_t_add (ix := fun k => 8 * l + k) (g := fun row => row.getD 4 0) (fun k r' hr => (h1 k r' hr).2.2.2.2) (fun k hk => by rw [(fr_radd_at _).2.2.2.2.2, if_neg (by omega)]) (by rw [(fr_radd_at _).2.2.2.2.2, if_pos rfl]; rfl) k row hr
  · rw [fc_add_ne _ (by omega)]
    refine ⟨by rw [(fr_radd_at _).1, if_neg q]; exact h0, fun k row hr => ?_⟩
    have hk := (List.getElem?_eq_some_iff.mp hr).1
    have := IR l hl
    rw [(fr_radd_at _).2.1, (fr_radd_at _).2.2.1, (fr_radd_at _).2.2.2.1, (fr_radd_at _).2.2.2.2.1, (fr_radd_at _).2.2.2.2.2, if_neg (by omega), if_neg (by omega), if_neg (by omega), if_neg (by omega), if_neg (by omega)]
    exact h1 k row hr
theorem fr_rmr_at {r : fr_S} {i n k q : Nat} (hq : q ∈ [20, 21, 22, 23, 24]) (j : Nat) : (fr_rmr r i n k).2 q j = if 8 * i + k ≤ j ∧ j < 8 * i + k + (n - 1 - k) then r.2 q (j + 1) else r.2 q j := by
  unfold fr_rmr
  have hne : q ≠ 19 := fun e => by subst e; exact absurd hq (by decide)
  have hb : ∀ j, (fr_up r 19 i (nI (n - 1))).2 q j = r.2 q j := fun j => by rw [fr_up_ne hne]
  rw [fr_sh_hit hq, hb, hb]
theorem fr_rR.del {s : fc_S} {r : fr_S} (h : fr_rR ns s (r.2 19) (r.2 20) (r.2 21) (r.2 22) (r.2 23) (r.2 24)) (IR : ∀ i, i < ns → (s (20 + i)).length ≤ 8) {i k0 : Nat} (hi : i < ns) (hk : k0 < (s (20 + i)).length) : fr_rR ns (fc_del s (20 + i) k0) ((fr_rmr r i (s (20 + i)).length k0).2 19) ((fr_rmr r i (s (20 + i)).length k0).2 20) ((fr_rmr r i (s (20 + i)).length k0).2 21) ((fr_rmr r i (s (20 + i)).length k0).2 22) ((fr_rmr r i (s (20 + i)).length k0).2 23) ((fr_rmr r i (s (20 + i)).length k0).2 24) := by
  intro l hl
  obtain ⟨h0, h1⟩ := h l hl
  have e19 : ∀ j, (fr_rmr r i (s (20 + i)).length k0).2 19 j = if j = i then nI ((s (20 + i)).length - 1) else r.2 19 j := fun j => by
    unfold fr_rmr
    rw [fr_sh_not (by decide), fr_up_hit]
  by_cases q : l = i
  · subst q
    rw [fc_del_same]
    have key : ∀ (f : Nat) (g : List Int32 → Int32), f ∈ [20, 21, 22, 23, 24] → (∀ (k : Nat) (row : List Int32), (s (20 + l))[k]? = some row → r.2 f (8 * l + k) = g row) → ∀ (k : Nat) (row : List Int32), ((s (20 + l)).eraseIdx k0)[k]? = some row → (fr_rmr r l (s (20 + l)).length k0).2 f (8 * l + k) = g row := fun f g hf hh => fr_t_del (ix := fun k => 8 * l + k) (a := r.2 f) hh (fun k hk hk2 => by rw [fr_rmr_at hf, if_neg (by omega)]) (fun k hk hk2 => by
      rw [fr_rmr_at hf, if_pos (by omega)]
      rfl)
    refine ⟨by rw [e19, if_pos rfl, List.length_eraseIdx, if_pos hk], fun k row hr => ⟨?_, ?_, ?_, ?_, ?_⟩⟩
    · exact key 20 (fun row => nI 6 * row.getD 0 0 + row.getD 1 0) (by decide) (fun k r' hr => (h1 k r' hr).1) k row hr
    · exact key 21 (fun row => row.getD 2 0) (by decide) (fun k r' hr => (h1 k r' hr).2.1) k row hr
    · exact key 22 (fun row => row.getD 5 0) (by decide) (fun k r' hr => (h1 k r' hr).2.2.1) k row hr
    · exact key 23 (fun row => row.getD 3 0) (by decide) (fun k r' hr => (h1 k r' hr).2.2.2.1) k row hr
    · exact key 24 (fun row => row.getD 4 0) (by decide) (fun k r' hr => (h1 k r' hr).2.2.2.2) k row hr
  · rw [fc_del_ne _ (by omega)]
    refine ⟨by rw [e19, if_neg q]; exact h0, fun k row hr => ?_⟩
    have hk' := (List.getElem?_eq_some_iff.mp hr).1
    have := IR l hl
    have := IR i hi
    rw [fr_rmr_at (by decide), fr_rmr_at (by decide), fr_rmr_at (by decide), fr_rmr_at (by decide), fr_rmr_at (by decide), if_neg (by omega), if_neg (by omega), if_neg (by omega), if_neg (by omega), if_neg (by omega)]
    exact h1 k row hr
theorem fr_rR.use {s : fc_S} {r : fr_S} (h : fr_rR ns s (r.2 19) (r.2 20) (r.2 21) (r.2 22) (r.2 23) (r.2 24)) (IR : ∀ i, i < ns → (s (20 + i)).length ≤ 8) {i k0 : Nat} (hi : i < ns) (x now : Int32) {f t p m y u : Int32} (hr0 : (s (20 + i))[k0]? = some [f, t, p, m, y, u]) : fr_rR ns (fc_up s (20 + i) ((s (20 + i)).set k0 [f, t, p, m, now, x])) ((fr_up (fr_up r 22 (8 * i + k0) x) 24 (8 * i + k0) now).2 19) ((fr_up (fr_up r 22 (8 * i + k0) x) 24 (8 * i + k0) now).2 20) ((fr_up (fr_up r 22 (8 * i + k0) x) 24 (8 * i + k0) now).2 21) ((fr_up (fr_up r 22 (8 * i + k0) x) 24 (8 * i + k0) now).2 22) ((fr_up (fr_up r 22 (8 * i + k0) x) 24 (8 * i + k0) now).2 23) ((fr_up (fr_up r 22 (8 * i + k0) x) 24 (8 * i + k0) now).2 24) := by
  intro l hl
  obtain ⟨h0, h1⟩ := h l hl
  have hk0 := (List.getElem?_eq_some_iff.mp hr0).1
  rw [fr_up_ne (show 19 ≠ 24 by decide), fr_up_ne (show 20 ≠ 24 by decide), fr_up_ne (show 21 ≠ 24 by decide), fr_up_ne (show 22 ≠ 24 by decide), fr_up_ne (show 23 ≠ 24 by decide), fr_up_ne (show 19 ≠ 22 by decide), fr_up_ne (show 20 ≠ 22 by decide), fr_up_ne (show 21 ≠ 22 by decide), fr_up_ne (show 23 ≠ 22 by decide)]
  have e24 : ∀ j, (fr_up (fr_up r 22 (8 * i + k0) x) 24 (8 * i + k0) now).2 24 j = if j = 8 * i + k0 then now else r.2 24 j := fun j => by rw [fr_up_hit, fr_up_ne (by decide)]
  by_cases q : l = i
  · subst q
    rw [fc_up_same]
    refine ⟨by rw [List.length_set]; exact h0, fun k row hr => ⟨?_, ?_, ?_, ?_, ?_⟩⟩
    · exact fr_t_set (ix := fun k => 8 * l + k) (row := [f, t, p, m, now, x]) (g := fun row => nI 6 * row.getD 0 0 + row.getD 1 0) (fun k r' hr => (h1 k r' hr).1) (fun _ _ _ => rfl) (fun _ => (h1 k0 _ hr0).1) k row hr
    · exact fr_t_set (ix := fun k => 8 * l + k) (row := [f, t, p, m, now, x]) (g := fun row => row.getD 2 0) (fun k r' hr => (h1 k r' hr).2.1) (fun _ _ _ => rfl) (fun _ => (h1 k0 _ hr0).2.1) k row hr
    · exact fr_t_set (ix := fun k => 8 * l + k) (a := r.2 22) (g := fun row => row.getD 5 0) (fun k r' hr => (h1 k r' hr).2.2.1) (fun k hk _ => by rw [fr_up_hit, if_neg (by omega)]) (fun _ => by rw [fr_up_hit, if_pos rfl]; rfl) k row hr
    · exact fr_t_set (ix := fun k => 8 * l + k) (row := [f, t, p, m, now, x]) (g := fun row => row.getD 3 0) (fun k r' hr => (h1 k r' hr).2.2.2.1) (fun _ _ _ => rfl) (fun _ => (h1 k0 _ hr0).2.2.2.1) k row hr
    · exact fr_t_set (ix := fun k => 8 * l + k) (a := r.2 24) (g := fun row => row.getD 4 0) (fun k r' hr => (h1 k r' hr).2.2.2.2) (fun k hk _ => by rw [e24, if_neg (by omega)]) (fun _ => by rw [e24, if_pos rfl]; rfl) k row hr
  · rw [fc_up_ne _ (by omega)]
    refine ⟨h0, fun k row hr => ?_⟩
    have hk := (List.getElem?_eq_some_iff.mp hr).1
    have := IR l hl
    have := IR i hi
    rw [e24, fr_up_hit, if_neg (by omega), if_neg (by omega)]
    exact h1 k row hr
end INO
