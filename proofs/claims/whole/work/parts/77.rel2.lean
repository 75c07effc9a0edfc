/-! how the reference's numbers move with the rows -/
section INN
variable {ns room idle : Nat}
theorem fr_t_add {a a' : Nat → Int32} {ix : Nat → Nat} {rows : List (List Int32)} {row : List Int32} {g : List Int32 → Int32} (h : ∀ (k : Nat) (r : List Int32), rows[k]? = some r → a (ix k) = g r) (ha : ∀ k, k < rows.length → a' (ix k) = a (ix k)) (hx : a' (ix rows.length) = g row) : ∀ (k : Nat) (r : List Int32), (rows ++ [row])[k]? = some r → a' (ix k) = g r := by
  intro k r hr
  by_cases hk : k < rows.length
  · rw [List.getElem?_append_left hk] at hr
    rw [ha k hk, h k r hr]
  · have hl := (List.getElem?_eq_some_iff.mp hr).1
    rw [List.length_append, List.length_singleton] at hl
    have e : k = rows.length := by omega
    subst e
    rw [List.getElem?_append_right (Nat.le_refl _), Nat.sub_self] at hr
    cases hr
    exact hx
theorem fr_t_del {a a' : Nat → Int32} {ix : Nat → Nat} {rows : List (List Int32)} {k0 : Nat} {g : List Int32 → Int32} (h : ∀ (k : Nat) (r : List Int32), rows[k]? = some r → a (ix k) = g r) (ha : ∀ k, k < k0 → k < rows.length → a' (ix k) = a (ix k)) (hb : ∀ k, k0 ≤ k → k + 1 < rows.length → a' (ix k) = a (ix (k + 1))) : ∀ (k : Nat) (r : List Int32), (rows.eraseIdx k0)[k]? = some r → a' (ix k) = g r := by
  intro k r hr
  rw [List.getElem?_eraseIdx] at hr
  by_cases hk : k < k0
  · rw [if_pos hk] at hr
    rw [ha k hk (List.getElem?_eq_some_iff.mp hr).1, h k r hr]
  · rw [if_neg hk] at hr
    rw [hb k (by omega) (List.getElem?_eq_some_iff.mp hr).1, h (k + 1) r hr]
theorem fr_t_set {a a' : Nat → Int32} {ix : Nat → Nat} {rows : List (List Int32)} {k0 : Nat} {row : List Int32} {g : List Int32 → Int32} (h : ∀ (k : Nat) (r : List Int32), rows[k]? = some r → a (ix k) = g r) (ha : ∀ k, k ≠ k0 → k < rows.length → a' (ix k) = a (ix k)) (hx : k0 < rows.length → a' (ix k0) = g row) : ∀ (k : Nat) (r : List Int32), (rows.set k0 row)[k]? = some r → a' (ix k) = g r := by
  intro k r hr
  have hl := (List.getElem?_eq_some_iff.mp hr).1
  rw [List.length_set] at hl
  by_cases hk : k = k0
  · subst hk
    rw [List.getElem?_set_self hl] at hr
    cases hr
    exact hx hl
  · rw [List.getElem?_set_ne (Ne.symm hk)] at hr
    rw [ha k hk hl, h k r hr]
theorem fr_t_same {a a' : Nat → Int32} {ix : Nat → Nat} {rows : List (List Int32)} {g : List Int32 → Int32} (h : ∀ (k : Nat) (r : List Int32), rows[k]? = some r → a (ix k) = g r) (ha : ∀ k, k < rows.length → a' (ix k) = a (ix k)) : ∀ (k : Nat) (r : List Int32), rows[k]? = some r → a' (ix k) = g r := fun k r hr => by rw [ha k (List.getElem?_eq_some_iff.mp hr).1, h k r hr]
/-- two states of the reference that differ in the fields of F alone -/
def fr_sm (F : List Nat) (r r' : fr_S) : Prop := ∀ q, q ∉ F → r'.1 q = r.1 q ∧ r'.2 q = r.2 q
theorem fr_sm.refl (F : List Nat) (r : fr_S) : fr_sm F r r := fun _ _ => ⟨rfl, rfl⟩
theorem fr_up_ne {r : fr_S} {f j q : Nat} {x : Int32} (h : q ≠ f) : (fr_up r f j x).2 q = r.2 q := by
  funext i
  exact if_neg (fun z => h z.1)
theorem fr_sc_ne {r : fr_S} {f q : Nat} {x : Int32} (h : q ≠ f) : (fr_sc r f x).1 q = r.1 q := if_neg h
theorem fr_sm.up {F : List Nat} {r r' : fr_S} (h : fr_sm F r r') {f : Nat} (hf : f ∈ F) (j : Nat) (x : Int32) : fr_sm F r (fr_up r' f j x) := fun q hq => ⟨(h q hq).1, (fr_up_ne (show q ≠ f from fun e => hq (by rw [e]; exact hf))).trans (h q hq).2⟩
theorem fr_sm.sc {F : List Nat} {r r' : fr_S} (h : fr_sm F r r') {f : Nat} (hf : f ∈ F) (x : Int32) : fr_sm F r (fr_sc r' f x) := fun q hq => ⟨(fr_sc_ne (show q ≠ f from fun e => hq (by rw [e]; exact hf))).trans (h q hq).1, (h q hq).2⟩
theorem fr_sm.sh {F fs : List Nat} {r r' : fr_S} (h : fr_sm F r r') (hf : ∀ f ∈ fs, f ∈ F) (lo m dd : Nat) : fr_sm F r (fr_sh r' fs lo m dd) := fun q hq => ⟨(h q hq).1, (funext fun j => if_neg (fun z => hq (hf q z.1))).trans (h q hq).2⟩
theorem fr_sm.add {F : List Nat} {r r' : fr_S} (h : fr_sm F r r') (h25 : 25 ∈ F) (h26 : 26 ∈ F) (l n : Nat) (x0 x1 x2 x3 x4 : Int32) : fr_sm F r (fr_add r' l n x0 x1 x2 x3 x4) := (((((h.up h26 _ _).up h26 _ _).up h26 _ _).up h26 _ _).up h26 _ _).up h25 _ _
theorem fr_sm.take {F : List Nat} {r r' : fr_S} (h : fr_sm F r r') (h25 : 25 ∈ F) (h26 : 26 ∈ F) (h27 : 27 ∈ F) (l n : Nat) : fr_sm F r (fr_take r' l n) := by
  refine fr_sm.sh (fr_sm.up (r' := fr_itm r' l 5) ?_ h25 _ _) (fun f hf => by rw [List.mem_singleton.mp hf]; exact h26) _ _ _
  intro q hq
  refine ⟨(h q hq).1, Eq.trans ?_ (h q hq).2⟩
  funext j
  show (if q = 27 ∧ j < 5 then _ else _) = _
  rw [if_neg (fun z => hq (by rw [z.1]; exact h27))]
theorem fr_sm.rmr {F : List Nat} {r r' : fr_S} (h : fr_sm F r r') (h19 : 19 ∈ F) (hf : ∀ f ∈ [20, 21, 22, 23, 24], f ∈ F) (i n k : Nat) : fr_sm F r (fr_rmr r' i n k) := (h.up h19 _ _).sh hf _ _ _
theorem fr_sm.trans {F : List Nat} {r r' r'' : fr_S} (h : fr_sm F r r') (h' : fr_sm F r' r'') : fr_sm F r r'' := fun q hq => ⟨(h' q hq).1.trans (h q hq).1, (h' q hq).2.trans (h q hq).2⟩
theorem fr_sm.mono {F F' : List Nat} {r r' : fr_S} (h : fr_sm F r r') (hF : ∀ f ∈ F, f ∈ F') : fr_sm F' r r' := fun q hq => h q (fun z => hq (hF q z))
/-- each part of the relation, where neither its rows nor its fields change -/
theorem fr_rH.same {s s' : fc_S} {c c' : Int32} {a b d e a' b' d' e' : Nat → Int32} (h : fr_rH s c a b d e) (h1 : s' 1 = s 1) (hc : c' = c) (ha : a' = a) (hb : b' = b) (hd : d' = d) (he : e' = e) : fr_rH s' c' a' b' d' e' := by
  subst hc ha hb hd he
  unfold fr_rH
  rw [h1]
  exact h
theorem fr_rP.same {s s' : fc_S} {a b c a' b' c' : Nat → Int32} (h : fr_rP ns s a b c) (h1 : ∀ e, e < 4 * ns → s' (100 + e) = s (100 + e)) (ha : a' = a) (hb : b' = b) (hc : c' = c) : fr_rP ns s' a' b' c' := by
  subst ha hb hc
  intro e he
  unfold fc_get
  rw [h1 e he]
  exact h e he
theorem fr_rW.same {s s' : fc_S} {a b a' b' : Nat → Int32} (h : fr_rW ns s a b) (h1 : ∀ e, e < 4 * ns → s' (200 + e) = s (200 + e)) (ha : a' = a) (hb : b' = b) : fr_rW ns s' a' b' := by
  subst ha hb
  intro e he
  rw [h1 e he]
  exact h e he
theorem fr_rG.same {s s' : fc_S} {a b c d e a' b' c' d' e' : Nat → Int32} (h : fr_rG ns s a b c d e) (h1 : ∀ i, i < ns → s' (10 + i) = s (10 + i)) (ha : a' = a) (hb : b' = b) (hc : c' = c) (hd : d' = d) (he : e' = e) : fr_rG ns s' a' b' c' d' e' := by
  subst ha hb hc hd he
  intro i hi
  rw [h1 i hi]
  exact h i hi
theorem fr_rR.same {s s' : fc_S} {a b c d e f a' b' c' d' e' f' : Nat → Int32} (h : fr_rR ns s a b c d e f) (h1 : ∀ i, i < ns → s' (20 + i) = s (20 + i)) (ha : a' = a) (hb : b' = b) (hc : c' = c) (hd : d' = d) (he : e' = e) (hf : f' = f) : fr_rR ns s' a' b' c' d' e' f' := by
  subst ha hb hc hd he hf
  intro i hi
  rw [h1 i hi]
  exact h i hi
theorem fr_rL.same {s s' : fc_S} {a b a' b' : Nat → Int32} (h : fr_rL ns s a b) (h1 : ∀ l, l < 2 * ns → s' (fr_lc l) = s (fr_lc l)) (ha : a' = a) (hb : b' = b) : fr_rL ns s' a' b' := by
  subst ha hb
  intro l hl
  rw [h1 l hl]
  exact h l hl
theorem fr_rO.same {s s' : fc_S} {a b c a' b' c' : Nat → Int32} (h : fr_rO ns s a b c) (h3 : s' 3 = s 3) (h4 : s' 4 = s 4) (h5 : s' 5 = s 5) (ha : a' = a) (hb : b' = b) (hc : c' = c) : fr_rO ns s' a' b' c' := by
  subst ha hb hc
  unfold fr_rO fc_get
  rw [h3, h4, h5]
  exact h
theorem fr_rK.same {s s' : fc_S} {c d c' d' : Int32} {a1 a2 a3 a4 a5 a6 a7 a8 a9 b1 b2 b3 b4 b5 b6 b7 b8 b9 : Nat → Int32} (h : fr_rK s c d a1 a2 a3 a4 a5 a6 a7 a8 a9) (h2 : s' 2 = s 2) (h7 : s' 7 = s 7) (hc : c' = c) (hd : d' = d) (e1 : b1 = a1) (e2 : b2 = a2) (e3 : b3 = a3) (e4 : b4 = a4) (e5 : b5 = a5) (e6 : b6 = a6) (e7 : b7 = a7) (e8 : b8 = a8) (e9 : b9 = a9) : fr_rK s' c' d' b1 b2 b3 b4 b5 b6 b7 b8 b9 := by
  subst hc hd e1 e2 e3 e4 e5 e6 e7 e8 e9
  unfold fr_rK fc_get
  rw [h2, h7]
  exact h
theorem fr_rel.S {s s' : fc_S} {r r' : fr_S} (h : fr_rel ns room idle s r) {F : List Nat} (m : fr_sm F r r') (d : ∀ q ∈ [0, 1, 2, 3], q ∉ F) (h0 : s' 0 = s 0) : r'.1 0 = nI ns ∧ r'.1 1 = nI room ∧ r'.1 2 = nI idle ∧ r'.1 3 = fc_get s' 0 0 0 := by
  rw [(m 0 (d 0 (by decide))).1, (m 1 (d 1 (by decide))).1, (m 2 (d 2 (by decide))).1, (m 3 (d 3 (by decide))).1]
  unfold fc_get
  rw [h0]
  exact h.1
theorem fr_rel.H {s s' : fc_S} {r r' : fr_S} (h : fr_rel ns room idle s r) {F : List Nat} (m : fr_sm F r r') (d : ∀ q ∈ [7, 8, 9, 10, 11], q ∉ F) (h1 : s' 1 = s 1) : fr_rH s' (r'.1 7) (r'.2 8) (r'.2 9) (r'.2 10) (r'.2 11) := h.2.1.same h1 (m 7 (d 7 (by decide))).1 (m 8 (d 8 (by decide))).2 (m 9 (d 9 (by decide))).2 (m 10 (d 10 (by decide))).2 (m 11 (d 11 (by decide))).2
theorem fr_rel.P {s s' : fc_S} {r r' : fr_S} (h : fr_rel ns room idle s r) {F : List Nat} (m : fr_sm F r r') (d : ∀ q ∈ [4, 5, 6], q ∉ F) (h1 : ∀ e, e < 4 * ns → s' (100 + e) = s (100 + e)) : fr_rP ns s' (r'.2 4) (r'.2 5) (r'.2 6) := h.2.2.1.same h1 (m 4 (d 4 (by decide))).2 (m 5 (d 5 (by decide))).2 (m 6 (d 6 (by decide))).2
theorem fr_rel.W {s s' : fc_S} {r r' : fr_S} (h : fr_rel ns room idle s r) {F : List Nat} (m : fr_sm F r r') (d : ∀ q ∈ [12, 13], q ∉ F) (h1 : ∀ e, e < 4 * ns → s' (200 + e) = s (200 + e)) : fr_rW ns s' (r'.2 12) (r'.2 13) := h.2.2.2.1.same h1 (m 12 (d 12 (by decide))).2 (m 13 (d 13 (by decide))).2
theorem fr_rel.G {s s' : fc_S} {r r' : fr_S} (h : fr_rel ns room idle s r) {F : List Nat} (m : fr_sm F r r') (d : ∀ q ∈ [14, 15, 16, 17, 18], q ∉ F) (h1 : ∀ i, i < ns → s' (10 + i) = s (10 + i)) : fr_rG ns s' (r'.2 14) (r'.2 15) (r'.2 16) (r'.2 17) (r'.2 18) := h.2.2.2.2.1.same h1 (m 14 (d 14 (by decide))).2 (m 15 (d 15 (by decide))).2 (m 16 (d 16 (by decide))).2 (m 17 (d 17 (by decide))).2 (m 18 (d 18 (by decide))).2
theorem fr_rel.R {s s' : fc_S} {r r' : fr_S} (h : fr_rel ns room idle s r) {F : List Nat} (m : fr_sm F r r') (d : ∀ q ∈ [19, 20, 21, 22, 23, 24], q ∉ F) (h1 : ∀ i, i < ns → s' (20 + i) = s (20 + i)) : fr_rR ns s' (r'.2 19) (r'.2 20) (r'.2 21) (r'.2 22) (r'.2 23) (r'.2 24) := h.2.2.2.2.2.1.same h1 (m 19 (d 19 (by decide))).2 (m 20 (d 20 (by decide))).2 (m 21 (d 21 (by decide))).2 (m 22 (d 22 (by decide))).2 (m 23 (d 23 (by decide))).2 (m 24 (d 24 (by decide))).2
theorem fr_rel.L {s s' : fc_S} {r r' : fr_S} (h : fr_rel ns room idle s r) {F : List Nat} (m : fr_sm F r r') (d : ∀ q ∈ [25, 26], q ∉ F) (h1 : ∀ l, l < 2 * ns → s' (fr_lc l) = s (fr_lc l)) : fr_rL ns s' (r'.2 25) (r'.2 26) := h.2.2.2.2.2.2.1.same h1 (m 25 (d 25 (by decide))).2 (m 26 (d 26 (by decide))).2
theorem fr_rel.O {s s' : fc_S} {r r' : fr_S} (h : fr_rel ns room idle s r) {F : List Nat} (m : fr_sm F r r') (d : ∀ q ∈ [28, 29, 30], q ∉ F) (h3 : s' 3 = s 3) (h4 : s' 4 = s 4) (h5 : s' 5 = s 5) : fr_rO ns s' (r'.2 28) (r'.2 29) (r'.2 30) := h.2.2.2.2.2.2.2.1.same h3 h4 h5 (m 28 (d 28 (by decide))).2 (m 29 (d 29 (by decide))).2 (m 30 (d 30 (by decide))).2
theorem fr_rel.K {s s' : fc_S} {r r' : fr_S} (h : fr_rel ns room idle s r) {F : List Nat} (m : fr_sm F r r') (d : ∀ q ∈ [31, 32, 33, 34, 35, 36, 37, 38, 39, 40, 41], q ∉ F) (h2 : s' 2 = s 2) (h7 : s' 7 = s 7) : fr_rK s' (r'.1 31) (r'.1 32) (r'.2 33) (r'.2 34) (r'.2 35) (r'.2 36) (r'.2 37) (r'.2 38) (r'.2 39) (r'.2 40) (r'.2 41) := h.2.2.2.2.2.2.2.2.same h2 h7 (m 31 (d 31 (by decide))).1 (m 32 (d 32 (by decide))).1 (m 33 (d 33 (by decide))).2 (m 34 (d 34 (by decide))).2 (m 35 (d 35 (by decide))).2 (m 36 (d 36 (by decide))).2 (m 37 (d 37 (by decide))).2 (m 38 (d 38 (by decide))).2 (m 39 (d 39 (by decide))).2 (m 40 (d 40 (by decide))).2 (m 41 (d 41 (by decide))).2
theorem fr_up_hit (r : fr_S) (f j : Nat) (x : Int32) (i : Nat) : (fr_up r f j x).2 f i = if i = j then x else r.2 f i := by
  show (if f = f ∧ i = j then x else r.2 f i) = _
  by_cases e : i = j
  · rw [if_pos ⟨rfl, e⟩, if_pos e]
  · rw [if_neg (fun z => e z.2), if_neg e]
/-! lists -/
theorem fr_lc_ne {l l' : Nat} (h : l ≠ l') (hl : l < 10) (hl' : l' < 10) : fr_lc l ≠ fr_lc l' := by
  unfold fr_lc
  split <;> split <;> omega
theorem fr_add_26 {r : fr_S} {l n : Nat} {x0 x1 x2 x3 x4 : Int32} (i : Nat) : (fr_add r l n x0 x1 x2 x3 x4).2 26 i = if i = 300 * l + 5 * n + 4 then x4 else if i = 300 * l + 5 * n + 3 then x3 else if i = 300 * l + 5 * n + 2 then x2 else if i = 300 * l + 5 * n + 1 then x1 else if i = 300 * l + 5 * n then x0 else r.2 26 i := by
  unfold fr_add
  rw [fr_up_ne (by decide), fr_up_hit, fr_up_hit, fr_up_hit, fr_up_hit, fr_up_hit]
theorem fr_add_25 {r : fr_S} {l n : Nat} {x0 x1 x2 x3 x4 : Int32} (i : Nat) : (fr_add r l n x0 x1 x2 x3 x4).2 25 i = if i = l then nI (n + 1) else r.2 25 i := by
  unfold fr_add
  rw [fr_up_hit]
  split
  · rfl
  · rw [fr_up_ne (by decide), fr_up_ne (by decide), fr_up_ne (by decide), fr_up_ne (by decide), fr_up_ne (by decide)]
theorem fc_iL.len {s : fc_S} (IL : fc_iL ns s) {l : Nat} (hl : l < 2 * ns) : (s (fr_lc l)).length ≤ 59 := by
  unfold fr_lc
  split
  · exact (IL (l / 2) (by omega)).1.1
  · exact (IL (l / 2) (by omega)).2.1
theorem fr_rL.add {s : fc_S} {r : fr_S} (n5 : ns ≤ 5) (h : fr_rL ns s (r.2 25) (r.2 26)) (IL : ∀ l, l < 2 * ns → (s (fr_lc l)).length ≤ 60) {l : Nat} (hl : l < 2 * ns) (h60 : (s (fr_lc l)).length < 60) {row : List Int32} {x0 x1 x2 x3 x4 : Int32} (he : fr_en l row = [x0, x1, x2, x3, x4]) : fr_rL ns (fc_add s (fr_lc l) row) ((fr_add r l (s (fr_lc l)).length x0 x1 x2 x3 x4).2 25) ((fr_add r l (s (fr_lc l)).length x0 x1 x2 x3 x4).2 26) := by
  intro l' hl'
  by_cases e : l' = l
  · subst e
    rw [fc_add_same]
    refine ⟨by rw [fr_add_25, if_pos rfl, List.length_append, List.length_singleton], fun k row' hr j hj => ?_⟩
    refine fr_t_add (ix := fun k => 300 * l' + 5 * k + j) (g := fun row => (fr_en l' row).getD j 0) (fun k r' hr => (h l' hl').2 k r' hr j hj) (fun k hk => ?_) ?_ k row' hr
    · rw [fr_add_26, if_neg (by omega), if_neg (by omega), if_neg (by omega), if_neg (by omega), if_neg (by omega)]
    · rw [fr_add_26]
      show _ = (fr_en l' row).getD j 0
      rw [he]
      rcases (show j = 0 ∨ j = 1 ∨ j = 2 ∨ j = 3 ∨ j = 4 by omega) with rfl | rfl | rfl | rfl | rfl
      · rw [if_neg (by omega), if_neg (by omega), if_neg (by omega), if_neg (by omega), if_pos (by omega)]; rfl
      · rw [if_neg (by omega), if_neg (by omega), if_neg (by omega), if_pos (by omega)]; rfl
      · rw [if_neg (by omega), if_neg (by omega), if_pos (by omega)]; rfl
      · rw [if_neg (by omega), if_pos (by omega)]; rfl
      · rw [if_pos (by omega)]; rfl
  · rw [fc_add_ne _ (fr_lc_ne e (by omega) (by omega))]
    refine ⟨by rw [fr_add_25, if_neg e]; exact (h l' hl').1, fun k row' hr j hj => ?_⟩
    have hk := (List.getElem?_eq_some_iff.mp hr).1
    have := IL l' hl'
    rw [fr_add_26, if_neg (by omega), if_neg (by omega), if_neg (by omega), if_neg (by omega), if_neg (by omega)]
    exact (h l' hl').2 k row' hr j hj
theorem fr_take_26 {r : fr_S} {l n : Nat} (i : Nat) : (fr_take r l n).2 26 i = if 300 * l ≤ i ∧ i < 300 * l + 5 * (n - 1) then r.2 26 (i + 5) else r.2 26 i := by
  have hb : ∀ j, (fr_up (fr_itm r l 5) 25 l (nI (n - 1))).2 26 j = r.2 26 j := fun j => by
    rw [fr_up_ne (by decide)]
    show (if 26 = 27 ∧ j < 5 then r.2 26 (300 * l + j) else r.2 26 j) = _
    rw [if_neg (fun z => absurd z.1 (by decide))]
  unfold fr_take
  rw [fr_sh_at, hb, hb]
  by_cases e : 300 * l ≤ i ∧ i < 300 * l + 5 * (n - 1)
  · rw [if_pos ⟨by decide, e⟩, if_pos e]
  · rw [if_neg (fun z => e z.2), if_neg e]
theorem fr_take_25 {r : fr_S} {l n : Nat} (i : Nat) : (fr_take r l n).2 25 i = if i = l then nI (n - 1) else r.2 25 i := by
  unfold fr_take
  rw [fr_sh_not (by decide), fr_up_hit]
  rfl
theorem fr_take_27 {r : fr_S} {l n j : Nat} (hj : j < 5) : (fr_take r l n).2 27 j = r.2 26 (300 * l + j) := by
  unfold fr_take
  rw [fr_sh_not (by decide), fr_up_ne (by decide)]
  exact if_pos ⟨rfl, hj⟩
theorem fr_rL.take {s : fc_S} {r : fr_S} (n5 : ns ≤ 5) (h : fr_rL ns s (r.2 25) (r.2 26)) (IL : ∀ l, l < 2 * ns → (s (fr_lc l)).length ≤ 60) {l : Nat} (hl : l < 2 * ns) : fr_rL ns (fc_del s (fr_lc l) 0) ((fr_take r l (s (fr_lc l)).length).2 25) ((fr_take r l (s (fr_lc l)).length).2 26) := by
  intro l' hl'
  by_cases e : l' = l
  · subst e
    rw [fc_del_same]
    refine ⟨by
      rw [fr_take_25, if_pos rfl, List.length_eraseIdx]
      split
      · rfl
      · congr 1; omega, fun k row' hr j hj => ?_⟩
    refine fr_t_del (ix := fun k => 300 * l' + 5 * k + j) (k0 := 0) (g := fun row => (fr_en l' row).getD j 0) (fun k r' hr => (h l' hl').2 k r' hr j hj) (fun k hk => by omega) (fun k _ hk => ?_) k row' hr
    rw [fr_take_26, if_pos (by omega)]
    show r.2 26 (300 * l' + 5 * k + j + 5) = r.2 26 (300 * l' + 5 * (k + 1) + j)
    rw [show 300 * l' + 5 * k + j + 5 = 300 * l' + 5 * (k + 1) + j by omega]
  · rw [fc_del_ne _ (fr_lc_ne e (by omega) (by omega))]
    refine ⟨by rw [fr_take_25, if_neg e]; exact (h l' hl').1, fun k row' hr j hj => ?_⟩
    have hk := (List.getElem?_eq_some_iff.mp hr).1
    have := IL l' hl'
    have := IL l hl
    rw [fr_take_26, if_neg (by omega)]
    exact (h l' hl').2 k row' hr j hj
theorem fr_rL.item {s : fc_S} {r : fr_S} (h : fr_rL ns s (r.2 25) (r.2 26)) {l : Nat} (hl : l < 2 * ns) {row : List Int32} (hr : (s (fr_lc l))[0]? = some row) {j : Nat} (hj : j < 5) (n : Nat) : (fr_take r l n).2 27 j = (fr_en l row).getD j 0 := by
  rw [fr_take_27 hj]
  have := (h l hl).2 0 row hr j hj
  rw [← this]
  congr 1
end INN
