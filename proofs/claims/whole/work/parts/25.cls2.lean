/-! the class's cells: looking, and calls of its lists -/
section CLA
variable {g : am_G} {e nw ns room idle : Nat} {A : Nat → Nat} {s : cl_S} {S : am_S}
theorem cl_fab (h : cl_P e nw ns room idle A s S) : S.1 (A 0) = some (1, .inr (am_cFF, [.int (nI idle), .ref (A 8), .ref (A 1), .ref (A 2), .int (fc_get s.1 0 0 1), .int (fc_get s.1 0 0 0)])) := (h.2.2 0).1 rfl
theorem cl_hosts (h : cl_P e nw ns room idle A s S) : S.1 (A 1) = some (11, .inl (am_kH, (s.2.1 1).map Value.ref ++ List.replicate (6 - (s.2.1 1).length) .null)) ∧ (s.2.1 1).length ≤ 6 ∧ cl_els s 1 S := (h.2.2 1).2.1 rfl
theorem cl_ctl (h : cl_P e nw ns room idle A s S) : S.1 (A 2) = some (21, .inr (am_cCt, [.ref (A 8), .ref (A 3), .ref (A 4), .ref (A 5), .ref (A 7), .ref (A 6), .int (fc_get s.1 2 0 0)])) := (h.2.2 2).2.2.1 rfl
theorem cl_a3 (h : cl_P e nw ns room idle A s S) : cl_arr A s 3 am_kI S := (h.2.2 3).2.2.2.1 rfl
theorem cl_a4 (h : cl_P e nw ns room idle A s S) : cl_arr A s 4 am_kZ S := (h.2.2 4).2.2.2.2.1 rfl
theorem cl_a5 (h : cl_P e nw ns room idle A s S) : cl_arr A s 5 am_kI S := (h.2.2 5).2.2.2.2.2.1 rfl
theorem cl_a6 (h : cl_P e nw ns room idle A s S) : ∃ f : Nat → Int32, S.1 (A 6) = some (61, .inl (am_kI, fr_ls ns f)) := (h.2.2 6).2.2.2.2.2.2.1 rfl
theorem cl_port (h : cl_P e nw ns room idle A s S) {q : Nat} (hq : q < 4 * ns) : cl_pt A s q S := (h.2.2 (100 + q)).2.2.2.2.2.2.2.1 q hq rfl
theorem cl_list (h : cl_P e nw ns room idle A s S) {c : Nat} (hc : cl_isL ns c) : cl_L e A s c S := (h.2.2 c).2.2.2.2.2.2.2.2 hc
theorem cl_nodes (h : cl_P e nw ns room idle A s S) : S.1 (A 8) = some (0, .inl (am_kN, (List.range ns).map (fun i => Value.ref (A (50 + i))))) := h.2.1.2.2.1
theorem cl_node (h : cl_P e nw ns room idle A s S) {i : Nat} (hi : i < ns) : S.1 (A (50 + i)) = some (0, .inr (am_cNd, [.int (nI i), .int (nI room), .ref (A (60 + i)), .ref (A (10 + i)), .ref (A (20 + i)), .ref (A (30 + i)), .ref (A (40 + i))])) := (h.2.1.2.2.2 i hi).1
theorem cl_ports (h : cl_P e nw ns room idle A s S) {i : Nat} (hi : i < ns) : S.1 (A (60 + i)) = some (0, .inl (am_kP, [.ref (A (100 + (4 * i + 0))), .ref (A (100 + (4 * i + 1))), .ref (A (100 + (4 * i + 2))), .ref (A (100 + (4 * i + 3)))])) := (h.2.1.2.2.2 i hi).2
theorem cl_nodes_at {i : Nat} (hi : i < ns) : ((List.range ns).map (fun i => Value.ref (A (50 + i))))[i]? = some (.ref (A (50 + i))) := by simp [hi]
theorem cl_ports_at {i p : Nat} (hp : p < 4) : ([Value.ref (A (100 + (4 * i + 0))), .ref (A (100 + (4 * i + 1))), .ref (A (100 + (4 * i + 2))), .ref (A (100 + (4 * i + 3)))] : List Value)[p]? = some (.ref (A (100 + (4 * i + p)))) := by
  have : p = 0 ∨ p = 1 ∨ p = 2 ∨ p = 3 := by omega
  rcases this with rfl | rfl | rfl | rfl <;> rfl
/-- the k-th object of a list -/
theorem cl_at {c : Nat} (h : cl_els s c S) {k : Nat} (hk : k < (s.1 c).length) : ∃ a row, (s.2.1 c)[k]? = some a ∧ (s.1 c)[k]? = some row ∧ cl_el c a row S := by
  have h1 := h.1
  refine ⟨(s.2.1 c)[k], (s.1 c)[k], List.getElem?_eq_getElem (by omega), List.getElem?_eq_getElem hk, ?_⟩
  exact h.2.2 k _ _ (List.getElem?_eq_getElem (by omega)) (List.getElem?_eq_getElem hk)
theorem cl_eltag {c a : Nat} {row : List Int32} (hc : cl_isL ns c) (hn : ns ≤ 5) (h : cl_el c a row S) : ∃ (tb ci : Nat) (q : vw_C) (fs : List Value), S.1 a = some (tb, .inr (ci, fs)) ∧ am_cl[ci]? = some q ∧ (q.1, "java/lang/Object") ∈ am_nC ∧ tb ≠ 10 * c + 1 ∧ tb ≠ 10 * c + 1 + 1 := by
  unfold cl_el at h
  have c1 : c ≠ 1 := by rcases hc with h | h | h | h | h | h <;> omega
  rw [if_neg c1] at h
  by_cases c7 : c = 7
  · subst c7
    rw [if_pos rfl] at h
    obtain ⟨-, w, kv, h, -⟩ := h
    exact ⟨_, _, am_qCo, _, h, rfl, by decide, by decide, by decide⟩
  rw [if_neg c7] at h
  by_cases c20 : c < 20
  · rw [if_pos c20] at h
    exact ⟨_, _, am_qGd, _, h.1, rfl, by decide, by omega, by omega⟩
  rw [if_neg c20] at h
  by_cases c30 : c < 30
  · rw [if_pos c30] at h
    exact ⟨_, _, am_qRl, _, h.1, rfl, by decide, by omega, by omega⟩
  rw [if_neg c30] at h
  by_cases c100 : c < 100
  · rw [if_pos c100] at h
    exact ⟨_, _, am_qMs, _, h.1, rfl, by decide, by omega, by omega⟩
  rw [if_neg c100] at h
  obtain ⟨-, ⟨-, h⟩ | ⟨-, b, h, -⟩⟩ := h
  · exact ⟨_, _, am_qFr, _, h, rfl, by decide, by omega, by omega⟩
  · exact ⟨_, _, am_qFr, _, h, rfl, by decide, by omega, by omega⟩
theorem cl_alels {c : Nat} (hc : cl_isL ns c) (hn : ns ≤ 5) (h : cl_els s c S) : al_els S (10 * c + 1) (s.2.1 c) := by
  intro a ha
  obtain ⟨k, hk⟩ := List.getElem?_of_mem ha
  have hl : k < (s.1 c).length := by rw [← h.1]; exact (List.getElem?_eq_some_iff.mp hk).1
  exact cl_eltag hc hn (h.2.2 k a _ hk (List.getElem?_eq_getElem hl))
theorem cl_lX {c t : Nat} (h : am_lX (10 * c + 1) t) : cl_Xc c t := by
  unfold am_lX at h
  unfold cl_Xc
  omega
def cl_up (s : cl_S) (c : Nat) (rows : List (List Int32)) (as : List Nat) (k n : Nat) : cl_S := (fc_up s.1 c rows, (fun q => if q = c then as else s.2.1 q), s.2.2.1 + k, s.2.2.2 + n)
theorem cl_up_o {c q : Nat} {rows : List (List Int32)} {as : List Nat} {k n : Nat} (h : q ≠ c) : (cl_up s c rows as k n).1 q = s.1 q ∧ (cl_up s c rows as k n).2.1 q = s.2.1 q := ⟨if_neg h, if_neg h⟩
theorem cl_up_1 {c : Nat} {rows : List (List Int32)} {as : List Nat} {k n : Nat} : (cl_up s c rows as k n).1 c = rows := if_pos rfl
theorem cl_up_2 {c : Nat} {rows : List (List Int32)} {as : List Nat} {k n : Nat} : (cl_up s c rows as k n).2.1 c = as := if_pos rfl
theorem cl_hv_up {c : Nat} {rows : List (List Int32)} {as : List Nat} {k n : Nat} (h : c ≠ 1) (x : Int32) : cl_hv (cl_up s c rows as k n) x = cl_hv s x := by
  unfold cl_hv
  rw [(cl_up_o (s := s) (rows := rows) (as := as) (k := k) (n := n) (Ne.symm h)).2]
/-- only a list has changed -/
theorem cl_listed {c : Nat} (hn : ns ≤ 5) (hc : cl_isL ns c) {s' : cl_S} {S' : am_S} (h : cl_L e A s' c S') : cl_comp e ns idle A s' c S' := by
  unfold cl_isL at hc
  refine ⟨fun z => ?_, fun z => ?_, fun z => ?_, fun z => ?_, fun z => ?_, fun z => ?_, fun z => ?_, fun q hq z => ?_, fun _ => h⟩ <;> (exfalso; omega)
theorem cl_updL (hn : ns ≤ 5) (hS : cl_P e nw ns room idle A s S) {c : Nat} (hc : cl_isL ns c) {rows : List (List Int32)} {as : List Nat} {k n : Nat} {S' : am_S} (hf : am_fr (am_lX (10 * c + 1)) S S') (hco : am_co k n S S') (h : cl_L e A (cl_up s c rows as k n) c S') : cl_P e nw ns room idle A (cl_up s c rows as k n) S' := by
  have b1 := hS.1.2.1
  have b2 := hS.1.2.2
  have hc1 : c ≠ 1 := by unfold cl_isL at hc; omega
  refine cl_P.upd c hS (hf.mono (fun t => cl_lX)) ?_ ?_ (fun q hq => cl_up_o hq) (fun q hq hne => cl_hv_up hc1 _) (cl_listed hn hc h)
  · show S'.2.1 ≤ s.2.2.1 + k
    have := hco.1
    omega
  · show S'.2.2 ≤ s.2.2.2 + n
    have := hco.2
    omega
theorem cl_size {c : Nat} (hS : cl_P e nw ns room idle A s S) (hc : cl_isL ns c) : am_M g y_AL_size "()I" 0 0 [.ref (A c)] S (fun v S' => v = some (.int (nI (s.1 c).length)) ∧ S' = S) := by
  have h := cl_list hS hc
  rw [← h.2.1]
  exact al_size h.1
theorem cl_isEmpty {c : Nat} (hS : cl_P e nw ns room idle A s S) (hc : cl_isL ns c) : am_M g y_AL_isEmpty "()Z" 0 0 [.ref (A c)] S (fun v S' => v = some (.int (am_b (s.1 c).isEmpty)) ∧ S' = S) := by
  have h := cl_list hS hc
  have e1 : (s.1 c).isEmpty = (s.2.1 c).isEmpty := by
    have := h.2.1
    cases h1 : s.1 c <;> cases h2 : s.2.1 c <;> simp_all
  rw [e1]
  exact al_isEmpty h.1
theorem cl_getM {c k a : Nat} (hS : cl_P e nw ns room idle A s S) (hc : cl_isL ns c) (ha : (s.2.1 c)[k]? = some a) : am_M g y_AL_get "(I)Ljava/lang/Object;" 2 43 [.ref (A c), .int (nI k)] S (fun v S' => v = some (.ref a) ∧ S' = S) := al_get (cl_list hS hc).1 ha
theorem cl_remove {c k a : Nat} (hn : ns ≤ 5) (hS : cl_P e nw ns room idle A s S) (hc : cl_isL ns c) (ha : (s.2.1 c)[k]? = some a) : am_M g y_AL_remove "(I)Ljava/lang/Object;" 2 43 [.ref (A c), .int (nI k)] S (fun v S' => v = some (.ref a) ∧ cl_P e nw ns room idle A (cl_up s c ((s.1 c).eraseIdx k) ((s.2.1 c).eraseIdx k) 0 0) S' ∧ am_fr cl_X S S') := by
  have h := cl_list hS hc
  have hX : ∀ t, am_lX (10 * c + 1) t → cl_X t := fun t z => by unfold am_lX at z; unfold cl_isL at hc; unfold cl_X; omega
  refine (al_remove hS.1.1 (by omega) h.1 ha (cl_alels hc hn h.2)).post (fun v S' ⟨h1, h2, h3, h4⟩ => ⟨h1, ?_, h3.mono hX⟩)
  refine cl_updL hn hS hc h3 ⟨by rw [h4]; omega, by rw [h4]; omega⟩ ⟨by rw [cl_up_2]; exact h2, ?_⟩
  refine ⟨by rw [cl_up_1, cl_up_2, List.length_eraseIdx, List.length_eraseIdx, h.2.1], fun z => by rw [cl_up_2]; exact List.Nodup.sublist (List.eraseIdx_sublist _ _) (h.2.2.1 z), fun j b row hb hr => ?_⟩
  rw [cl_up_2, List.getElem?_eraseIdx] at hb
  rw [cl_up_1, List.getElem?_eraseIdx] at hr
  have key : ∀ i, (s.2.1 c)[i]? = some b → (s.1 c)[i]? = some row → cl_el c b row S' := fun i h5 h6 => (h.2.2.2 i b row h5 h6).fr h3 (fun z => by unfold am_lX at z; omega) (fun z => by unfold am_lX at z; omega)
  by_cases hj : j < k
  · rw [if_pos hj] at hb hr
    exact key j hb hr
  · rw [if_neg hj] at hb hr
    exact key (j + 1) hb hr
theorem cl_addM {c a : Nat} {row : List Int32} (hn : ns ≤ 5) (he : am_gE g e) (hS : cl_P e nw ns room idle A s S) (hc : cl_isL ns c) (hlen : (s.1 c).length < 60) (hel : cl_el c a row S) (hnew : c < 30 → a ∉ s.2.1 c) : am_M g y_AL_add "(Ljava/lang/Object;)Z" 6 131 [.ref (A c), .ref a] S (fun v S' => v = some (.int 1) ∧ cl_P e nw ns room idle A (cl_up s c (s.1 c ++ [row]) (s.2.1 c ++ [a]) 1 90) S' ∧ am_fr cl_X S S') := by
  have h := cl_list hS hc
  have hX : ∀ t, am_lX (10 * c + 1) t → cl_X t := fun t z => by unfold am_lX at z; unfold cl_isL at hc; unfold cl_X; omega
  obtain ⟨tb, ci, q, fs, k1, k2, k3, k4, k5⟩ := cl_eltag hc hn hel
  refine (al_add hS.1.1 (by omega) he h.1 (by rw [h.2.1]; exact hlen) (cl_alels hc hn h.2) k1 k2 k3 ⟨k4, k5⟩).post (fun v S' ⟨h1, h2, h3, h4⟩ => ⟨h1, ?_, h3.mono hX⟩)
  refine cl_updL hn hS hc h3 h4 ⟨by rw [cl_up_2]; exact h2, ?_⟩
  refine ⟨by rw [cl_up_1, cl_up_2, List.length_append, List.length_append, h.2.1]; rfl, fun z => by
    rw [cl_up_2, List.nodup_append]
    exact ⟨h.2.2.1 z, by simp, fun x hx y hy => by rw [List.mem_singleton.mp hy]; exact fun e => hnew z (e ▸ hx)⟩, fun j b r hb hr => ?_⟩
  rw [cl_up_2, List.getElem?_append] at hb
  rw [cl_up_1, List.getElem?_append] at hr
  have n0 : ¬ am_lX (10 * c + 1) 0 := fun z => by unfold am_lX at z; omega
  have n3 : ¬ am_lX (10 * c + 1) (10 * c + 3) := fun z => by unfold am_lX at z; omega
  by_cases hj : j < (s.2.1 c).length
  · rw [if_pos hj] at hb
    rw [if_pos (by rw [← h.2.1]; exact hj)] at hr
    exact (h.2.2.2 j b r hb hr).fr h3 n0 n3
  · rw [if_neg hj] at hb
    rw [if_neg (by rw [← h.2.1]; exact hj), ← h.2.1] at hr
    have e1 : j - (s.2.1 c).length = 0 := by
      have := (List.getElem?_eq_some_iff.mp hb).1
      simp at this
      omega
    rw [e1] at hb hr
    cases hb
    cases hr
    exact hel.fr h3 n0 n3
theorem cl_clear {c : Nat} (hn : ns ≤ 5) (hS : cl_P e nw ns room idle A s S) (hc : cl_isL ns c) : am_M g y_AL_clear "()V" 0 0 [.ref (A c)] S (fun v S' => v = none ∧ cl_P e nw ns room idle A (cl_up s c [] [] 0 0) S' ∧ am_fr cl_X S S') := by
  have h := cl_list hS hc
  have hX : ∀ t, am_lX (10 * c + 1) t → cl_X t := fun t z => by unfold am_lX at z; unfold cl_isL at hc; unfold cl_X; omega
  refine (al_clear hS.1.1 (by omega) h.1).post (fun v S' ⟨h1, h2, h3, h4⟩ => ⟨h1, ?_, h3.mono hX⟩)
  refine cl_updL hn hS hc h3 ⟨by rw [h4]; omega, by rw [h4]; omega⟩ ⟨by rw [cl_up_2]; exact h2, ?_⟩
  refine ⟨by rw [cl_up_1, cl_up_2]; rfl, fun _ => by rw [cl_up_2]; exact List.nodup_nil, fun j b row hb hr => ?_⟩
  rw [cl_up_2] at hb
  simp at hb
end CLA
