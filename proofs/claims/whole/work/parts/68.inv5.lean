/-! what always holds: a course is made, counted -/
section INE
variable {g : am_G} {e nw ns room idle : Nat} {A : Nat → Nat} {s : cl_S} {S : am_S}
theorem fc_make_ok {s : fc_S} (hn : ns ≤ 5) (I : fc_iK ns s) (Io : fc_iO ns s) {f t : Nat} (hf : f < 6) (ht : t < 6) (nr : Int32) : fc_iK ns (fc_make ns s (nI f) (nI t) nr) ∧ fc_iO ns (fc_make ns s (nI f) (nI t) nr) := by
  unfold fc_make fc_len
  by_cases h6 : 6 ≤ (s 7).length
  · rw [if_pos h6]; exact ⟨I, Io⟩
  rw [if_neg h6]
  by_cases he : (fc_wayOf ns s (nI f) (nI t)).isEmpty = true
  · rw [if_pos he]; exact ⟨I, Io⟩
  rw [if_neg he]
  obtain ⟨hw5, hwe⟩ := fc_wayOf_ok hn Io hf ht
  have e7 : fc_up s 7 (s 7 ++ [[nI f, nI t, 2, 0, 0, 0, 1, nr]]) 7 = s 7 ++ [[nI f, nI t, 2, 0, 0, 0, 1, nr]] := fc_up_same _ _ _
  refine fc_lay_ok hn (way0 := []) (st := 2) (wv := 0) (aw := 0) (ld := 0) (kp := 1) (kn := nr) ⟨?_, fun j row hj hrow => ?_⟩ (Io.up7 _) ?_ hf ht (Or.inr rfl) (by rw [List.isEmpty_iff_length_eq_zero] at he; exact he) hw5 hwe
  · rw [e7, List.length_append]; simp; omega
  · rw [e7] at hrow
    have hlt := (List.getElem?_eq_some_iff.mp hrow).1
    rw [List.length_append] at hlt
    simp at hlt
    rw [List.getElem?_append_left (by omega)] at hrow
    exact I.2 _ (List.mem_of_getElem? hrow)
  · rw [e7, List.getElem?_append_right (Nat.le_refl _), Nat.sub_self]; rfl
theorem fc_cnt_ok {s : fc_S} (hn : ns ≤ 5) (I : fc_iK ns s) (Io : fc_iO ns s) {k : Nat} (hk : k < (s 7).length) : fc_iK ns (fc_cnt ns s k) ∧ fc_iO ns (fc_cnt ns s k) := by
  obtain ⟨f, t, l, st, wv, aw, kp, kn, way, hr, h1, h2, h4, h5, h6, h7, h8, h9⟩ := I.row hk
  have hset := I.set (k := k) (row' := [nI f, nI t, st, wv, aw - 1, nI l, kp, kn] ++ way) ⟨f, t, l, st, wv, aw - 1, kp, kn, way, h1, h2, rfl, h4, h5, h6, h7, h8, h9⟩
  rw [fc_cnt_row hr]
  by_cases ha : 0 < aw - 1
  · rw [if_pos ha]; exact ⟨hset, Io.up7 _⟩
  rw [if_neg ha]
  by_cases hb : kp = 0 ∨ (fc_wayOf ns s (nI f) (nI t)).isEmpty = true
  · rw [if_pos hb]
    refine ⟨⟨?_, fun row hrow => ?_⟩, Io.up7 _⟩
    · rw [fc_up_same]; exact Nat.le_trans (List.length_eraseIdx_le _ _) I.1
    · rw [fc_up_same] at hrow; exact I.2 _ (List.mem_of_mem_eraseIdx hrow)
  rw [if_neg hb]
  obtain ⟨hw5, hwe⟩ := fc_wayOf_ok hn Io h1 h2
  exact fc_lay_ok hn (hset.but k) (Io.up7 _) (by rw [fc_up_same, List.getElem?_set_self hk]) h1 h2 h5 (fun z => hb (Or.inr (by rw [List.isEmpty_iff_length_eq_zero]; exact z))) hw5 hwe
end INE
