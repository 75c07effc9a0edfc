/-! what always holds: links seen, links down -/
section INB
variable {g : am_G} {e nw ns room idle : Nat} {A : Nat → Nat} {s : cl_S} {S : am_S}
theorem fc_iO.up3 {s : fc_S} (Io : fc_iO ns s) {o : List Int32} (hl : o.length = 4 * ns) (he : ∀ x ∈ o, fc_end ns x) : fc_iO ns (fc_up s 3 [o]) := by
  obtain ⟨g2, g3, g4, g5⟩ := Io
  exact ⟨by rw [fc_up_ne _ (by omega)]; exact g2, ⟨o, fc_up_same _ _ _, hl, he⟩, by rw [fc_up_ne _ (by omega)]; exact g4, by rw [fc_up_ne _ (by omega)]; exact g5⟩
theorem fc_iO.up4 {s : fc_S} (Io : fc_iO ns s) {o : List Int32} (hl : o.length = 4 * ns) (he : ∀ x ∈ o, x = 0 ∨ x = 1) : fc_iO ns (fc_up s 4 [o]) := by
  obtain ⟨g2, g3, g4, g5⟩ := Io
  exact ⟨by rw [fc_up_ne _ (by omega)]; exact g2, by rw [fc_up_ne _ (by omega)]; exact g3, ⟨o, fc_up_same _ _ _, hl, he⟩, by rw [fc_up_ne _ (by omega)]; exact g5⟩
theorem fc_iO.up5 {s : fc_S} (Io : fc_iO ns s) {o : List Int32} (hl : o.length = 6) (he : ∀ x ∈ o, fc_end ns x) : fc_iO ns (fc_up s 5 [o]) := by
  obtain ⟨g2, g3, g4, g5⟩ := Io
  exact ⟨by rw [fc_up_ne _ (by omega)]; exact g2, by rw [fc_up_ne _ (by omega)]; exact g3, by rw [fc_up_ne _ (by omega)]; exact g4, ⟨o, fc_up_same _ _ _, hl, he⟩⟩
theorem am_set2 {p : Int32 → Prop} {l : List Int32} {i j : Nat} {x y : Int32} (h : ∀ z ∈ l, p z) (hx : p x) (hy : p y) : ∀ z ∈ (l.set i x).set j y, p z := by
  intro z hz
  rcases List.mem_or_eq_of_mem_set hz with h1 | h1
  · rcases List.mem_or_eq_of_mem_set h1 with h2 | h2
    · exact h z h2
    · rw [h2]; exact hx
  · rw [h1]; exact hy
theorem fc_seen_ok {s : fc_S} (I : fc_iK ns s) (Io : fc_iO ns s) {q o : Nat} (hq : q < 4 * ns) (ho : o < 4 * ns) : fc_iK ns (fc_seen s q o) ∧ fc_iO ns (fc_seen s q o) := by
  obtain ⟨-, ⟨ot, h3, h3l, h3e⟩, ⟨mk, h4, h4l, h4e⟩, ⟨p0, h5, h5l, h5e⟩⟩ := id Io
  unfold fc_seen
  rw [h3, h4, h5]
  have J : fc_iO ns (fc_up (fc_up (fc_up s 4 [(mk.set q 1).set o 1]) 3 [(ot.set q (nI o)).set o (nI q)]) 5 [p0.map (fun x => if x = nI q ∨ x = nI o then -1 else x)]) := by
    refine ((Io.up4 (by rw [List.length_set, List.length_set]; exact h4l) (am_set2 h4e (Or.inr rfl) (Or.inr rfl))).up3 (by rw [List.length_set, List.length_set]; exact h3l) (am_set2 h3e (Or.inr ⟨o, ho, rfl⟩) (Or.inr ⟨q, hq, rfl⟩))).up5 (by rw [List.length_map]; exact h5l) (fun x hx => ?_)
    obtain ⟨y, hy, rfl⟩ := List.mem_map.mp hx
    show fc_end ns (if y = nI q ∨ y = nI o then -1 else y)
    split
    · exact Or.inl rfl
    · exact h5e y hy
  have e7 : (fc_up (fc_up (fc_up s 4 [(mk.set q 1).set o 1]) 3 [(ot.set q (nI o)).set o (nI q)]) 5 [p0.map (fun x => if x = nI q ∨ x = nI o then -1 else x)]) 7 = s 7 := by rw [fc_up_ne _ (by omega), fc_up_ne _ (by omega), fc_up_ne _ (by omega)]
  have h := fc_hurt_ok (I.same e7) J (fun w => w.getLast? == some (nI q) || w.getLast? == some (nI o)) (s 7).length (by rw [e7]; exact Nat.le_refl _)
  exact ⟨h.1, h.2.1⟩
theorem fc_down_ok {s : fc_S} (hn : ns ≤ 5) (I : fc_iK ns s) (Io : fc_iO ns s) (q : Nat) : fc_iK ns (fc_down s q) ∧ fc_iO ns (fc_down s q) := by
  obtain ⟨-, ⟨ot, h3, h3l, h3e⟩, -⟩ := id Io
  unfold fc_down
  split
  · exact ⟨I, Io⟩
  · rw [h3]
    have J := Io.up3 (o := (ot.set q (-1)).set (fc_get s 3 0 q).toNatClampNeg (-1)) (by rw [List.length_set, List.length_set]; exact h3l) (am_set2 h3e (Or.inl rfl) (Or.inl rfl))
    have e7 : (fc_up s 3 [(ot.set q (-1)).set (fc_get s 3 0 q).toNatClampNeg (-1)]) 7 = s 7 := fc_up_ne _ (by omega)
    have h := fc_hurt_ok (I.same e7) J (fun w => w.any (fun x => x == nI q) || w.any (fun x => x == fc_get s 3 0 q)) (s 7).length (by rw [e7]; exact Nat.le_refl _)
    exact ⟨h.1, h.2.1⟩
end INB
