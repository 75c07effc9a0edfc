/-! what always holds: courses -/
section INC
variable {g : am_G} {e nw ns room idle : Nat} {A : Nat → Nat} {s : cl_S} {S : am_S}
theorem fc_iK.row {s : fc_S} (I : fc_iK ns s) {k : Nat} (hk : k < (s 7).length) : ∃ (f t l : Nat) (st wv aw kp kn : Int32) (way : List Int32), (s 7)[k]? = some ([nI f, nI t, st, wv, aw, nI l, kp, kn] ++ way) ∧ f < 6 ∧ t < 6 ∧ (st = 1 ∨ st = 2 ∨ st = 3) ∧ (kp = 0 ∨ kp = 1) ∧ 1 ≤ way.length ∧ way.length ≤ 5 ∧ l < way.length ∧ ∀ x ∈ way, ∃ m, m < 4 * ns ∧ x = nI m := by
  obtain ⟨f, t, l, st, wv, aw, kp, kn, way, h1, h2, h3, h4, h5, h6, h7, h8, h9⟩ := I.2 _ (List.getElem_mem hk)
  exact ⟨f, t, l, st, wv, aw, kp, kn, way, by rw [List.getElem?_eq_getElem hk, h3], h1, h2, h4, h5, h6, h7, h8, h9⟩
theorem fc_noroom_ok {s : fc_S} (I : fc_iK ns s) (Io : fc_iO ns s) (x z : Int32) : fc_iK ns (fc_noroom s x z) ∧ fc_iO ns (fc_noroom s x z) := by
  unfold fc_noroom
  cases hx : fc_cix s x z with
  | none => exact ⟨I, Io⟩
  | some k =>
    have hk := fc_cix_some hx
    obtain ⟨f, t, l, st, wv, aw, kp, kn, way, hr, h1, h2, h4, h5, h6, h7, h8, h9⟩ := I.row hk
    show fc_iK ns (if _ then _ else _) ∧ fc_iO ns (if _ then _ else _)
    split
    · have ep : fc_put s 7 k 6 0 = fc_up s 7 ((s 7).set k ([nI f, nI t, st, wv, aw, nI l, 0, kn] ++ way)) := fc_put_row hr 0
      rw [ep]
      exact (I.set ⟨f, t, l, st, wv, aw, 0, kn, way, h1, h2, rfl, h4, Or.inl rfl, h6, h7, h8, h9⟩).clr (Io.up7 _) (by rw [fc_up_same, List.length_set]; exact hk)
    · exact ⟨I, Io⟩
theorem fc_gone_ok {s : fc_S} (I : fc_iK ns s) (Io : fc_iO ns s) (i : Nat) (x z : Int32) : fc_iK ns (fc_wentOff s i x z) ∧ fc_iO ns (fc_wentOff s i x z) := by
  unfold fc_wentOff
  cases hx : fc_cix s x z with
  | none => exact ⟨I, Io⟩
  | some k =>
    show fc_iK ns (if _ then _ else _) ∧ fc_iO ns (if _ then _ else _)
    split
    · exact I.clr Io (fc_cix_some hx)
    · exact ⟨I, Io⟩
theorem fc_flood_ok {s : fc_S} (I : fc_iK ns s) (Io : fc_iO ns s) (i : Nat) (port f t nr : Int32) (u : Nat) : fc_iK ns (fc_flood s i port f t nr u) ∧ fc_iO ns (fc_flood s i port f t nr u) :=
  ⟨I.same (fc_flood_ne (by omega)), Io.same (fun c h1 h2 => fc_flood_ne (by omega))⟩
end INC
