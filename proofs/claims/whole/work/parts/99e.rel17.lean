/-! a course is led, cleared: what it comes to -/
section IOD
variable {ns room idle : Nat}
variable {own : Int32 → Int32 × Int32} {W : Nat}
theorem fc_fin_no {s : fc_S} {c : Nat} {f t st wv aw ld kn : Int32} {way : List Int32} (hr : (s 7)[c]? = some ([f, t, st, wv, aw, ld, 0, kn] ++ way)) : fc_fin s c = fc_up s 7 ((s 7).set c ([f, t, 3, wv, aw, ld, 0, kn] ++ way)) := by
  unfold fc_fin
  rw [fc_get_row hr]
  show (if (0 : Int32) = 0 then _ else _) = _
  rw [if_pos rfl, fc_put_row hr]
  rfl
theorem fc_fin_yes {s : fc_S} {c m : Nat} {f t st wv aw ld kp kn : Int32} {way : List Int32} (hr : (s 7)[c]? = some ([f, t, st, wv, aw, ld, kp, kn] ++ way)) (hk : ¬ kp = 0) (hx : way[0]? = some (nI m)) (hm : m < 1000) : fc_fin s c = fc_add (fc_up s 7 ((s 7).set c ([f, t, 3, wv, aw, ld, 0, kn] ++ way))) (30 + m / 4) [4, -1, f, t, kn] := by
  unfold fc_fin
  rw [fc_get_row hr, fc_get_row hr, fc_get_row hr, fc_get_row hr, fc_way_row hr]
  show (if kp = 0 then _ else fc_ord _ _ [4, -1, f, t, kn]) = _
  rw [if_neg hk, fc_put2 hr, List.getD_eq_getElem?_getD, hx]
  show fc_ord _ (nI m) _ = _
  rw [fc_ord_nI _ hm]
  rfl
theorem fc_del_set {s : fc_S} {c : Nat} (row : List Int32) : fc_del (fc_up s 7 ((s 7).set c row)) 7 c = fc_up s 7 ((s 7).eraseIdx c) := by
  unfold fc_del
  rw [fc_up_same, fc_up_twice]
  congr 1
  rw [List.eraseIdx_eq_take_drop_succ, List.eraseIdx_eq_take_drop_succ, List.take_set_of_le (Nat.le_refl _), List.drop_set_of_lt (by omega)]
theorem fc_set2 {s : fc_S} {c : Nat} (row row' : List Int32) : fc_up (fc_up s 7 ((s 7).set c row)) 7 (((fc_up s 7 ((s 7).set c row)) 7).set c row') = fc_up s 7 ((s 7).set c row') := by rw [fc_up_same, fc_up_twice, List.set_set]
theorem fc_iK.kp01 {s : fc_S} {r : fr_S} (IK : fc_iK ns s) (H : fr_rel ns room idle s r) : ∀ j, j < (s 7).length → r.2 40 j = 0 ∨ r.2 40 j = 1 := fun j hj => by
  obtain ⟨f, t, l, st, wv, aw, kp, kn, way, hr, h1, h2, h4, h5, h6, h7, h8, h9⟩ := IK.row hj
  have := (H.2.2.2.2.2.2.2.2.row hr).2.2.2.2.2.2.2.1
  rw [this]
  exact h5
theorem fc_done_some {s : fc_S} {k : Nat} {wv : Int32} {row : List Int32} (hr : (s 7)[k]? = some row) (hk : row.getD 3 0 = wv) (hj : ∀ (j : Nat) (row : List Int32), j < k → (s 7)[j]? = some row → row.getD 3 0 ≠ wv) : (s 7).findIdx? (fun r => r.getD 3 0 == wv) = some k := fc_ix_some hr (by rw [hk]; simp) (fun j r hjk hr' => by simpa using hj j r hjk hr')
theorem fc_done_no {s : fc_S} {wv : Int32} (hj : ∀ (j : Nat) (row : List Int32), (s 7)[j]? = some row → row.getD 3 0 ≠ wv) : fc_done ns s wv = s := by
  rw [fc_done_eq, fc_ix_none (fun j r hr => by simpa using hj j r hr)]
theorem fc_done_at {s : fc_S} {k : Nat} {wv : Int32} {row : List Int32} (hr : (s 7)[k]? = some row) (hk : row.getD 3 0 = wv) (hj : ∀ (j : Nat) (row : List Int32), j < k → (s 7)[j]? = some row → row.getD 3 0 ≠ wv) : fc_done ns s wv = if row.getD 2 0 = 1 then fc_cnt ns s k else if row.getD 2 0 = 2 then (if 0 < row.getD 5 0 then fc_lead s k else fc_fin s k) else s := by
  rw [fc_done_eq, fc_done_some hr hk hj]
  show (if _ then _ else if _ then (if _ then _ else _) else _) = _
  rw [fc_get_row hr, fc_get_row hr]
theorem fc_done_row {s : fc_S} {k : Nat} {f t st wv aw ld kp kn : Int32} {way : List Int32} (hr : (s 7)[k]? = some ([f, t, st, wv, aw, ld, kp, kn] ++ way)) (hj : ∀ (j : Nat) (row : List Int32), j < k → (s 7)[j]? = some row → row.getD 3 0 ≠ wv) : fc_done ns s wv = if st = 1 then fc_cnt ns s k else if st = 2 then (if 0 < ld then fc_lead s k else fc_fin s k) else s := fc_done_at hr rfl hj
/-- a DONE that no clearing waits for leaves all as it was -/
theorem fz_J.heard2 {s : fc_S} (J : fz_J own W ns room s) {i k : Nat} {wv : Int32} {row : List Int32} {rest : List (List Int32)} (hi : i < ns) (hr : s (40 + i) = [2, wv, -1, -1, 0] :: rest) (hrk : (s 7)[k]? = some row) (hw : row.getD 3 0 = wv) (hst : ¬ row.getD 2 0 = 1) : fz_J own W ns room (fc_del s (40 + i) 0) := J.heard hi hr (fun row' hrow hst' e => by
  have e1 : wv = row'.getD 3 0 := (List.cons.inj (List.cons.inj e).2).1
  obtain ⟨⟨w, -, b, c⟩, -⟩ := J.2.2.2.1 row' hrow
  obtain ⟨⟨w2, -, b2, c2⟩, -⟩ := J.2.2.2.1 _ (List.mem_of_getElem? hrk)
  obtain ⟨j, hj⟩ := List.mem_iff_getElem?.mp hrow
  have hjk := J.2.2.2.2.1 j k row' _ hj hrk (by rw [← c, ← c2, ← b, ← b2, ← e1, hw])
  subst hjk
  rw [hrk] at hj
  cases hj
  exact hst hst')
theorem fc_lead_of {s : fc_S} {c l m : Nat} {f t st wv aw kp kn x0 : Int32} {way : List Int32} (hr : (s 7)[c]? = some ([f, t, st, wv, aw, nI (l + 1), kp, kn] ++ way)) (h2 : s 2 = [[x0]]) (hl : l < 1000) (hm : m < 1000) (hx : way[l]? = some (nI m)) : fc_add (fc_add (fc_up (fc_put s 2 0 0 (x0 + 1)) 7 ((s 7).set c ([f, t, st, x0 + 1, aw, nI l, kp, kn] ++ way))) (30 + m / 4) [0, nI (m % 4), f, t, 0]) (30 + m / 4) [2, x0 + 1, -1, -1, 0] = fc_lead s c := (fc_lead_eq hr h2 hl hm hx).symm
end IOD
