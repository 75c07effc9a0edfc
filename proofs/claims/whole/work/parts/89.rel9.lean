/-! send, carry: what they come to -/
section INV
variable {ns room idle : Nat}
theorem fc_send_b1 {s : fc_S} {f t nr : Int32} (h : fc_hs s f = false) : fc_send s f t nr = (false, s) := by unfold fc_send; rw [h]; rfl
theorem fc_send_b2 {s : fc_S} {f t nr : Int32} (h : fc_hs s f = true) (h' : fc_hs s t = false) : fc_send s f t nr = (false, s) := by unfold fc_send; rw [h, h']; rfl
theorem fc_send_b3 {s : fc_S} {f nr : Int32} (h : fc_hs s f = true) : fc_send s f f nr = (false, s) := by unfold fc_send; rw [h]; simp
theorem fc_send_ok {s : fc_S} {f t i p : Nat} {nr : Int32} (h : fc_hs s (nI f) = true) (h' : fc_hs s (nI t) = true) (hf : f < 1000) (ht : t < 1000) (hi : i < 1000) (hne : f ≠ t) (g1 : fc_get s 1 f 1 = nI i) (g2 : fc_get s 1 f 2 = nI p) : fc_send s (nI f) (nI t) nr = (true, fc_in s i (nI p) (nI f) (nI t) nr) := by
  unfold fc_send
  have e : (nI f != nI t) = true := by rw [bne_iff_ne]; exact fun z => hne ((nI_eq (by omega) (by omega)).mp z)
  rw [h, h', e, nI_clamp (n := f) (by omega), g1, g2, nI_clamp (n := i) (by omega)]
  rfl
theorem fc_carry_b1 {s : fc_S} {x p : Int32} (h : fc_pt ns x p = false) : fc_carry ns s x p = (false, s) := by unfold fc_carry fc_en; rw [h]; rfl
theorem fc_carry_eq {s : fc_S} (n5 : ns ≤ 5) {i p e : Nat} (hi : i < ns) (hp : p < 4) (h : fc_pt ns (nI i) (nI p) = true) (he : e = 4 * i + p) : fc_carry ns s (nI i) (nI p) = if fc_get s (100 + e) 0 1 ≠ -1 ∧ (s (200 + e)).length ≠ 0 then (true, if fc_get s (200 + e) 0 0 = -1 then fc_slight (fc_del s (200 + e) 0) (fc_mate s e / 4) [1, nI (fc_mate s e % 4), fc_get s (200 + e) 0 1, -1, 0] else fc_in (fc_del s (200 + e) 0) (fc_mate s e / 4) (nI (fc_mate s e % 4)) (fc_get s (200 + e) 0 0) (fc_get s (200 + e) 0 1) (fc_get s (200 + e) 0 2)) else (false, s) := by
  subst he
  unfold fc_carry fc_en
  rw [h, fc_e_nat (by omega) hp, Bool.true_and]
  by_cases q : fc_get s (100 + (4 * i + p)) 0 1 ≠ -1 ∧ (s (200 + (4 * i + p))).length ≠ 0
  · rw [if_pos q, if_pos]
    rw [Bool.and_eq_true, bne_iff_ne]
    refine ⟨q.1, ?_⟩
    cases hs : s (200 + (4 * i + p)) with
    | nil => rw [hs] at q; exact absurd rfl q.2
    | cons a b => rfl
  · rw [if_neg q, if_neg]
    rw [Bool.and_eq_true, bne_iff_ne]
    rintro ⟨z1, z2⟩
    refine q ⟨z1, fun z => ?_⟩
    rw [List.eq_nil_of_length_eq_zero z] at z2
    cases z2
theorem fr_wire0 {s : fc_S} {r : fr_S} (H : fr_rel ns room idle s r) (D : fc_iD ns room s) {e : Nat} (he : e < 4 * ns) (h0 : (s (200 + e)).length ≠ 0) : ∃ x0 x1 x2 : Int32, fc_frm ns [x0, x1, x2] ∧ fc_get s (200 + e) 0 0 = x0 ∧ fc_get s (200 + e) 0 1 = x1 ∧ fc_get s (200 + e) 0 2 = x2 ∧ r.2 13 (18 * e) = x0 ∧ r.2 13 (18 * e + 1) = x1 ∧ r.2 13 (18 * e + 2) = x2 := by
  have hr := List.getElem?_eq_getElem (show 0 < (s (200 + e)).length by omega)
  have hf := (D.2.2.2.1 e he).2 _ (List.getElem_mem (show 0 < (s (200 + e)).length by omega))
  have h := (H.2.2.2.1 e he).2 0 _ hr
  have sh : ∃ x0 x1 x2 : Int32, (s (200 + e))[0] = [x0, x1, x2] := by
    rcases hf with ⟨f, t, n, -, -, e⟩ | ⟨o, -, e⟩
    · exact ⟨_, _, _, e⟩
    · exact ⟨_, _, _, e⟩
  obtain ⟨x0, x1, x2, e0⟩ := sh
  rw [e0] at hr hf h
  refine ⟨x0, x1, x2, hf, by rw [fc_get_row hr]; rfl, by rw [fc_get_row hr]; rfl, by rw [fc_get_row hr]; rfl, h 0 (by omega), h 1 (by omega), h 2 (by omega)⟩
end INV
