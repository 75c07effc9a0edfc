/-! flood, links seen and down, places: how the reference's numbers move -/
section IOE
variable {ns room idle : Nat}
variable {own : Int32 → Int32 × Int32} {W : Nat}
theorem fc_flood_s (s : fc_S) (i : Nat) (port f t nr : Int32) (u : Nat) : fc_flood s i port f t nr (u + 1) = if fc_bits s i port u 4 ≠ 0 ∧ fc_len s (30 + u) < 16 then fc_add (fc_flood s i port f t nr u) (30 + u) [3, fc_bits s i port u 4, f, t, nr] else fc_flood s i port f t nr u := rfl
theorem fc_bits_s (s : fc_S) (i : Nat) (port : Int32) (u p : Nat) : fc_bits s i port u (p + 1) = if fc_get s 4 0 (4 * u + p) = 0 ∧ ¬ (u = i ∧ nI p = port) then fc_bits s i port u p ||| (1 <<< nI p) else fc_bits s i port u p := rfl
theorem fr_rel.ctl {s s' : fc_S} {r r' : fr_S} (H : fr_rel ns room idle s r) (n5 : ns ≤ 5) (ne : ∀ c, c ≠ 3 → c ≠ 4 → c ≠ 5 → s' c = s c) (m : fr_sm [28, 29, 30] r r') (hO : fr_rO ns s' (r'.2 28) (r'.2 29) (r'.2 30)) : fr_rel ns room idle s' r' := ⟨H.S m (by decide) (ne _ (by omega) (by omega) (by omega)), H.H m (by decide) (ne _ (by omega) (by omega) (by omega)), H.P m (by decide) (fun _ _ => ne _ (by omega) (by omega) (by omega)), H.W m (by decide) (fun _ _ => ne _ (by omega) (by omega) (by omega)), H.G m (by decide) (fun _ _ => ne _ (by omega) (by omega) (by omega)), H.R m (by decide) (fun _ _ => ne _ (by omega) (by omega) (by omega)), H.L m (by decide) (fun l hl => ne _ (by unfold fr_lc; split <;> omega) (by unfold fr_lc; split <;> omega) (by unfold fr_lc; split <;> omega)), hO, H.K m (by decide) (ne _ (by omega) (by omega) (by omega)) (ne _ (by omega) (by omega) (by omega))⟩
theorem fc_getD_set {l : List Int32} {i j : Nat} {x : Int32} (hi : i < l.length) : (l.set i x).getD j 0 = if j = i then x else l.getD j 0 := by
  rw [List.getD_eq_getElem?_getD, List.getD_eq_getElem?_getD]
  by_cases e : j = i
  · subst e
    rw [if_pos rfl, List.getElem?_set_self hi]
    rfl
  · rw [if_neg e, List.getElem?_set_ne (Ne.symm e)]
/-- a place is learnt -/
theorem fr_rel.place {s : fc_S} {r : fr_S} (H : fr_rel ns room idle s r) (n5 : ns ≤ 5) (Io : fc_iO ns s) {f x : Nat} (hf : f < 6) : fr_rel ns room idle (fc_put s 5 0 f (nI x)) (fr_up r 30 f (nI (x + 1))) := by
  obtain ⟨-, -, -, ⟨p0, h5, h5l, h5e⟩⟩ := Io
  have ep : fc_put s 5 0 f (nI x) = fc_up s 5 [p0.set f (nI x)] := by
    rw [fc_put1 (row := p0) (by rw [h5]; rfl), h5]
    rfl
  rw [ep]
  refine H.ctl n5 (fun c _ _ h => fc_up_ne _ h) ((fr_sm.refl _ r).up (by decide) _ _) ⟨fun e he => ?_, fun h hh => ?_⟩
  · have := H.2.2.2.2.2.2.2.1.1 e he
    rw [fr_up_ne (by decide), fr_up_ne (by decide)]
    unfold fc_get
    rw [fc_up_ne _ (by omega), fc_up_ne _ (by omega)]
    exact this
  · have := H.2.2.2.2.2.2.2.1.2 h hh
    have g5 : fc_get s 5 0 h = p0.getD h 0 := by unfold fc_get; rw [h5]; rfl
    rw [g5] at this
    have g6 : fc_get (fc_up s 5 [p0.set f (nI x)]) 5 0 h = (p0.set f (nI x)).getD h 0 := by unfold fc_get; rw [fc_up_same]; rfl
    rw [fr_up_hit, g6, fc_getD_set (by omega)]
    by_cases e : h = f
    · rw [if_pos e, if_pos e, nI_add]
    · rw [if_neg e, if_neg e]; exact this
/-- a link is seen: the numbers -/
def fr_sn1 (r : fr_S) (e o : Nat) : fr_S := fr_up (fr_up (fr_up (fr_up r 28 e (nI (o + 1))) 28 o (nI (e + 1))) 29 e (nI 1)) 29 o (nI 1)
theorem fr_rel.seen {s : fc_S} {r r' : fr_S} (H : fr_rel ns room idle s r) (n5 : ns ≤ 5) {ot mk p0 : List Int32} (h3 : s 3 = [ot]) (h4 : s 4 = [mk]) (h5 : s 5 = [p0]) (h3l : ot.length = 4 * ns) (h4l : mk.length = 4 * ns) (h5l : p0.length = 6) {e o : Nat} (he : e < 4 * ns) (ho : o < 4 * ns) (m : fr_sm [30] (fr_sn1 r e o) r') (h30 : ∀ h, h < 6 → r'.2 30 h = (if p0.getD h 0 = nI e ∨ p0.getD h 0 = nI o then -1 else p0.getD h 0) + nI 1) : fr_rel ns room idle (fc_up (fc_up (fc_up s 4 [(mk.set e 1).set o 1]) 3 [(ot.set e (nI o)).set o (nI e)]) 5 [p0.map (fun x => if x = nI e ∨ x = nI o then -1 else x)]) r' := by
  have m1 : fr_sm [28, 29, 30] r (fr_sn1 r e o) := ((((fr_sm.refl _ r).up (by decide) _ _).up (by decide) _ _).up (by decide) _ _).up (by decide) _ _
  have e28 : ∀ j, r'.2 28 j = if j = o then nI (e + 1) else if j = e then nI (o + 1) else r.2 28 j := fun j => by
    rw [(m 28 (by decide)).2]
    unfold fr_sn1
    rw [fr_up_ne (by decide), fr_up_ne (by decide), fr_up_hit, fr_up_hit]
  have e29 : ∀ j, r'.2 29 j = if j = o then nI 1 else if j = e then nI 1 else r.2 29 j := fun j => by
    rw [(m 29 (by decide)).2]
    unfold fr_sn1
    rw [fr_up_hit, fr_up_hit, fr_up_ne (by decide), fr_up_ne (by decide)]
  refine H.ctl n5 (fun c a b d => by rw [fc_up_ne _ d, fc_up_ne _ a, fc_up_ne _ b]) (m1.trans (m.mono (by decide))) ⟨fun j hj => ?_, fun h hh => ?_⟩
  · have := H.2.2.2.2.2.2.2.1.1 j hj
    have g3 : fc_get s 3 0 j = ot.getD j 0 := by unfold fc_get; rw [h3]; rfl
    have g4 : fc_get s 4 0 j = mk.getD j 0 := by unfold fc_get; rw [h4]; rfl
    rw [g3, g4] at this
    have g3' : fc_get (fc_up (fc_up (fc_up s 4 [(mk.set e 1).set o 1]) 3 [(ot.set e (nI o)).set o (nI e)]) 5 [p0.map (fun x => if x = nI e ∨ x = nI o then -1 else x)]) 3 0 j = ((ot.set e (nI o)).set o (nI e)).getD j 0 := by unfold fc_get; rw [fc_up_ne _ (by omega), fc_up_same]; rfl
    have g4' : fc_get (fc_up (fc_up (fc_up s 4 [(mk.set e 1).set o 1]) 3 [(ot.set e (nI o)).set o (nI e)]) 5 [p0.map (fun x => if x = nI e ∨ x = nI o then -1 else x)]) 4 0 j = ((mk.set e 1).set o 1).getD j 0 := by unfold fc_get; rw [fc_up_ne _ (by omega), fc_up_ne _ (by omega), fc_up_same]; rfl
    rw [g3', g4', e28, e29, fc_getD_set (by rw [List.length_set]; omega), fc_getD_set (by omega), fc_getD_set (by rw [List.length_set]; omega), fc_getD_set (by omega)]
    by_cases jo : j = o
    · rw [if_pos jo, if_pos jo, if_pos jo, if_pos jo]; exact ⟨(nI_add e 1).symm, rfl⟩
    · rw [if_neg jo, if_neg jo, if_neg jo, if_neg jo]
      by_cases je : j = e
      · rw [if_pos je, if_pos je, if_pos je, if_pos je]; exact ⟨(nI_add o 1).symm, rfl⟩
      · rw [if_neg je, if_neg je, if_neg je, if_neg je]; exact this
  · rw [h30 h hh]
    have g5 : fc_get (fc_up (fc_up (fc_up s 4 [(mk.set e 1).set o 1]) 3 [(ot.set e (nI o)).set o (nI e)]) 5 [p0.map (fun x => if x = nI e ∨ x = nI o then -1 else x)]) 5 0 h = (p0.map (fun x => if x = nI e ∨ x = nI o then -1 else x)).getD h 0 := by unfold fc_get; rw [fc_up_same]; rfl
    rw [g5, List.getD_eq_getElem?_getD, List.getD_eq_getElem?_getD, List.getElem?_map, List.getElem?_eq_getElem (by omega)]
    rfl
theorem fr_rel.dwn {s : fc_S} {r : fr_S} (H : fr_rel ns room idle s r) (n5 : ns ≤ 5) {ot : List Int32} (h3 : s 3 = [ot]) (h3l : ot.length = 4 * ns) {e o : Nat} (he : e < 4 * ns) (ho : o < 4 * ns) : fr_rel ns room idle (fc_up s 3 [(ot.set e (-1)).set o (-1)]) (fr_up (fr_up r 28 e (nI 0)) 28 o (nI 0)) := by
  refine H.ctl n5 (fun c a _ _ => fc_up_ne _ a) (((fr_sm.refl _ r).up (by decide) _ _).up (by decide) _ _) ⟨fun j hj => ?_, fun h hh => ?_⟩
  · have := H.2.2.2.2.2.2.2.1.1 j hj
    have g3 : fc_get s 3 0 j = ot.getD j 0 := by unfold fc_get; rw [h3]; rfl
    rw [g3] at this
    have g3' : fc_get (fc_up s 3 [(ot.set e (-1)).set o (-1)]) 3 0 j = ((ot.set e (-1)).set o (-1)).getD j 0 := by unfold fc_get; rw [fc_up_same]; rfl
    have g4' : fc_get (fc_up s 3 [(ot.set e (-1)).set o (-1)]) 4 0 j = fc_get s 4 0 j := by unfold fc_get; rw [fc_up_ne _ (by omega)]
    rw [g3', g4', fr_up_ne (show 29 ≠ 28 by decide), fr_up_ne (show 29 ≠ 28 by decide), fr_up_hit, fr_up_hit, fc_getD_set (by rw [List.length_set]; omega), fc_getD_set (by omega)]
    by_cases jo : j = o
    · rw [if_pos jo, if_pos jo]; exact ⟨by decide, this.2⟩
    · rw [if_neg jo, if_neg jo]
      by_cases je : j = e
      · rw [if_pos je, if_pos je]; exact ⟨by decide, this.2⟩
      · rw [if_neg je, if_neg je]; exact this
  · have := H.2.2.2.2.2.2.2.1.2 h hh
    rw [fr_up_ne (by decide), fr_up_ne (by decide), this]
    unfold fc_get
    rw [fc_up_ne _ (by omega)]
/-! hurt courses -/
theorem fc_hurt_yes {s : fc_S} {hurt : List Int32 → Bool} {k : Nat} {f t st wv aw ld kp kn : Int32} {way : List Int32} (hr : (s 7)[k]? = some ([f, t, st, wv, aw, ld, kp, kn] ++ way)) (h : hurt way = true) (hs : st = 1 ∨ st = 2 ∨ st = 3) (h1 : ¬ st = 1) : fc_hurt s hurt (k + 1) = fc_clr (fc_hurt s hurt k) k := by
  rw [fc_hurt_s, fc_way_row hr, fc_get_row hr]
  exact if_pos ⟨h, hs.resolve_left h1⟩
theorem fc_hurt_no {s : fc_S} {hurt : List Int32 → Bool} {k : Nat} {f t st wv aw ld kp kn : Int32} {way : List Int32} (hr : (s 7)[k]? = some ([f, t, st, wv, aw, ld, kp, kn] ++ way)) (h : hurt way = false ∨ st = 1) : fc_hurt s hurt (k + 1) = fc_hurt s hurt k := by
  rw [fc_hurt_s, fc_way_row hr, fc_get_row hr]
  refine if_neg (fun z => ?_)
  rcases h with h | h
  · rw [h] at z; exact absurd z.1 (by decide)
  · subst h
    rcases z.2 with z | z
    · exact absurd z (by show ¬ (1 : Int32) = 2; decide)
    · exact absurd z (by show ¬ (1 : Int32) = 3; decide)
theorem fc_last_eq {way : List Int32} (h : 0 < way.length) {m : Nat} (hx : way[way.length - 1]? = some (nI m)) : way.getLast? = some (nI m) := by rw [List.getLast?_eq_getElem?]; exact hx
end IOE
