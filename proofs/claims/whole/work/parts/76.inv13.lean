/-! what always holds: the controller -/
section INM
variable {ns room idle : Nat}
variable {own own' : Int32 → Int32 × Int32} {W W' : Nat}
/-- some waves later -/
def fz_N (W n ns room : Nat) (s : fc_S) : Prop := ∃ own W', W' ≤ W + n ∧ fz_J own W' ns room s
theorem fz_J.n {s : fc_S} (J : fz_J own W ns room s) (n : Nat) : fz_N W n ns room s := ⟨own, W, Nat.le_add_right _ _, J⟩
theorem fz_N.mono {s : fc_S} {n m : Nat} (h : fz_N W n ns room s) (hm : n ≤ m) : fz_N W m ns room s := by
  obtain ⟨o, w, a, b⟩ := h
  exact ⟨o, w, by omega, b⟩
theorem fz_J.clr1 {s : fc_S} (J : fz_J own W ns room s) (hW : W + 1 < 2 ^ 31) {k : Nat} (hk : k < (s 7).length) (hst : fc_get s 7 k 2 = 2 ∨ fc_get s 7 k 2 = 3) : fz_N W 1 ns room (fc_clr s k) := by
  obtain ⟨o, h⟩ := J.clr hW hk hst
  exact ⟨o, W + 1, Nat.le_refl _, h⟩
theorem fz_J.hurt {s : fc_S} (J : fz_J own W ns room s) (hurt : List Int32 → Bool) : ∀ k, k ≤ (s 7).length → W + k < 2 ^ 31 → fz_N W k ns room (fc_hurt s hurt k)
  | 0, _, _ => J.n 0
  | k + 1, hk, hW => by
    obtain ⟨o, w, a, b⟩ := fz_J.hurt J hurt k (by omega) (by omega)
    obtain ⟨IK', Io', hl, hj⟩ := fc_hurt_ok J.1.2.2.2.2.2.2.2.2 J.1.2.2.2.2.2.2.2.1 hurt k (by omega)
    rw [fc_hurt_s]
    split
    · next h =>
      have hst : fc_get (fc_hurt s hurt k) 7 k 2 = fc_get s 7 k 2 := by
        unfold fc_get
        have e : (fc_hurt s hurt k 7).getD k [] = (s 7).getD k [] := by rw [List.getD_eq_getElem?_getD, hj k (Nat.le_refl _), ← List.getD_eq_getElem?_getD]
        rw [e]
      obtain ⟨o', h'⟩ := b.clr (k := k) (by omega) (by omega) (by rw [hst]; exact h.2)
      exact ⟨o', w + 1, by omega, h'⟩
    · exact ⟨o, w, by omega, b⟩
/-- links and places change -/
theorem fz_J.ctl {s s' : fc_S} (J : fz_J own W ns room s) (Io : fc_iO ns s') (h : ∀ c, c ≠ 3 → c ≠ 4 → c ≠ 5 → s' c = s c) : fz_J own W ns room s' := by
  obtain ⟨h0, IH, IP, IW, IG, IR, IL, -, IK⟩ := id J.1
  have n5 := h0.2.1
  exact J.same ⟨h0, IH.same (fun c hc => h c (by omega) (by omega) (by omega)), IP.same (fun c hc => h c (by omega) (by omega) (by omega)), IW.same (fun c hc => h c (by omega) (by omega) (by omega)), IG.same (fun j hj => h _ (by omega) (by omega) (by omega)), IR.same (fun j hj => h _ (by omega) (by omega) (by omega)), IL.same (fun j hj => ⟨h _ (by omega) (by omega) (by omega), h _ (by omega) (by omega) (by omega)⟩), Io, IK.same (h _ (by omega) (by omega) (by omega))⟩ (h _ (by omega) (by omega) (by omega)) (h _ (by omega) (by omega) (by omega)) (fun j hj => ⟨h _ (by omega) (by omega) (by omega), h _ (by omega) (by omega) (by omega), h _ (by omega) (by omega) (by omega)⟩)
theorem fz_J.seen {s : fc_S} (J : fz_J own W ns room s) (hW : W + 6 < 2 ^ 31) {q o : Nat} (hq : q < 4 * ns) (ho : o < 4 * ns) : fz_N W 6 ns room (fc_seen s q o) := by
  have Io := J.1.2.2.2.2.2.2.2.1
  have h6 := J.1.2.2.2.2.2.2.2.2.1
  obtain ⟨-, ⟨ot, h3, h3l, h3e⟩, ⟨mk, h4, h4l, h4e⟩, ⟨p0, h5, h5l, h5e⟩⟩ := id Io
  unfold fc_seen fc_len
  rw [h3, h4, h5]
  have Io' : fc_iO ns (fc_up (fc_up (fc_up s 4 [(mk.set q 1).set o 1]) 3 [(ot.set q (nI o)).set o (nI q)]) 5 [p0.map (fun x => if x = nI q ∨ x = nI o then -1 else x)]) := by
    refine ((Io.up4 (by rw [List.length_set, List.length_set]; exact h4l) (am_set2 h4e (Or.inr rfl) (Or.inr rfl))).up3 (by rw [List.length_set, List.length_set]; exact h3l) (am_set2 h3e (Or.inr ⟨o, ho, rfl⟩) (Or.inr ⟨q, hq, rfl⟩))).up5 (by rw [List.length_map]; exact h5l) (fun x hx => ?_)
    obtain ⟨y, hy, rfl⟩ := List.mem_map.mp hx
    show fc_end ns (if y = nI q ∨ y = nI o then -1 else y)
    split
    · exact Or.inl rfl
    · exact h5e y hy
  have ne : ∀ c, c ≠ 3 → c ≠ 4 → c ≠ 5 → (fc_up (fc_up (fc_up s 4 [(mk.set q 1).set o 1]) 3 [(ot.set q (nI o)).set o (nI q)]) 5 [p0.map (fun x => if x = nI q ∨ x = nI o then -1 else x)]) c = s c := fun c a b d => by rw [fc_up_ne _ d, fc_up_ne _ a, fc_up_ne _ b]
  have J' := J.ctl Io' ne
  exact (J'.hurt _ (s 7).length (by rw [ne 7 (by omega) (by omega) (by omega)]; exact Nat.le_refl _) (by omega)).mono h6
theorem fz_J.down {s : fc_S} (J : fz_J own W ns room s) (hW : W + 6 < 2 ^ 31) (q : Nat) : fz_N W 6 ns room (fc_down s q) := by
  have Io := J.1.2.2.2.2.2.2.2.1
  have h6 := J.1.2.2.2.2.2.2.2.2.1
  obtain ⟨-, ⟨ot, h3, h3l, h3e⟩, -⟩ := id Io
  unfold fc_down fc_len
  split
  · exact J.n 6
  · rw [h3]
    have Io' := Io.up3 (o := (ot.set q (-1)).set (fc_get s 3 0 q).toNatClampNeg (-1)) (by rw [List.length_set, List.length_set]; exact h3l) (am_set2 h3e (Or.inl rfl) (Or.inl rfl))
    have J' := J.ctl Io' (fun c a b d => fc_up_ne _ a)
    exact (J'.hurt _ (s 7).length (by rw [fc_up_ne _ (by omega)]; exact Nat.le_refl _) (by omega)).mono h6
theorem fz_J.noroom {s : fc_S} (J : fz_J own W ns room s) (hW : W + 6 < 2 ^ 31) (x z : Int32) : fz_N W 6 ns room (fc_noroom s x z) := by
  unfold fc_noroom
  cases hx : fc_cix s x z with
  | none => exact J.n 6
  | some k =>
    have hk := fc_cix_some hx
    obtain ⟨f, t, l, st, wv, aw, kp, kn, way, hr, h1, h2, h4, h5, h6, h7, h8, h9⟩ := J.1.2.2.2.2.2.2.2.2.row hk
    show fz_N W 6 ns room (if _ then _ else _)
    rw [fc_get_row hr]
    split
    · next h =>
      have ep : fc_put s 7 k 6 0 = fc_up s 7 ((s 7).set k ([nI f, nI t, st, wv, aw, nI l, 0, kn] ++ way)) := fc_put_row hr 0
      rw [ep]
      have J' := J.keep (kp' := 0) (kn' := kn) hr (Or.inl rfl)
      have hr' : ((fc_up s 7 ((s 7).set k ([nI f, nI t, st, wv, aw, nI l, 0, kn] ++ way))) 7)[k]? = some ([nI f, nI t, st, wv, aw, nI l, 0, kn] ++ way) := by rw [fc_up_same, List.getElem?_set_self hk]
      exact (J'.clr1 (by omega) (by rw [fc_up_same, List.length_set]; exact hk) (Or.inl (by rw [fc_get_row hr']; exact h))).mono (by omega)
    · exact J.n 6
theorem fz_J.wentOff {s : fc_S} (J : fz_J own W ns room s) (hW : W + 6 < 2 ^ 31) (i : Nat) (x z : Int32) : fz_N W 6 ns room (fc_wentOff s i x z) := by
  unfold fc_wentOff
  cases hx : fc_cix s x z with
  | none => exact J.n 6
  | some k =>
    show fz_N W 6 ns room (if _ then _ else _)
    split
    · next h => exact (J.clr1 (by omega) (fc_cix_some hx) h.1).mono (by omega)
    · exact J.n 6
theorem fz_J.flood {s : fc_S} (J : fz_J own W ns room s) (i : Nat) (port : Int32) {f t : Nat} (hf : f < 6) (ht : t < 6) (nr : Int32) : ∀ u, u ≤ ns → fz_J own W ns room (fc_flood s i port (nI f) (nI t) nr u)
  | 0, _ => J
  | u + 1, h => by
    have J' := fz_J.flood J i port hf ht nr u (by omega)
    show fz_J own W ns room (if _ then _ else _)
    split
    · next q =>
      exact J'.lightO (by omega) (Or.inr (Or.inr (Or.inr (Or.inl ⟨_, nr, f, t, hf, ht, rfl⟩)))) rfl (by rw [fc_flood_ne (by omega)]; exact q.2)
    · exact J'
theorem fc_cix_none {s : fc_S} {x z : Int32} (h : fc_cix s x z = none) : ∀ r ∈ s 7, fz_pr r ≠ (x, z) := fun r hr e => by
  unfold fc_cix at h
  have := List.findIdx?_eq_none_iff.mp h r hr
  unfold fz_pr at e
  have e0 := congrArg Prod.fst e
  have e1 := congrArg Prod.snd e
  simp only at e0 e1
  rw [e0, e1] at this
  simp at this
theorem fz_J.make {s : fc_S} (J : fz_J own W ns room s) (hW : W + 6 < 2 ^ 31) {f t : Nat} (hf : f < 6) (ht : t < 6) (nr : Int32) (hx : fc_cix s (nI f) (nI t) = none) : fz_N W 6 ns room (fc_make ns s (nI f) (nI t) nr) := by
  obtain ⟨h0, IH, IP, IW, IG, IR, IL, Io, IK⟩ := id J.1
  have n5 := h0.2.1
  have ok := fc_make_ok n5 IK Io hf ht nr
  revert ok
  unfold fc_make fc_len
  by_cases h6 : 6 ≤ (s 7).length
  · rw [if_pos h6]; exact fun _ => J.n 6
  rw [if_neg h6]
  by_cases he : (fc_wayOf ns s (nI f) (nI t)).isEmpty = true
  · rw [if_pos he]; exact fun _ => J.n 6
  rw [if_neg he]
  intro ok
  obtain ⟨hw5, hwe⟩ := fc_wayOf_ok n5 Io hf ht
  obtain ⟨h2, hL, hK, h1, hN⟩ := id J.2
  have e7 : fc_add s 7 [nI f, nI t, 2, 0, 0, 0, 1, nr] 7 = s 7 ++ [[nI f, nI t, 2, 0, 0, 0, 1, nr]] := fc_add_same _ _ _
  have hno := fc_cix_none hx
  have T : ∀ i z, fz_T own (fc_add s 7 [nI f, nI t, 2, 0, 0, 0, 1, nr]) i z = fz_T own s i z := fun i z => by
    unfold fz_T
    rw [fc_add_ne _ (by omega), fc_add_ne _ (by omega), fc_add_ne _ (by omega)]
  have lt : ∀ (j : Nat) (r : List Int32), j ≠ (s 7).length → (s 7 ++ [[nI f, nI t, 2, 0, 0, 0, 1, nr]])[j]? = some r → (s 7)[j]? = some r := fun j r hj hr => by
    have hlt := (List.getElem?_eq_some_iff.mp hr).1
    rw [List.length_append, List.length_singleton] at hlt
    rw [List.getElem?_append_left (by omega)] at hr
    exact hr
  have last : (s 7 ++ [[nI f, nI t, 2, 0, 0, 0, 1, nr]])[(s 7).length]? = some [nI f, nI t, 2, 0, 0, 0, 1, nr] := by rw [List.getElem?_append_right (Nat.le_refl _), Nat.sub_self]; rfl
  have X : fz_X own W ns (fc_add s 7 [nI f, nI t, 2, 0, 0, 0, 1, nr]) (s 7).length := by
    refine ⟨by rw [fc_add_ne _ (by omega)]; exact h2, fun i hi => by rw [fc_add_ne _ (by omega), fc_add_ne _ (by omega)]; exact hL i hi, fun j r hj hr => ?_, fun j j' r r' hj hj' e => ?_, fun z hz i hi => ?_⟩
    · rw [e7] at hr
      have h := hK r (List.mem_of_getElem? (lt j r hj hr))
      refine ⟨h.1, ?_⟩
      rw [show (fun i => fz_T own (fc_add s 7 [nI f, nI t, 2, 0, 0, 0, 1, nr]) i (fz_pr r)) = fun i => fz_T own s i (fz_pr r) from funext fun i => T i _]
      exact h.2
    · rw [e7] at hj hj'
      by_cases a : j = (s 7).length
      · by_cases b : j' = (s 7).length
        · omega
        · subst a
          rw [last] at hj
          cases hj
          exact absurd e.symm (hno r' (List.mem_of_getElem? (lt j' r' b hj')))
      · by_cases b : j' = (s 7).length
        · subst b
          rw [last] at hj'
          cases hj'
          exact absurd e (hno r (List.mem_of_getElem? (lt j r a hj)))
        · exact h1 j j' r r' (lt j r a hj) (lt j' r' b hj') e
    · rw [T]
      exact hN z (fun r hr => hz r (by rw [e7]; exact List.mem_append_left _ hr)) i hi
  obtain ⟨a, b⟩ := X.lay (way := fc_wayOf ns s (nI f) (nI t)) (way0 := []) (st := 2) (wv := 0) (aw := 0) (ld := 0) (kp := 1) (kn := nr) n5 (by omega) (IL.same (fun j hj => ⟨fc_add_ne _ (by omega), fc_add_ne _ (by omega)⟩)) (by rw [e7]; exact last) hf ht (by rw [List.isEmpty_iff_length_eq_zero] at he; exact he) hw5 (fc_wayOf_nd n5 Io hf ht) hwe (fun j r hj hr => by
    rw [e7] at hr
    exact IK.sw n5 r (List.mem_of_getElem? (lt j r hj hr))) (fun i hi => by rw [T]; exact hN _ hno i hi)
  exact ⟨_, W + 1, by omega, fz_asm J.1 ⟨fun c hc => (b.1 c hc).trans (fc_add_ne _ (by omega)), b.2⟩ ok.1 ok.2 a⟩
theorem fz_J.miss {s : fc_S} (J : fz_J own W ns room s) (hW : W + 6 < 2 ^ 31) {i p f t : Nat} (hi : i < ns) (hp : p ≤ 4) (hf : f < 6) (ht : t < 6) (nr : Int32) : fz_N W 6 ns room (fc_miss ns s i (nI p) (nI f) (nI t) nr) := by
  have n5 := J.1.1.2.1
  rw [fc_miss_2]
  have J1 : fz_J own W ns room (if nI p ≠ 4 ∧ fc_get s 4 0 (4 * i + (nI p).toNatClampNeg) = 0 then fc_put s 5 0 (nI f).toNatClampNeg (nI (4 * i + (nI p).toNatClampNeg)) else s) := by
    split
    · next h =>
      have Io := J.1.2.2.2.2.2.2.2.1
      obtain ⟨-, -, -, ⟨p0, h5, h5l, h5e⟩⟩ := id Io
      have hp4 : p ≠ 4 := fun e => h.1 (by rw [e]; rfl)
      have ep : fc_put s 5 0 (nI f).toNatClampNeg (nI (4 * i + (nI p).toNatClampNeg)) = fc_up s 5 [p0.set f (nI (4 * i + p))] := by
        rw [fc_put1 (row := p0) (by rw [h5]; rfl), h5, nI_clamp (by omega), nI_clamp (by omega)]
        rfl
      rw [ep]
      refine J.ctl (Io.up5 (by rw [List.length_set]; exact h5l) (fun x hx => ?_)) (fun c a b d => fc_up_ne _ d)
      rcases List.mem_or_eq_of_mem_set hx with h | h
      · exact h5e x h
      · exact Or.inr ⟨4 * i + p, by omega, h⟩
    · exact J
  revert J1
  generalize (if nI p ≠ 4 ∧ fc_get s 4 0 (4 * i + (nI p).toNatClampNeg) = 0 then fc_put s 5 0 (nI f).toNatClampNeg (nI (4 * i + (nI p).toNatClampNeg)) else s) = s1
  intro J1
  unfold fc_mis2
  cases hx : fc_cix s1 (nI f) (nI t) with
  | none =>
    show fz_N W 6 ns room (if _ then _ else _)
    split
    · exact (J1.flood i _ hf ht nr ns (Nat.le_refl _)).n 6
    · exact J1.make hW hf ht nr hx
  | some k =>
    have hk := fc_cix_some hx
    obtain ⟨f', t', l, st, wv, aw, kp, kn, way, hr, h1, h2, h4, h5, h6, h7, h8, h9⟩ := J1.1.2.2.2.2.2.2.2.2.row hk
    have J2 := J1.keep (kp' := 1) (kn' := nr) hr (Or.inr rfl)
    show fz_N W 6 ns room (if _ then _ else _)
    rw [fc_putk hr, fc_get_row hr]
    split
    · next h =>
      have hr' : ((fc_up s1 7 ((s1 7).set k ([nI f', nI t', st, wv, aw, nI l, 1, nr] ++ way))) 7)[k]? = some ([nI f', nI t', st, wv, aw, nI l, 1, nr] ++ way) := by rw [fc_up_same, List.getElem?_set_self hk]
      exact (J2.clr1 (by omega) (by rw [fc_up_same, List.length_set]; exact hk) (Or.inr (by rw [fc_get_row hr']; exact h))).mono (by omega)
    · exact J2.n 6
theorem fc_done_eq (ns : Nat) (s : fc_S) (wv : Int32) : fc_done ns s wv = match (s 7).findIdx? (fun r => r.getD 3 0 == wv) with | none => s | some k => if fc_get s 7 k 2 = 1 then fc_cnt ns s k else if fc_get s 7 k 2 = 2 then (if 0 < fc_get s 7 k 5 then fc_lead s k else fc_fin s k) else s := rfl
theorem fz_J.done {s : fc_S} (J : fz_J own W ns room s) (hW : W + 6 < 2 ^ 31) {i : Nat} {wv : Int32} {rest : List (List Int32)} (hi : i < ns) (hr : s (40 + i) = [2, wv, -1, -1, 0] :: rest) : fz_N W 6 ns room (fc_done ns (fc_del s (40 + i) 0) wv) := by
  have n5 := J.1.1.2.1
  have IK := J.1.2.2.2.2.2.2.2.2
  have Io := J.1.2.2.2.2.2.2.2.1
  have IL := J.1.2.2.2.2.2.2.1
  have e7 : fc_del s (40 + i) 0 7 = s 7 := fc_del_ne _ (by omega)
  rw [fc_done_eq, e7]
  cases hx : (s 7).findIdx? (fun r => r.getD 3 0 == wv) with
  | none =>
    refine (J.heard hi hr (fun row hrow _ e => ?_)).n 6
    have := List.findIdx?_eq_none_iff.mp hx row hrow
    have e1 : wv = row.getD 3 0 := (List.cons.inj (List.cons.inj e).2).1
    rw [← e1] at this
    simp at this
  | some k =>
    obtain ⟨hk, hk2, -⟩ := List.findIdx?_eq_some_iff_getElem.mp hx
    obtain ⟨f, t, l, st, wv', aw, kp, kn, way, hrk, h1, h2, h4, h5, h6, h7, h8, h9⟩ := IK.row hk
    have ewv : wv' = wv := by
      rw [List.getElem?_eq_getElem hk] at hrk
      rw [Option.some.inj hrk] at hk2
      simpa using hk2
    subst ewv
    have hr1 : ((fc_del s (40 + i) 0) 7)[k]? = some ([nI f, nI t, st, wv', aw, nI l, kp, kn] ++ way) := by rw [e7]; exact hrk
    show fz_N W 6 ns room (if _ then _ else _)
    rw [fc_get_row hr1, fc_get_row hr1]
    show fz_N W 6 ns room (if st = 1 then _ else if st = 2 then (if 0 < nI l then _ else _) else _)
    by_cases st1 : st = 1
    · rw [if_pos st1]
      subst st1
      obtain ⟨Jc, hnil⟩ := J.count hi hr hrk
      rw [fc_cnt_row hr1]
      by_cases ha : 0 < aw - 1
      · rw [if_pos ha]; exact Jc.n 6
      rw [if_neg ha]
      have hnil' := hnil ha
      have Tc : ∀ j z, fz_T own (fc_up (fc_del s (40 + i) 0) 7 (((fc_del s (40 + i) 0) 7).set k ([nI f, nI t, 1, wv', aw - 1, nI l, kp, kn] ++ way))) j z = fz_T own (fc_del s (40 + i) 0) j z := fun j z => by
        unfold fz_T
        rw [fc_up_ne _ (by omega), fc_up_ne _ (by omega), fc_up_ne _ (by omega)]
      have hrc : ((fc_up (fc_del s (40 + i) 0) 7 (((fc_del s (40 + i) 0) 7).set k ([nI f, nI t, 1, wv', aw - 1, nI l, kp, kn] ++ way))) 7)[k]? = some ([nI f, nI t, 1, wv', aw - 1, nI l, kp, kn] ++ way) := by rw [fc_up_same, e7, List.getElem?_set_self hk]
      by_cases hb : kp = 0 ∨ (fc_wayOf ns (fc_del s (40 + i) 0) (nI f) (nI t)).isEmpty = true
      · rw [if_pos hb]
        have := Jc.off hrc (fun j hj => by rw [Tc]; exact hnil' j hj)
        rw [fc_up_same, fc_up_twice] at this
        have ee : (((fc_del s (40 + i) 0) 7).set k ([nI f, nI t, 1, wv', aw - 1, nI l, kp, kn] ++ way)).eraseIdx k = ((fc_del s (40 + i) 0) 7).eraseIdx k := by
          rw [List.eraseIdx_eq_take_drop_succ, List.eraseIdx_eq_take_drop_succ, List.take_set_of_le (Nat.le_refl _), List.drop_set_of_lt (by omega)]
        rw [ee] at this
        exact this.n 6
      · rw [if_neg hb]
        have D1 : fc_iD ns room (fc_del s (40 + i) 0) := J.1.delL 0 (Or.inr ⟨by omega, by omega⟩)
        have Io1 := D1.2.2.2.2.2.2.2.1
        obtain ⟨hw5, hwe⟩ := fc_wayOf_ok n5 Io1 h1 h2
        have hne : (fc_wayOf ns (fc_del s (40 + i) 0) (nI f) (nI t)).length ≠ 0 := fun z => hb (Or.inr (by rw [List.isEmpty_iff_length_eq_zero]; exact z))
        obtain ⟨a, b⟩ := (Jc.2.but k).lay (way := fc_wayOf ns (fc_del s (40 + i) 0) (nI f) (nI t)) n5 (by omega) Jc.1.2.2.2.2.2.2.1 hrc h1 h2 hne hw5 (fc_wayOf_nd n5 Io1 h1 h2) hwe (fun j r _ hj => Jc.1.2.2.2.2.2.2.2.2.sw n5 r (List.mem_of_getElem? hj)) (fun j hj => by rw [Tc]; exact hnil' j hj)
        have ok := fc_lay_ok (way := fc_wayOf ns (fc_del s (40 + i) 0) (nI f) (nI t)) n5 (Jc.1.2.2.2.2.2.2.2.2.but k) Jc.1.2.2.2.2.2.2.2.1 hrc h1 h2 h5 hne hw5 hwe
        exact ⟨_, W + 1, by omega, fz_asm Jc.1 b ok.1 ok.2 a⟩
    · rw [if_neg st1]
      have J1 : fz_J own W ns room (fc_del s (40 + i) 0) := J.heard hi hr (fun row hrow hst e => by
        have e1 : wv' = row.getD 3 0 := (List.cons.inj (List.cons.inj e).2).1
        obtain ⟨⟨w, -, b, c⟩, -⟩ := J.2.2.2.1 row hrow
        obtain ⟨⟨w2, -, b2, c2⟩, -⟩ := J.2.2.2.1 _ (List.mem_of_getElem? hrk)
        obtain ⟨j, hj⟩ := List.mem_iff_getElem?.mp hrow
        have b2' : wv' = nI w2 := b2
        have hjk := J.2.2.2.2.1 j k row _ hj hrk (by rw [← c, ← c2, ← b, ← e1, ← b2'])
        subst hjk
        rw [hrk] at hj
        cases hj
        exact st1 hst)
      by_cases st2 : st = 2
      · rw [if_pos st2]
        subst st2
        by_cases hl : 0 < nI l
        · rw [if_pos hl]
          have hl0 : 0 < l := by
            rcases Nat.eq_zero_or_pos l with h | h
            · subst h; exact absurd hl (by decide)
            · exact h
          obtain ⟨l', rfl⟩ : ∃ l', l = l' + 1 := ⟨l - 1, by omega⟩
          obtain ⟨o, h⟩ := J1.lead (by omega) hr1 h1 h2 h5 (by omega) h7 h9
          exact ⟨o, W + 1, by omega, h⟩
        · rw [if_neg hl]
          have hl0 : l = 0 := by
            rcases Nat.eq_zero_or_pos l with h | h
            · exact h
            · have := nI_lt h (show l < 2 ^ 31 by omega)
              rw [nI_0] at this
              exact absurd this hl
          subst hl0
          exact (J1.fin hr1 h1 h2 h5 (by omega) h7 h9).n 6
      · rw [if_neg st2]
        exact J1.n 6
theorem fz_J.report {s : fc_S} (J : fz_J own W ns room s) (hW : W + 6 < 2 ^ 31) (x : Int32) : fz_N W 6 ns room (fc_report ns s x).2 := by
  unfold fc_report
  split
  · next h =>
    have n5 := J.1.1.2.1
    rw [Bool.and_eq_true] at h
    obtain ⟨i, hi, rfl⟩ := fc_sw_nat n5 h.1
    have he := h.2
    rw [nI_clamp (by omega)] at he ⊢
    show fz_N W 6 ns room (fc_hears _ _ _ _)
    cases hr : s (40 + i) with
    | nil => rw [hr] at he; simp at he
    | cons r rest =>
    show fz_N W 6 ns room (fc_hears ns (fc_del s (40 + i) 0) i r)
    have hd : r.getD 0 0 ≠ 2 → fz_J own W ns room (fc_del s (40 + i) 0) := fun h2 => J.heard hi hr (fun row hrow _ e => h2 (by rw [e]; rfl))
    rcases ((J.1.2.2.2.2.2.2.1 i hi).2.2 r (by rw [hr]; exact List.mem_cons_self ..)) with ⟨p, f, t, n, hp, hf, ht, rfl⟩ | ⟨p, o, hp, ho, rfl⟩ | ⟨w, rfl⟩ | ⟨f, t, hf, ht, rfl⟩ | ⟨f, t, hf, ht, rfl⟩ | ⟨p, hp, rfl⟩
    · rw [fc_h0]; exact (hd (by show (0 : Int32) ≠ 2; decide)).miss hW hi hp hf ht n
    · rw [fc_h1, nI_clamp (by omega), nI_clamp (by omega)]; exact (hd (by show (1 : Int32) ≠ 2; decide)).seen hW (by omega) ho
    · rw [fc_h2]; exact J.done hW hi hr
    · rw [fc_h3]; exact (hd (by show (3 : Int32) ≠ 2; decide)).noroom hW _ _
    · rw [fc_h4]; exact (hd (by show (4 : Int32) ≠ 2; decide)).wentOff hW _ _ _
    · rw [fc_h5]; exact (hd (by show (5 : Int32) ≠ 2; decide)).down hW _
  · exact J.n 6
/-- at the start -/
theorem fz_J.zero (h2 : 2 ≤ ns) (hn : ns ≤ 5) (hr : 1 ≤ room) (hr8 : room ≤ 8) : fz_J (fun _ => (0, 0)) 0 ns room (fc_0 ns) := by
  have nil : ∀ c, c ≠ 0 → c ≠ 2 → c ≠ 3 → c ≠ 4 → c ≠ 5 → ¬ (100 ≤ c ∧ c < 200) → fc_0 ns c = [] := fun c a0 a2 a3 a4 a5 a => fc_0_nil a0 a2 a3 a4 a5 a
  have z20 : ∀ j, j < ns → fc_0 ns (20 + j) = [] := fun j hj => nil _ (by omega) (by omega) (by omega) (by omega) (by omega) (by omega)
  have z30 : ∀ j, j < ns → fc_0 ns (30 + j) = [] := fun j hj => nil _ (by omega) (by omega) (by omega) (by omega) (by omega) (by omega)
  have z40 : ∀ j, j < ns → fc_0 ns (40 + j) = [] := fun j hj => nil _ (by omega) (by omega) (by omega) (by omega) (by omega) (by omega)
  have z7 : fc_0 ns 7 = [] := nil _ (by omega) (by omega) (by omega) (by omega) (by omega) (by omega)
  refine ⟨fc_iD.zero h2 hn hr hr8, by rfl, fun j hj => ?_, fun row (h : row ∈ fc_0 ns 7) => absurd h (by rw [z7]; simp), fun j k r r' (h : (fc_0 ns 7)[j]? = some r) => absurd h (by rw [z7]; simp), fun z _ j hj => ?_⟩
  · rw [z30 j hj, z40 j hj]
    exact ⟨fun r h => absurd h (by simp), fun r h => absurd h (by simp), Nat.zero_le _, Nat.zero_le _⟩
  · unfold fz_T
    rw [z20 j hj, z30 j hj, z40 j hj]
    rfl
end INM
